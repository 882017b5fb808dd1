section
-- ===== PART A: goes FIRST, ahead of the names: the tables' words, and 'selects' of the private methods out of them =====
/-- a private method of a class that the tables say can be made, by its rows of tables_1 -/
def lw_okq (q : MethodName × Nat) : Prop := (q.1.cls ≠ "java/lang/invoke/MethodHandle" ∧ q.1.cls ≠ "java/lang/invoke/VarHandle") ∧ Cond.instantiable q.1.cls q.2 ∈ tables_1 ∧ Cond.privateMethod q.1 ∈ tables_1 ∧ Cond.instanceMethod q.1 ∈ tables_1
theorem lw_p0 : lw_okq (⟨"KeyMeeting", "numbersAreFit", "()Z"⟩, 13) := ⟨⟨by decide +kernel, by decide +kernel⟩, List.mem_of_getElem? (i := 16) (by decide +kernel), List.mem_of_getElem? (i := 136) (by decide +kernel), List.mem_of_getElem? (i := 137) (by decide +kernel)⟩
theorem lw_p1 : lw_okq (⟨"KeyMeeting", "isFitPower", "([I)Z"⟩, 13) := ⟨⟨by decide +kernel, by decide +kernel⟩, List.mem_of_getElem? (i := 16) (by decide +kernel), List.mem_of_getElem? (i := 144) (by decide +kernel), List.mem_of_getElem? (i := 145) (by decide +kernel)⟩
theorem lw_p2 : lw_okq (⟨"KeyMeeting$Host", "multiplyBoth", "([I)V"⟩, 5) := ⟨⟨by decide +kernel, by decide +kernel⟩, List.mem_of_getElem? (i := 26) (by decide +kernel), List.mem_of_getElem? (i := 162) (by decide +kernel), List.mem_of_getElem? (i := 163) (by decide +kernel)⟩
theorem lw_p3 : lw_okq (⟨"KeyMeeting$Host", "invert", "()Z"⟩, 5) := ⟨⟨by decide +kernel, by decide +kernel⟩, List.mem_of_getElem? (i := 26) (by decide +kernel), List.mem_of_getElem? (i := 179) (by decide +kernel), List.mem_of_getElem? (i := 180) (by decide +kernel)⟩
theorem lw_p4 : lw_okq (⟨"KeyMeeting$Host", "restOfInverse", "()J"⟩, 5) := ⟨⟨by decide +kernel, by decide +kernel⟩, List.mem_of_getElem? (i := 26) (by decide +kernel), List.mem_of_getElem? (i := 183) (by decide +kernel), List.mem_of_getElem? (i := 184) (by decide +kernel)⟩
theorem lw_p5 : lw_okq (⟨"KeyMeeting$Host", "divideInverse", "(J)V"⟩, 5) := ⟨⟨by decide +kernel, by decide +kernel⟩, List.mem_of_getElem? (i := 26) (by decide +kernel), List.mem_of_getElem? (i := 192) (by decide +kernel), List.mem_of_getElem? (i := 193) (by decide +kernel)⟩
theorem lw_p6 : lw_okq (⟨"KeyMeeting$Modulus", "multiply", "([I[I[I)V"⟩, 6) := ⟨⟨by decide +kernel, by decide +kernel⟩, List.mem_of_getElem? (i := 51) (by decide +kernel), List.mem_of_getElem? (i := 218) (by decide +kernel), List.mem_of_getElem? (i := 219) (by decide +kernel)⟩
theorem lw_p7 : lw_okq (⟨"KeyMeeting$Modulus", "reduce", "()V"⟩, 6) := ⟨⟨by decide +kernel, by decide +kernel⟩, List.mem_of_getElem? (i := 51) (by decide +kernel), List.mem_of_getElem? (i := 223) (by decide +kernel), List.mem_of_getElem? (i := 224) (by decide +kernel)⟩
theorem lw_p8 : lw_okq (⟨"KeyMeeting$Modulus", "guessDigit", "(I)J"⟩, 6) := ⟨⟨by decide +kernel, by decide +kernel⟩, List.mem_of_getElem? (i := 51) (by decide +kernel), List.mem_of_getElem? (i := 227) (by decide +kernel), List.mem_of_getElem? (i := 228) (by decide +kernel)⟩
theorem lw_p9 : lw_okq (⟨"KeyMeeting$Modulus", "takeAway", "(JI)V"⟩, 6) := ⟨⟨by decide +kernel, by decide +kernel⟩, List.mem_of_getElem? (i := 51) (by decide +kernel), List.mem_of_getElem? (i := 232) (by decide +kernel), List.mem_of_getElem? (i := 233) (by decide +kernel)⟩
theorem lw_p10 : lw_okq (⟨"KeyMeeting$Modulus", "giveBack", "(I)J"⟩, 6) := ⟨⟨by decide +kernel, by decide +kernel⟩, List.mem_of_getElem? (i := 51) (by decide +kernel), List.mem_of_getElem? (i := 236) (by decide +kernel), List.mem_of_getElem? (i := 237) (by decide +kernel)⟩
theorem lw_p11 : lw_okq (⟨"KeyMeeting", "endWith", "(I)I"⟩, 13) := ⟨⟨by decide +kernel, by decide +kernel⟩, List.mem_of_getElem? (i := 16) (by decide +kernel), List.mem_of_getElem? (i := 254) (by decide +kernel), List.mem_of_getElem? (i := 255) (by decide +kernel)⟩
theorem lw_p12 : lw_okq (⟨"KeyMeeting", "makeHash", "(I[I)V"⟩, 13) := ⟨⟨by decide +kernel, by decide +kernel⟩, List.mem_of_getElem? (i := 16) (by decide +kernel), List.mem_of_getElem? (i := 258) (by decide +kernel), List.mem_of_getElem? (i := 259) (by decide +kernel)⟩
theorem lw_p13 : lw_okq (⟨"KeyMeeting$Digest", "putWord", "(I)V"⟩, 3) := ⟨⟨by decide +kernel, by decide +kernel⟩, List.mem_of_getElem? (i := 76) (by decide +kernel), List.mem_of_getElem? (i := 273) (by decide +kernel), List.mem_of_getElem? (i := 274) (by decide +kernel)⟩
theorem lw_p14 : lw_okq (⟨"KeyMeeting$Digest", "mixRow", "()V"⟩, 3) := ⟨⟨by decide +kernel, by decide +kernel⟩, List.mem_of_getElem? (i := 76) (by decide +kernel), List.mem_of_getElem? (i := 277) (by decide +kernel), List.mem_of_getElem? (i := 278) (by decide +kernel)⟩
theorem lw_p15 : lw_okq (⟨"KeyMeeting$Digest", "spreadRow", "()V"⟩, 3) := ⟨⟨by decide +kernel, by decide +kernel⟩, List.mem_of_getElem? (i := 76) (by decide +kernel), List.mem_of_getElem? (i := 281) (by decide +kernel), List.mem_of_getElem? (i := 282) (by decide +kernel)⟩
def lw_privs_1 : List (MethodName × Nat) := [(⟨"KeyMeeting", "numbersAreFit", "()Z"⟩, 13), (⟨"KeyMeeting", "isFitPower", "([I)Z"⟩, 13), (⟨"KeyMeeting$Host", "multiplyBoth", "([I)V"⟩, 5), (⟨"KeyMeeting$Host", "invert", "()Z"⟩, 5), (⟨"KeyMeeting$Host", "restOfInverse", "()J"⟩, 5), (⟨"KeyMeeting$Host", "divideInverse", "(J)V"⟩, 5), (⟨"KeyMeeting$Modulus", "multiply", "([I[I[I)V"⟩, 6), (⟨"KeyMeeting$Modulus", "reduce", "()V"⟩, 6), (⟨"KeyMeeting$Modulus", "guessDigit", "(I)J"⟩, 6), (⟨"KeyMeeting$Modulus", "takeAway", "(JI)V"⟩, 6), (⟨"KeyMeeting$Modulus", "giveBack", "(I)J"⟩, 6), (⟨"KeyMeeting", "endWith", "(I)I"⟩, 13), (⟨"KeyMeeting", "makeHash", "(I[I)V"⟩, 13), (⟨"KeyMeeting$Digest", "putWord", "(I)V"⟩, 3), (⟨"KeyMeeting$Digest", "mixRow", "()V"⟩, 3), (⟨"KeyMeeting$Digest", "spreadRow", "()V"⟩, 3)]
theorem lw_r1 : ∀ q ∈ lw_privs_1, lw_okq q := List.forall_mem_cons.mpr ⟨lw_p0, List.forall_mem_cons.mpr ⟨lw_p1, List.forall_mem_cons.mpr ⟨lw_p2, List.forall_mem_cons.mpr ⟨lw_p3, List.forall_mem_cons.mpr ⟨lw_p4, List.forall_mem_cons.mpr ⟨lw_p5, List.forall_mem_cons.mpr ⟨lw_p6, List.forall_mem_cons.mpr ⟨lw_p7, List.forall_mem_cons.mpr ⟨lw_p8, List.forall_mem_cons.mpr ⟨lw_p9, List.forall_mem_cons.mpr ⟨lw_p10, List.forall_mem_cons.mpr ⟨lw_p11, List.forall_mem_cons.mpr ⟨lw_p12, List.forall_mem_cons.mpr ⟨lw_p13, List.forall_mem_cons.mpr ⟨lw_p14, List.forall_mem_cons.mpr ⟨lw_p15, fun _ h => absurd h List.not_mem_nil⟩⟩⟩⟩⟩⟩⟩⟩⟩⟩⟩⟩⟩⟩⟩⟩
theorem lw_p16 : lw_okq (⟨"KeyMeeting", "sign", "()V"⟩, 13) := ⟨⟨by decide +kernel, by decide +kernel⟩, List.mem_of_getElem? (i := 16) (by decide +kernel), List.mem_of_getElem? (i := 297) (by decide +kernel), List.mem_of_getElem? (i := 298) (by decide +kernel)⟩
theorem lw_p17 : lw_okq (⟨"KeyMeeting", "isSigned", "()Z"⟩, 13) := ⟨⟨by decide +kernel, by decide +kernel⟩, List.mem_of_getElem? (i := 16) (by decide +kernel), List.mem_of_getElem? (i := 309) (by decide +kernel), List.mem_of_getElem? (i := 310) (by decide +kernel)⟩
theorem lw_p18 : lw_okq (⟨"KeyMeeting", "makeKeys", "(I)V"⟩, 13) := ⟨⟨by decide +kernel, by decide +kernel⟩, List.mem_of_getElem? (i := 16) (by decide +kernel), List.mem_of_getElem? (i := 315) (by decide +kernel), List.mem_of_getElem? (i := 316) (by decide +kernel)⟩
theorem lw_p19 : lw_okq (⟨"java/lang/Throwable", "fillInStackTrace", "(I)Ljava/lang/Throwable;"⟩, 6) := ⟨⟨by decide +kernel, by decide +kernel⟩, List.mem_of_getElem? (i := 376) (by decide +kernel), List.mem_of_getElem? (i := 374) (by decide +kernel), List.mem_of_getElem? (i := 375) (by decide +kernel)⟩
theorem lw_p20 : lw_okq (⟨"KeyMeetingModel", "refused", "(ZZ)Z"⟩, 26) := ⟨⟨by decide +kernel, by decide +kernel⟩, List.mem_of_getElem? (i := 476) (by decide +kernel), List.mem_of_getElem? (i := 641) (by decide +kernel), List.mem_of_getElem? (i := 642) (by decide +kernel)⟩
theorem lw_p21 : lw_okq (⟨"KeyMeetingModel", "isGood", "()Z"⟩, 26) := ⟨⟨by decide +kernel, by decide +kernel⟩, List.mem_of_getElem? (i := 476) (by decide +kernel), List.mem_of_getElem? (i := 653) (by decide +kernel), List.mem_of_getElem? (i := 654) (by decide +kernel)⟩
theorem lw_p22 : lw_okq (⟨"KeyMeetingModel", "find", "()V"⟩, 26) := ⟨⟨by decide +kernel, by decide +kernel⟩, List.mem_of_getElem? (i := 476) (by decide +kernel), List.mem_of_getElem? (i := 661) (by decide +kernel), List.mem_of_getElem? (i := 662) (by decide +kernel)⟩
theorem lw_p23 : lw_okq (⟨"KeyMeetingModel", "multiply", "([I[I)V"⟩, 26) := ⟨⟨by decide +kernel, by decide +kernel⟩, List.mem_of_getElem? (i := 476) (by decide +kernel), List.mem_of_getElem? (i := 671) (by decide +kernel), List.mem_of_getElem? (i := 672) (by decide +kernel)⟩
theorem lw_p24 : lw_okq (⟨"KeyMeetingModel", "isWithin", "([III)Z"⟩, 26) := ⟨⟨by decide +kernel, by decide +kernel⟩, List.mem_of_getElem? (i := 476) (by decide +kernel), List.mem_of_getElem? (i := 678) (by decide +kernel), List.mem_of_getElem? (i := 679) (by decide +kernel)⟩
theorem lw_p25 : lw_okq (⟨"KeyMeetingModel", "raiseBy", "([III[II)V"⟩, 26) := ⟨⟨by decide +kernel, by decide +kernel⟩, List.mem_of_getElem? (i := 476) (by decide +kernel), List.mem_of_getElem? (i := 685) (by decide +kernel), List.mem_of_getElem? (i := 686) (by decide +kernel)⟩
theorem lw_p26 : lw_okq (⟨"KeyMeetingModel", "raise", "()V"⟩, 26) := ⟨⟨by decide +kernel, by decide +kernel⟩, List.mem_of_getElem? (i := 476) (by decide +kernel), List.mem_of_getElem? (i := 692) (by decide +kernel), List.mem_of_getElem? (i := 693) (by decide +kernel)⟩
theorem lw_p27 : lw_okq (⟨"KeyMeetingModel", "remain", "([I)V"⟩, 26) := ⟨⟨by decide +kernel, by decide +kernel⟩, List.mem_of_getElem? (i := 476) (by decide +kernel), List.mem_of_getElem? (i := 696) (by decide +kernel), List.mem_of_getElem? (i := 697) (by decide +kernel)⟩
theorem lw_p28 : lw_okq (⟨"KeyMeetingModel", "isLess", "(I)Z"⟩, 26) := ⟨⟨by decide +kernel, by decide +kernel⟩, List.mem_of_getElem? (i := 476) (by decide +kernel), List.mem_of_getElem? (i := 700) (by decide +kernel), List.mem_of_getElem? (i := 701) (by decide +kernel)⟩
theorem lw_p29 : lw_okq (⟨"KeyMeetingModel", "fail", "(I)I"⟩, 26) := ⟨⟨by decide +kernel, by decide +kernel⟩, List.mem_of_getElem? (i := 476) (by decide +kernel), List.mem_of_getElem? (i := 711) (by decide +kernel), List.mem_of_getElem? (i := 712) (by decide +kernel)⟩
theorem lw_p30 : lw_okq (⟨"KeyMeetingModel", "hash", "(I[I)V"⟩, 26) := ⟨⟨by decide +kernel, by decide +kernel⟩, List.mem_of_getElem? (i := 476) (by decide +kernel), List.mem_of_getElem? (i := 715) (by decide +kernel), List.mem_of_getElem? (i := 716) (by decide +kernel)⟩
theorem lw_p31 : lw_okq (⟨"KeyMeetingModel", "addWords", "([II)V"⟩, 26) := ⟨⟨by decide +kernel, by decide +kernel⟩, List.mem_of_getElem? (i := 476) (by decide +kernel), List.mem_of_getElem? (i := 719) (by decide +kernel), List.mem_of_getElem? (i := 720) (by decide +kernel)⟩
def lw_privs_2 : List (MethodName × Nat) := [(⟨"KeyMeeting", "sign", "()V"⟩, 13), (⟨"KeyMeeting", "isSigned", "()Z"⟩, 13), (⟨"KeyMeeting", "makeKeys", "(I)V"⟩, 13), (⟨"java/lang/Throwable", "fillInStackTrace", "(I)Ljava/lang/Throwable;"⟩, 6), (⟨"KeyMeetingModel", "refused", "(ZZ)Z"⟩, 26), (⟨"KeyMeetingModel", "isGood", "()Z"⟩, 26), (⟨"KeyMeetingModel", "find", "()V"⟩, 26), (⟨"KeyMeetingModel", "multiply", "([I[I)V"⟩, 26), (⟨"KeyMeetingModel", "isWithin", "([III)Z"⟩, 26), (⟨"KeyMeetingModel", "raiseBy", "([III[II)V"⟩, 26), (⟨"KeyMeetingModel", "raise", "()V"⟩, 26), (⟨"KeyMeetingModel", "remain", "([I)V"⟩, 26), (⟨"KeyMeetingModel", "isLess", "(I)Z"⟩, 26), (⟨"KeyMeetingModel", "fail", "(I)I"⟩, 26), (⟨"KeyMeetingModel", "hash", "(I[I)V"⟩, 26), (⟨"KeyMeetingModel", "addWords", "([II)V"⟩, 26)]
theorem lw_r2 : ∀ q ∈ lw_privs_2, lw_okq q := List.forall_mem_cons.mpr ⟨lw_p16, List.forall_mem_cons.mpr ⟨lw_p17, List.forall_mem_cons.mpr ⟨lw_p18, List.forall_mem_cons.mpr ⟨lw_p19, List.forall_mem_cons.mpr ⟨lw_p20, List.forall_mem_cons.mpr ⟨lw_p21, List.forall_mem_cons.mpr ⟨lw_p22, List.forall_mem_cons.mpr ⟨lw_p23, List.forall_mem_cons.mpr ⟨lw_p24, List.forall_mem_cons.mpr ⟨lw_p25, List.forall_mem_cons.mpr ⟨lw_p26, List.forall_mem_cons.mpr ⟨lw_p27, List.forall_mem_cons.mpr ⟨lw_p28, List.forall_mem_cons.mpr ⟨lw_p29, List.forall_mem_cons.mpr ⟨lw_p30, List.forall_mem_cons.mpr ⟨lw_p31, fun _ h => absurd h List.not_mem_nil⟩⟩⟩⟩⟩⟩⟩⟩⟩⟩⟩⟩⟩⟩⟩⟩
theorem lw_p32 : lw_okq (⟨"KeyMeetingModel", "reckon", "()V"⟩, 26) := ⟨⟨by decide +kernel, by decide +kernel⟩, List.mem_of_getElem? (i := 476) (by decide +kernel), List.mem_of_getElem? (i := 723) (by decide +kernel), List.mem_of_getElem? (i := 724) (by decide +kernel)⟩
theorem lw_p33 : lw_okq (⟨"KeyMeetingModel", "mix", "()V"⟩, 26) := ⟨⟨by decide +kernel, by decide +kernel⟩, List.mem_of_getElem? (i := 476) (by decide +kernel), List.mem_of_getElem? (i := 727) (by decide +kernel), List.mem_of_getElem? (i := 728) (by decide +kernel)⟩
theorem lw_p34 : lw_okq (⟨"KeyMeetingModel", "hashRest", "(I[I)V"⟩, 26) := ⟨⟨by decide +kernel, by decide +kernel⟩, List.mem_of_getElem? (i := 476) (by decide +kernel), List.mem_of_getElem? (i := 734) (by decide +kernel), List.mem_of_getElem? (i := 735) (by decide +kernel)⟩
theorem lw_p35 : lw_okq (⟨"KeyMeetingModel", "isTrusted", "()Z"⟩, 26) := ⟨⟨by decide +kernel, by decide +kernel⟩, List.mem_of_getElem? (i := 476) (by decide +kernel), List.mem_of_getElem? (i := 742) (by decide +kernel), List.mem_of_getElem? (i := 743) (by decide +kernel)⟩
theorem lw_p36 : lw_okq (⟨"KeyMeetingModel", "isSigned", "()Z"⟩, 26) := ⟨⟨by decide +kernel, by decide +kernel⟩, List.mem_of_getElem? (i := 476) (by decide +kernel), List.mem_of_getElem? (i := 746) (by decide +kernel), List.mem_of_getElem? (i := 747) (by decide +kernel)⟩
theorem lw_p37 : lw_okq (⟨"KeyMeetingModel", "makeKeys", "(I)V"⟩, 26) := ⟨⟨by decide +kernel, by decide +kernel⟩, List.mem_of_getElem? (i := 476) (by decide +kernel), List.mem_of_getElem? (i := 750) (by decide +kernel), List.mem_of_getElem? (i := 751) (by decide +kernel)⟩
def lw_privs_3 : List (MethodName × Nat) := [(⟨"KeyMeetingModel", "reckon", "()V"⟩, 26), (⟨"KeyMeetingModel", "mix", "()V"⟩, 26), (⟨"KeyMeetingModel", "hashRest", "(I[I)V"⟩, 26), (⟨"KeyMeetingModel", "isTrusted", "()Z"⟩, 26), (⟨"KeyMeetingModel", "isSigned", "()Z"⟩, 26), (⟨"KeyMeetingModel", "makeKeys", "(I)V"⟩, 26)]
theorem lw_r3 : ∀ q ∈ lw_privs_3, lw_okq q := List.forall_mem_cons.mpr ⟨lw_p32, List.forall_mem_cons.mpr ⟨lw_p33, List.forall_mem_cons.mpr ⟨lw_p34, List.forall_mem_cons.mpr ⟨lw_p35, List.forall_mem_cons.mpr ⟨lw_p36, List.forall_mem_cons.mpr ⟨lw_p37, fun _ h => absurd h List.not_mem_nil⟩⟩⟩⟩⟩⟩
def lw_privs : List (MethodName × Nat) := lw_privs_1 ++ (lw_privs_2 ++ (lw_privs_3))
def lw_tbl : List Cond := k2_sels lw_privs ++ tables_1
theorem lw_privs_ok : ∀ q ∈ lw_privs, lw_okq q := by
  show ∀ q ∈ lw_privs_1 ++ (lw_privs_2 ++ (lw_privs_3)), lw_okq q
  exact List.forall_mem_append.mpr ⟨lw_r1, List.forall_mem_append.mpr ⟨lw_r2, lw_r3⟩⟩

/-! NAMES (by wip/names.py) -/
def zR_D : String := "KeyMeeting$Digest"
def zR_H : String := "KeyMeeting$Host"
def zR_M : String := "KeyMeeting$Modulus"
def zR_W : String := "KeyMeeting$Words"
def zR_K : String := "KeyMeeting"
def zR_N : String := "KeyMeetingModel"
def zR_A : String := "java/util/Arrays"
def zR_L : String := "KeyMeetingLaw"
def zT_K : u_T := fun k => match k with
  | 0 => ("KeyMeeting", "told", "[[I", true)
  | 1 => ("KeyMeeting", "way", "[[I", true)
  | 2 => ("KeyMeeting", "offered", "[I", true)
  | 3 => ("KeyMeeting", "common", "[[I", true)
  | 4 => ("KeyMeeting", "hashes", "[[I", true)
  | 5 => ("KeyMeeting", "keys", "[[I", true)
  | 6 => ("KeyMeeting", "highestPower", "[I", true)
  | 7 => ("KeyMeeting", "hashRest", "[I", true)
  | 8 => ("KeyMeeting", "opened", "[I", true)
  | 9 => ("KeyMeeting", "host", "LKeyMeeting$Host;", true)
  | 10 => ("KeyMeeting", "modulus", "LKeyMeeting$Modulus;", true)
  | 11 => ("KeyMeeting", "digest", "LKeyMeeting$Digest;", true)
  | _ => ("KeyMeeting", "stage", "I", false)
def zt_K : Nat → FieldType := fun k => match k with
  | 0 => .array (.array .int)
  | 1 => .array (.array .int)
  | 2 => .array .int
  | 3 => .array (.array .int)
  | 4 => .array (.array .int)
  | 5 => .array (.array .int)
  | 6 => .array .int
  | 7 => .array .int
  | 8 => .array .int
  | 9 => .object "KeyMeeting$Host"
  | 10 => .object "KeyMeeting$Modulus"
  | 11 => .object "KeyMeeting$Digest"
  | _ => .int
theorem zn_K : ∀ a, a < 13 → ∀ b, b < 13 → a ≠ b → (zT_K a).2.1 ≠ (zT_K b).2.1 := by decide +kernel
theorem zo_K : ∀ k, k < 13 → parseFieldDescriptor (zT_K k).2.2.1 = some (zt_K k) := by decide +kernel
def zT_M : u_T := fun k => match k with
  | 0 => ("KeyMeeting$Modulus", "shifted", "[I", true)
  | 1 => ("KeyMeeting$Modulus", "factor", "[I", true)
  | 2 => ("KeyMeeting$Modulus", "wide", "[I", true)
  | 3 => ("KeyMeeting$Modulus", "low", "[I", true)
  | 4 => ("KeyMeeting$Modulus", "result", "[I", true)
  | _ => ("KeyMeeting$Modulus", "shift", "I", false)
def zt_M : Nat → FieldType := fun k => match k with
  | 0 => .array .int
  | 1 => .array .int
  | 2 => .array .int
  | 3 => .array .int
  | 4 => .array .int
  | _ => .int
theorem zn_M : ∀ a, a < 6 → ∀ b, b < 6 → a ≠ b → (zT_M a).2.1 ≠ (zT_M b).2.1 := by decide +kernel
theorem zo_M : ∀ k, k < 6 → parseFieldDescriptor (zT_M k).2.2.1 = some (zt_M k) := by decide +kernel
def zT_H : u_T := fun k => match k with
  | 0 => ("KeyMeeting$Host", "product", "[I", true)
  | 1 => ("KeyMeeting$Host", "inverse", "[I", true)
  | 2 => ("KeyMeeting$Host", "p", "[I", true)
  | 3 => ("KeyMeeting$Host", "q", "[I", true)
  | _ => ("KeyMeeting$Host", "wide", "[I", true)
def zt_H : Nat → FieldType := fun k => match k with
  | 0 => .array .int
  | 1 => .array .int
  | 2 => .array .int
  | 3 => .array .int
  | _ => .array .int
theorem zn_H : ∀ a, a < 5 → ∀ b, b < 5 → a ≠ b → (zT_H a).2.1 ≠ (zT_H b).2.1 := by decide +kernel
theorem zo_H : ∀ k, k < 5 → parseFieldDescriptor (zT_H k).2.2.1 = some (zt_H k) := by decide +kernel
def zT_D : u_T := fun k => match k with
  | 0 => ("KeyMeeting$Digest", "sums", "[I", true)
  | 1 => ("KeyMeeting$Digest", "row", "[I", true)
  | _ => ("KeyMeeting$Digest", "count", "I", false)
def zt_D : Nat → FieldType := fun k => match k with
  | 0 => .array .int
  | 1 => .array .int
  | _ => .int
theorem zn_D : ∀ a, a < 3 → ∀ b, b < 3 → a ≠ b → (zT_D a).2.1 ≠ (zT_D b).2.1 := by decide +kernel
theorem zo_D : ∀ k, k < 3 → parseFieldDescriptor (zT_D k).2.2.1 = some (zt_D k) := by decide +kernel
def zT_N : u_T := fun k => match k with
  | 0 => ("KeyMeetingModel", "thrown", "I", false)
  | 1 => ("KeyMeetingModel", "state", "I", false)
  | 2 => ("KeyMeetingModel", "told", "[I", true)
  | 3 => ("KeyMeetingModel", "sent", "[I", true)
  | 4 => ("KeyMeetingModel", "left", "[I", true)
  | 5 => ("KeyMeetingModel", "common", "[I", true)
  | 6 => ("KeyMeetingModel", "hashes", "[I", true)
  | 7 => ("KeyMeetingModel", "keys", "[I", true)
  | 8 => ("KeyMeetingModel", "p", "[I", true)
  | 9 => ("KeyMeetingModel", "m", "[I", true)
  | 10 => ("KeyMeetingModel", "base", "[I", true)
  | 11 => ("KeyMeetingModel", "power", "[I", true)
  | 12 => ("KeyMeetingModel", "result", "[I", true)
  | 13 => ("KeyMeetingModel", "product", "[I", true)
  | 14 => ("KeyMeetingModel", "rest", "[I", true)
  | 15 => ("KeyMeetingModel", "hostP", "[I", true)
  | 16 => ("KeyMeetingModel", "hostQ", "[I", true)
  | 17 => ("KeyMeetingModel", "secret", "[I", true)
  | 18 => ("KeyMeetingModel", "hasSecret", "Z", false)
  | 19 => ("KeyMeetingModel", "size", "I", false)
  | 20 => ("KeyMeetingModel", "row", "[B", true)
  | 21 => ("KeyMeetingModel", "w", "[I", true)
  | 22 => ("KeyMeetingModel", "digest", "[I", true)
  | 23 => ("KeyMeetingModel", "begun", "[I", true)
  | 24 => ("KeyMeetingModel", "roots", "[I", true)
  | _ => ("KeyMeetingModel", "begins", "[I", true)
def zt_N : Nat → FieldType := fun k => match k with
  | 0 => .int
  | 1 => .int
  | 2 => .array .int
  | 3 => .array .int
  | 4 => .array .int
  | 5 => .array .int
  | 6 => .array .int
  | 7 => .array .int
  | 8 => .array .int
  | 9 => .array .int
  | 10 => .array .int
  | 11 => .array .int
  | 12 => .array .int
  | 13 => .array .int
  | 14 => .array .int
  | 15 => .array .int
  | 16 => .array .int
  | 17 => .array .int
  | 18 => .boolean
  | 19 => .int
  | 20 => .array .byte
  | 21 => .array .int
  | 22 => .array .int
  | 23 => .array .int
  | 24 => .array .int
  | _ => .array .int
theorem zn_N : ∀ a, a < 26 → ∀ b, b < 26 → a ≠ b → (zT_N a).2.1 ≠ (zT_N b).2.1 := by decide +kernel
theorem zo_N : ∀ k, k < 26 → parseFieldDescriptor (zT_N k).2.2.1 = some (zt_N k) := by decide +kernel
abbrev vwCl : List vw_C := [(zR_K, zT_K, 13), (zR_M, zT_M, 6), (zR_H, zT_H, 5), (zR_D, zT_D, 3), (zR_N, zT_N, 26)]
abbrev zc_K_init : ByteArray := prog_1_method_1_code
def zy_K_init : MethodName := ⟨zR_K, "<init>", "()V"⟩
abbrev zc_H_init : ByteArray := prog_3_method_1_code
def zy_H_init : MethodName := ⟨zR_H, "<init>", "()V"⟩
abbrev zc_M_init : ByteArray := prog_4_method_1_code
def zy_M_init : MethodName := ⟨zR_M, "<init>", "()V"⟩
abbrev zc_D_init : ByteArray := prog_2_method_1_code
def zy_D_init : MethodName := ⟨zR_D, "<init>", "()V"⟩
abbrev zc_K_offer : ByteArray := prog_1_method_4_code
def zy_K_offer : MethodName := ⟨zR_K, "offer", "()I"⟩
abbrev zc_K_numbersAreFit : ByteArray := prog_1_method_15_code
def zy_K_numbersAreFit : MethodName := ⟨zR_K, "numbersAreFit", "()Z"⟩
abbrev zc_W_atLeast : ByteArray := prog_5_method_4_code
def zy_W_atLeast : MethodName := ⟨zR_W, "atLeast", "([II)Z"⟩
abbrev zc_K_isFitPower : ByteArray := prog_1_method_16_code
def zy_K_isFitPower : MethodName := ⟨zR_K, "isFitPower", "([I)Z"⟩
abbrev zc_W_subtract : ByteArray := prog_5_method_5_code
def zy_W_subtract : MethodName := ⟨zR_W, "subtract", "([II[I)V"⟩
abbrev zc_W_compare : ByteArray := prog_5_method_3_code
def zy_W_compare : MethodName := ⟨zR_W, "compare", "([I[I)I"⟩
abbrev zc_H_take : ByteArray := prog_3_method_2_code
def zy_H_take : MethodName := ⟨zR_H, "take", "([I[I)Z"⟩
abbrev zc_H_takeLowHalf : ByteArray := prog_3_method_3_code
def zy_H_takeLowHalf : MethodName := ⟨zR_H, "takeLowHalf", "([I[I)V"⟩
abbrev zc_H_multiplyBoth : ByteArray := prog_3_method_4_code
def zy_H_multiplyBoth : MethodName := ⟨zR_H, "multiplyBoth", "([I)V"⟩
abbrev zc_W_multiply : ByteArray := prog_5_method_6_code
def zy_W_multiply : MethodName := ⟨zR_W, "multiply", "([I[I[I)V"⟩
abbrev zc_A_fill : ByteArray := prog_16_method_103_code
def zy_A_fill : MethodName := ⟨zR_A, "fill", "([II)V"⟩
abbrev zc_W_addMultiple : ByteArray := prog_5_method_7_code
def zy_W_addMultiple : MethodName := ⟨zR_W, "addMultiple", "(J[I[II)I"⟩
abbrev zc_H_invert : ByteArray := prog_3_method_5_code
def zy_H_invert : MethodName := ⟨zR_H, "invert", "()Z"⟩
abbrev zc_H_restOfInverse : ByteArray := prog_3_method_6_code
def zy_H_restOfInverse : MethodName := ⟨zR_H, "restOfInverse", "()J"⟩
abbrev zc_H_inverseOfSmall : ByteArray := prog_3_method_7_code
def zy_H_inverseOfSmall : MethodName := ⟨zR_H, "inverseOfSmall", "(J)J"⟩
abbrev zc_H_divideInverse : ByteArray := prog_3_method_8_code
def zy_H_divideInverse : MethodName := ⟨zR_H, "divideInverse", "(J)V"⟩
abbrev zc_M_take : ByteArray := prog_4_method_2_code
def zy_M_take : MethodName := ⟨zR_M, "take", "([I)V"⟩
abbrev zc_W_leadingZeros : ByteArray := prog_5_method_9_code
def zy_W_leadingZeros : MethodName := ⟨zR_W, "leadingZeros", "([I)I"⟩
abbrev zc_W_hasBit : ByteArray := prog_5_method_8_code
def zy_W_hasBit : MethodName := ⟨zR_W, "hasBit", "([II)Z"⟩
abbrev zc_W_shiftLeft : ByteArray := prog_5_method_10_code
def zy_W_shiftLeft : MethodName := ⟨zR_W, "shiftLeft", "([II[I)V"⟩
abbrev zc_W_wordOrZero : ByteArray := prog_5_method_12_code
def zy_W_wordOrZero : MethodName := ⟨zR_W, "wordOrZero", "([II)J"⟩
abbrev zc_M_power : ByteArray := prog_4_method_4_code
def zy_M_power : MethodName := ⟨zR_M, "power", "([I[I[I)V"⟩
abbrev zc_M_multiply : ByteArray := prog_4_method_5_code
def zy_M_multiply : MethodName := ⟨zR_M, "multiply", "([I[I[I)V"⟩
abbrev zc_M_reduce : ByteArray := prog_4_method_6_code
def zy_M_reduce : MethodName := ⟨zR_M, "reduce", "()V"⟩
abbrev zc_M_guessDigit : ByteArray := prog_4_method_7_code
def zy_M_guessDigit : MethodName := ⟨zR_M, "guessDigit", "(I)J"⟩
abbrev zc_M_takeAway : ByteArray := prog_4_method_8_code
def zy_M_takeAway : MethodName := ⟨zR_M, "takeAway", "(JI)V"⟩
abbrev zc_M_giveBack : ByteArray := prog_4_method_9_code
def zy_M_giveBack : MethodName := ⟨zR_M, "giveBack", "(I)J"⟩
abbrev zc_W_shiftRight : ByteArray := prog_5_method_11_code
def zy_W_shiftRight : MethodName := ⟨zR_W, "shiftRight", "([II[I)V"⟩
abbrev zc_W_copy : ByteArray := prog_5_method_2_code
def zy_W_copy : MethodName := ⟨zR_W, "copy", "([I[I)V"⟩
abbrev zc_K_answer : ByteArray := prog_1_method_5_code
def zy_K_answer : MethodName := ⟨zR_K, "answer", "()I"⟩
abbrev zc_K_endWith : ByteArray := prog_1_method_14_code
def zy_K_endWith : MethodName := ⟨zR_K, "endWith", "(I)I"⟩
abbrev zc_K_makeHash : ByteArray := prog_1_method_17_code
def zy_K_makeHash : MethodName := ⟨zR_K, "makeHash", "(I[I)V"⟩
abbrev zc_D_clear : ByteArray := prog_2_method_2_code
def zy_D_clear : MethodName := ⟨zR_D, "clear", "()V"⟩
abbrev zc_D_put : ByteArray := prog_2_method_3_code
def zy_D_put : MethodName := ⟨zR_D, "put", "([I)V"⟩
abbrev zc_D_putWord : ByteArray := prog_2_method_5_code
def zy_D_putWord : MethodName := ⟨zR_D, "putWord", "(I)V"⟩
abbrev zc_D_mixRow : ByteArray := prog_2_method_6_code
def zy_D_mixRow : MethodName := ⟨zR_D, "mixRow", "()V"⟩
abbrev zc_D_spreadRow : ByteArray := prog_2_method_7_code
def zy_D_spreadRow : MethodName := ⟨zR_D, "spreadRow", "()V"⟩
abbrev zc_D_turn : ByteArray := prog_2_method_8_code
def zy_D_turn : MethodName := ⟨zR_D, "turn", "(II)I"⟩
abbrev zc_D_end : ByteArray := prog_2_method_4_code
def zy_D_end : MethodName := ⟨zR_D, "end", "(II[II)V"⟩
abbrev zc_K_sign : ByteArray := prog_1_method_18_code
def zy_K_sign : MethodName := ⟨zR_K, "sign", "()V"⟩
abbrev zc_M_rest : ByteArray := prog_4_method_3_code
def zy_M_rest : MethodName := ⟨zR_M, "rest", "([I[I)V"⟩
abbrev zc_K_accept : ByteArray := prog_1_method_6_code
def zy_K_accept : MethodName := ⟨zR_K, "accept", "()I"⟩
abbrev zc_K_isSigned : ByteArray := prog_1_method_19_code
def zy_K_isSigned : MethodName := ⟨zR_K, "isSigned", "()Z"⟩
abbrev zc_K_makeKeys : ByteArray := prog_1_method_20_code
def zy_K_makeKeys : MethodName := ⟨zR_K, "makeKeys", "(I)V"⟩
abbrev zc_K_state : ByteArray := prog_1_method_10_code
def zy_K_state : MethodName := ⟨zR_K, "state", "()I"⟩
abbrev zc_K_begin : ByteArray := prog_1_method_11_code
def zy_K_begin : MethodName := ⟨zR_K, "begin", "()V"⟩
abbrev zc_K_number : ByteArray := prog_1_method_2_code
def zy_K_number : MethodName := ⟨zR_K, "number", "(III)V"⟩
abbrev zc_K_needIndex : ByteArray := prog_1_method_13_code
def zy_K_needIndex : MethodName := ⟨zR_K, "needIndex", "(II)V"⟩
abbrev zc_K_small : ByteArray := prog_1_method_3_code
def zy_K_small : MethodName := ⟨zR_K, "small", "(IJ)V"⟩
abbrev zc_K_alter : ByteArray := prog_1_method_7_code
def zy_K_alter : MethodName := ⟨zR_K, "alter", "(III)I"⟩
abbrev zc_K_sent : ByteArray := prog_1_method_8_code
def zy_K_sent : MethodName := ⟨zR_K, "sent", "(II)I"⟩
abbrev zc_K_key : ByteArray := prog_1_method_9_code
def zy_K_key : MethodName := ⟨zR_K, "key", "(II)I"⟩
abbrev zc_K_secret : ByteArray := prog_1_method_12_code
def zy_K_secret : MethodName := ⟨zR_K, "secret", "(I)I"⟩
abbrev zc_N_init : ByteArray := prog_7_method_1_code
def zy_N_init : MethodName := ⟨zR_N, "<init>", "()V"⟩
abbrev zc_N_thrown : ByteArray := prog_7_method_2_code
def zy_N_thrown : MethodName := ⟨zR_N, "thrown", "()I"⟩
abbrev zc_N_number : ByteArray := prog_7_method_17_code
def zy_N_number : MethodName := ⟨zR_N, "number", "(III)V"⟩
abbrev zc_N_refused : ByteArray := prog_7_method_3_code
def zy_N_refused : MethodName := ⟨zR_N, "refused", "(ZZ)Z"⟩
abbrev zc_N_small : ByteArray := prog_7_method_18_code
def zy_N_small : MethodName := ⟨zR_N, "small", "(IJ)V"⟩
abbrev zc_N_offer : ByteArray := prog_7_method_24_code
def zy_N_offer : MethodName := ⟨zR_N, "offer", "()I"⟩
abbrev zc_N_isGood : ByteArray := prog_7_method_22_code
def zy_N_isGood : MethodName := ⟨zR_N, "isGood", "()Z"⟩
abbrev zc_N_figures : ByteArray := prog_7_method_4_code
def zy_N_figures : MethodName := ⟨zR_N, "figures", "([II[I)V"⟩
abbrev zc_N_find : ByteArray := prog_7_method_20_code
def zy_N_find : MethodName := ⟨zR_N, "find", "()V"⟩
abbrev zc_N_isSmall : ByteArray := prog_7_method_19_code
def zy_N_isSmall : MethodName := ⟨zR_N, "isSmall", "([I)Z"⟩
abbrev zc_N_lessOne : ByteArray := prog_7_method_21_code
def zy_N_lessOne : MethodName := ⟨zR_N, "lessOne", "([I)V"⟩
abbrev zc_N_multiply : ByteArray := prog_7_method_9_code
def zy_N_multiply : MethodName := ⟨zR_N, "multiply", "([I[I)V"⟩
abbrev zc_N_isWithin : ByteArray := prog_7_method_8_code
def zy_N_isWithin : MethodName := ⟨zR_N, "isWithin", "([III)Z"⟩
abbrev zc_N_compare : ByteArray := prog_7_method_6_code
def zy_N_compare : MethodName := ⟨zR_N, "compare", "([I[I)I"⟩
abbrev zc_N_raiseBy : ByteArray := prog_7_method_23_code
def zy_N_raiseBy : MethodName := ⟨zR_N, "raiseBy", "([III[II)V"⟩
abbrev zc_N_copy : ByteArray := prog_7_method_7_code
def zy_N_copy : MethodName := ⟨zR_N, "copy", "([I[I)V"⟩
abbrev zc_N_raise : ByteArray := prog_7_method_12_code
def zy_N_raise : MethodName := ⟨zR_N, "raise", "()V"⟩
abbrev zc_N_remain : ByteArray := prog_7_method_11_code
def zy_N_remain : MethodName := ⟨zR_N, "remain", "([I)V"⟩
abbrev zc_N_isLess : ByteArray := prog_7_method_10_code
def zy_N_isLess : MethodName := ⟨zR_N, "isLess", "(I)Z"⟩
abbrev zc_N_words : ByteArray := prog_7_method_5_code
def zy_N_words : MethodName := ⟨zR_N, "words", "([I[II)V"⟩
abbrev zc_N_answer : ByteArray := prog_7_method_28_code
def zy_N_answer : MethodName := ⟨zR_N, "answer", "()I"⟩
abbrev zc_N_fail : ByteArray := prog_7_method_25_code
def zy_N_fail : MethodName := ⟨zR_N, "fail", "(I)I"⟩
abbrev zc_N_hash : ByteArray := prog_7_method_26_code
def zy_N_hash : MethodName := ⟨zR_N, "hash", "(I[I)V"⟩
abbrev zc_N_addWords : ByteArray := prog_7_method_14_code
def zy_N_addWords : MethodName := ⟨zR_N, "addWords", "([II)V"⟩
abbrev zc_N_reckon : ByteArray := prog_7_method_16_code
def zy_N_reckon : MethodName := ⟨zR_N, "reckon", "()V"⟩
abbrev zc_N_mix : ByteArray := prog_7_method_15_code
def zy_N_mix : MethodName := ⟨zR_N, "mix", "()V"⟩
abbrev zc_N_turn : ByteArray := prog_7_method_13_code
def zy_N_turn : MethodName := ⟨zR_N, "turn", "(II)I"⟩
abbrev zc_N_hashRest : ByteArray := prog_7_method_27_code
def zy_N_hashRest : MethodName := ⟨zR_N, "hashRest", "(I[I)V"⟩
abbrev zc_N_accept : ByteArray := prog_7_method_32_code
def zy_N_accept : MethodName := ⟨zR_N, "accept", "()I"⟩
abbrev zc_N_isTrusted : ByteArray := prog_7_method_29_code
def zy_N_isTrusted : MethodName := ⟨zR_N, "isTrusted", "()Z"⟩
abbrev zc_N_isSigned : ByteArray := prog_7_method_31_code
def zy_N_isSigned : MethodName := ⟨zR_N, "isSigned", "()Z"⟩
abbrev zc_N_makeKeys : ByteArray := prog_7_method_30_code
def zy_N_makeKeys : MethodName := ⟨zR_N, "makeKeys", "(I)V"⟩
abbrev zc_N_alter : ByteArray := prog_7_method_34_code
def zy_N_alter : MethodName := ⟨zR_N, "alter", "(III)I"⟩
abbrev zc_N_isNone : ByteArray := prog_7_method_33_code
def zy_N_isNone : MethodName := ⟨zR_N, "isNone", "(II)Z"⟩
abbrev zc_N_sent : ByteArray := prog_7_method_35_code
def zy_N_sent : MethodName := ⟨zR_N, "sent", "(II)I"⟩
abbrev zc_N_key : ByteArray := prog_7_method_36_code
def zy_N_key : MethodName := ⟨zR_N, "key", "(II)I"⟩
abbrev zc_N_state : ByteArray := prog_7_method_37_code
def zy_N_state : MethodName := ⟨zR_N, "state", "()I"⟩
abbrev zc_N_begin : ByteArray := prog_7_method_38_code
def zy_N_begin : MethodName := ⟨zR_N, "begin", "()V"⟩
abbrev zc_N_secret : ByteArray := prog_7_method_39_code
def zy_N_secret : MethodName := ⟨zR_N, "secret", "(I)I"⟩
/-- the words of every method but its own code: the good ones of the whole table -/
def kz_T : List Cond := lw_tbl.filter goodWord
theorem kz_c {w0 w : Cond} (h : w ∈ kz_T) : w ∈ w0 :: kz_T := List.mem_cons_of_mem _ h
theorem kz_mw (i : Nat) {w : Cond} (h : lw_tbl[i]? = some w) (hg : goodWord w = true) : w ∈ kz_T := List.mem_filter.mpr ⟨List.mem_of_getElem? h, hg⟩
theorem kz_g {w0 wc : Cond} {ex : List Cond} (hex : ∀ w ∈ ex, w ∈ kz_T) (hc : wc ∈ kz_T) : GoodIn (w0 :: kz_T) (ex ++ (wc :: kz_T)) := by
  intro w hw
  have h : w ∈ kz_T := by
    rcases List.mem_append.mp hw with h | h
    · exact hex w h
    · rcases List.mem_cons.mp h with h | h
      · rw [h]; exact hc
      · exact h
  exact ⟨List.mem_cons_of_mem _ h, good_of_word (List.mem_filter.mp h).2⟩
theorem kz_m1w {a : Cond} (ha : a ∈ kz_T) : ∀ w ∈ [a], w ∈ kz_T := fun w h => by rw [List.mem_singleton.mp h]; exact ha
theorem kz_mc {a : Cond} {l : List Cond} (ha : a ∈ kz_T) (hl : ∀ w ∈ l, w ∈ kz_T) : ∀ w ∈ a :: l, w ∈ kz_T := fun w h => (List.mem_cons.mp h).elim (fun e => by rw [e]; exact ha) (hl w)
theorem kz_mn : ∀ w ∈ ([] : List Cond), w ∈ kz_T := fun _ h => absurd h List.not_mem_nil
def zw_K_init : List Cond := .code zy_K_init zc_K_init 1 none :: kz_T
def zw_H_init : List Cond := .code zy_H_init zc_H_init 1 none :: kz_T
def zw_M_init : List Cond := .code zy_M_init zc_M_init 1 none :: kz_T
def zw_D_init : List Cond := .code zy_D_init zc_D_init 1 none :: kz_T
def zw_K_offer : List Cond := .code zy_K_offer zc_K_offer 1 (some .int) :: kz_T
def zw_K_numbersAreFit : List Cond := .code zy_K_numbersAreFit zc_K_numbersAreFit 1 (some .boolean) :: kz_T
def zw_W_atLeast : List Cond := .code zy_W_atLeast zc_W_atLeast 3 (some .boolean) :: kz_T
def zw_K_isFitPower : List Cond := .code zy_K_isFitPower zc_K_isFitPower 2 (some .boolean) :: kz_T
def zw_W_subtract : List Cond := .code zy_W_subtract zc_W_subtract 8 none :: kz_T
def zw_W_compare : List Cond := .code zy_W_compare zc_W_compare 3 (some .int) :: kz_T
def zw_H_take : List Cond := .code zy_H_take zc_H_take 3 (some .boolean) :: kz_T
def zw_H_takeLowHalf : List Cond := .code zy_H_takeLowHalf zc_H_takeLowHalf 3 none :: kz_T
def zw_H_multiplyBoth : List Cond := .code zy_H_multiplyBoth zc_H_multiplyBoth 2 none :: kz_T
def zw_W_multiply : List Cond := .code zy_W_multiply zc_W_multiply 4 none :: kz_T
def zw_A_fill : List Cond := .code zy_A_fill zc_A_fill 4 none :: kz_T
def zw_W_addMultiple : List Cond := .code zy_W_addMultiple zc_W_addMultiple 10 (some .int) :: kz_T
def zw_H_invert : List Cond := .code zy_H_invert zc_H_invert 10 (some .boolean) :: kz_T
def zw_H_restOfInverse : List Cond := .code zy_H_restOfInverse zc_H_restOfInverse 4 (some .long) :: kz_T
def zw_H_inverseOfSmall : List Cond := .code zy_H_inverseOfSmall zc_H_inverseOfSmall 5 (some .long) :: kz_T
def zw_H_divideInverse : List Cond := .code zy_H_divideInverse zc_H_divideInverse 8 none :: kz_T
def zw_M_take : List Cond := .code zy_M_take zc_M_take 2 none :: kz_T
def zw_W_leadingZeros : List Cond := .code zy_W_leadingZeros zc_W_leadingZeros 2 (some .int) :: kz_T
def zw_W_hasBit : List Cond := .code zy_W_hasBit zc_W_hasBit 2 (some .boolean) :: kz_T
def zw_W_shiftLeft : List Cond := .code zy_W_shiftLeft zc_W_shiftLeft 7 none :: kz_T
def zw_W_wordOrZero : List Cond := .code zy_W_wordOrZero zc_W_wordOrZero 2 (some .long) :: kz_T
def zw_M_power : List Cond := .code zy_M_power zc_M_power 5 none :: kz_T
def zw_M_multiply : List Cond := .code zy_M_multiply zc_M_multiply 4 none :: kz_T
def zw_M_reduce : List Cond := .code zy_M_reduce zc_M_reduce 4 none :: kz_T
def zw_M_guessDigit : List Cond := .code zy_M_guessDigit zc_M_guessDigit 10 (some .long) :: kz_T
def zw_M_takeAway : List Cond := .code zy_M_takeAway zc_M_takeAway 11 none :: kz_T
def zw_M_giveBack : List Cond := .code zy_M_giveBack zc_M_giveBack 7 (some .long) :: kz_T
def zw_W_shiftRight : List Cond := .code zy_W_shiftRight zc_W_shiftRight 7 none :: kz_T
def zw_W_copy : List Cond := .code zy_W_copy zc_W_copy 2 none :: kz_T
def zw_K_answer : List Cond := .code zy_K_answer zc_K_answer 1 (some .int) :: kz_T
def zw_K_endWith : List Cond := .code zy_K_endWith zc_K_endWith 2 (some .int) :: kz_T
def zw_K_makeHash : List Cond := .code zy_K_makeHash zc_K_makeHash 3 none :: kz_T
def zw_D_clear : List Cond := .code zy_D_clear zc_D_clear 1 none :: kz_T
def zw_D_put : List Cond := .code zy_D_put zc_D_put 3 none :: kz_T
def zw_D_putWord : List Cond := .code zy_D_putWord zc_D_putWord 2 none :: kz_T
def zw_D_mixRow : List Cond := .code zy_D_mixRow zc_D_mixRow 12 none :: kz_T
def zw_D_spreadRow : List Cond := .code zy_D_spreadRow zc_D_spreadRow 6 none :: kz_T
def zw_D_turn : List Cond := .code zy_D_turn zc_D_turn 2 (some .int) :: kz_T
def zw_D_end : List Cond := .code zy_D_end zc_D_end 8 none :: kz_T
def zw_K_sign : List Cond := .code zy_K_sign zc_K_sign 1 none :: kz_T
def zw_M_rest : List Cond := .code zy_M_rest zc_M_rest 3 none :: kz_T
def zw_K_accept : List Cond := .code zy_K_accept zc_K_accept 1 (some .int) :: kz_T
def zw_K_isSigned : List Cond := .code zy_K_isSigned zc_K_isSigned 1 (some .boolean) :: kz_T
def zw_K_makeKeys : List Cond := .code zy_K_makeKeys zc_K_makeKeys 3 none :: kz_T
def zw_K_state : List Cond := .code zy_K_state zc_K_state 1 (some .int) :: kz_T
def zw_K_begin : List Cond := .code zy_K_begin zc_K_begin 1 none :: kz_T
def zw_K_number : List Cond := .code zy_K_number zc_K_number 4 none :: kz_T
def zw_K_needIndex : List Cond := .code zy_K_needIndex zc_K_needIndex 2 none :: kz_T
def zw_K_small : List Cond := .code zy_K_small zc_K_small 4 none :: kz_T
def zw_K_alter : List Cond := .code zy_K_alter zc_K_alter 5 (some .int) :: kz_T
def zw_K_sent : List Cond := .code zy_K_sent zc_K_sent 3 (some .int) :: kz_T
def zw_K_key : List Cond := .code zy_K_key zc_K_key 3 (some .int) :: kz_T
def zw_K_secret : List Cond := .code zy_K_secret zc_K_secret 2 (some .int) :: kz_T
def zw_N_init : List Cond := .code zy_N_init zc_N_init 1 none :: kz_T
def zw_N_thrown : List Cond := .code zy_N_thrown zc_N_thrown 1 (some .int) :: kz_T
def zw_N_number : List Cond := .code zy_N_number zc_N_number 4 none :: kz_T
def zw_N_refused : List Cond := .code zy_N_refused zc_N_refused 3 (some .boolean) :: kz_T
def zw_N_small : List Cond := .code zy_N_small zc_N_small 6 none :: kz_T
def zw_N_offer : List Cond := .code zy_N_offer zc_N_offer 2 (some .int) :: kz_T
def zw_N_isGood : List Cond := .code zy_N_isGood zc_N_isGood 3 (some .boolean) :: kz_T
def zw_N_figures : List Cond := .code zy_N_figures zc_N_figures 5 none :: kz_T
def zw_N_find : List Cond := .code zy_N_find zc_N_find 9 none :: kz_T
def zw_N_isSmall : List Cond := .code zy_N_isSmall zc_N_isSmall 3 (some .boolean) :: kz_T
def zw_N_lessOne : List Cond := .code zy_N_lessOne zc_N_lessOne 2 none :: kz_T
def zw_N_multiply : List Cond := .code zy_N_multiply zc_N_multiply 7 none :: kz_T
def zw_N_isWithin : List Cond := .code zy_N_isWithin zc_N_isWithin 10 (some .boolean) :: kz_T
def zw_N_compare : List Cond := .code zy_N_compare zc_N_compare 3 (some .int) :: kz_T
def zw_N_raiseBy : List Cond := .code zy_N_raiseBy zc_N_raiseBy 6 none :: kz_T
def zw_N_copy : List Cond := .code zy_N_copy zc_N_copy 3 none :: kz_T
def zw_N_raise : List Cond := .code zy_N_raise zc_N_raise 2 none :: kz_T
def zw_N_remain : List Cond := .code zy_N_remain zc_N_remain 13 none :: kz_T
def zw_N_isLess : List Cond := .code zy_N_isLess zc_N_isLess 4 (some .boolean) :: kz_T
def zw_N_words : List Cond := .code zy_N_words zc_N_words 4 none :: kz_T
def zw_N_answer : List Cond := .code zy_N_answer zc_N_answer 2 (some .int) :: kz_T
def zw_N_fail : List Cond := .code zy_N_fail zc_N_fail 2 (some .int) :: kz_T
def zw_N_hash : List Cond := .code zy_N_hash zc_N_hash 4 none :: kz_T
def zw_N_addWords : List Cond := .code zy_N_addWords zc_N_addWords 4 none :: kz_T
def zw_N_reckon : List Cond := .code zy_N_reckon zc_N_reckon 6 none :: kz_T
def zw_N_mix : List Cond := .code zy_N_mix zc_N_mix 7 none :: kz_T
def zw_N_turn : List Cond := .code zy_N_turn zc_N_turn 2 (some .int) :: kz_T
def zw_N_hashRest : List Cond := .code zy_N_hashRest zc_N_hashRest 4 none :: kz_T
def zw_N_accept : List Cond := .code zy_N_accept zc_N_accept 1 (some .int) :: kz_T
def zw_N_isTrusted : List Cond := .code zy_N_isTrusted zc_N_isTrusted 3 (some .boolean) :: kz_T
def zw_N_isSigned : List Cond := .code zy_N_isSigned zc_N_isSigned 2 (some .boolean) :: kz_T
def zw_N_makeKeys : List Cond := .code zy_N_makeKeys zc_N_makeKeys 4 none :: kz_T
def zw_N_alter : List Cond := .code zy_N_alter zc_N_alter 4 (some .int) :: kz_T
def zw_N_isNone : List Cond := .code zy_N_isNone zc_N_isNone 2 (some .boolean) :: kz_T
def zw_N_sent : List Cond := .code zy_N_sent zc_N_sent 3 (some .int) :: kz_T
def zw_N_key : List Cond := .code zy_N_key zc_N_key 3 (some .int) :: kz_T
def zw_N_state : List Cond := .code zy_N_state zc_N_state 1 (some .int) :: kz_T
def zw_N_begin : List Cond := .code zy_N_begin zc_N_begin 2 none :: kz_T
def zw_N_secret : List Cond := .code zy_N_secret zc_N_secret 2 (some .int) :: kz_T
theorem zi_K : ∀ w ∈ u_ws zR_K zT_K 13, w ∈ kz_T := fun w h => List.mem_filter.mpr ⟨(by decide +kernel : ∀ w ∈ u_ws zR_K zT_K 13, w ∈ lw_tbl) w h, (by decide +kernel : ∀ w ∈ u_ws zR_K zT_K 13, goodWord w = true) w h⟩
theorem zi_M : ∀ w ∈ u_ws zR_M zT_M 6, w ∈ kz_T := fun w h => List.mem_filter.mpr ⟨(by decide +kernel : ∀ w ∈ u_ws zR_M zT_M 6, w ∈ lw_tbl) w h, (by decide +kernel : ∀ w ∈ u_ws zR_M zT_M 6, goodWord w = true) w h⟩
theorem zi_H : ∀ w ∈ u_ws zR_H zT_H 5, w ∈ kz_T := fun w h => List.mem_filter.mpr ⟨(by decide +kernel : ∀ w ∈ u_ws zR_H zT_H 5, w ∈ lw_tbl) w h, (by decide +kernel : ∀ w ∈ u_ws zR_H zT_H 5, goodWord w = true) w h⟩
theorem zi_D : ∀ w ∈ u_ws zR_D zT_D 3, w ∈ kz_T := fun w h => List.mem_filter.mpr ⟨(by decide +kernel : ∀ w ∈ u_ws zR_D zT_D 3, w ∈ lw_tbl) w h, (by decide +kernel : ∀ w ∈ u_ws zR_D zT_D 3, goodWord w = true) w h⟩
theorem zi_N : ∀ w ∈ u_ws zR_N zT_N 26, w ∈ kz_T := fun w h => List.mem_filter.mpr ⟨(by decide +kernel : ∀ w ∈ u_ws zR_N zT_N 26, w ∈ lw_tbl) w h, (by decide +kernel : ∀ w ∈ u_ws zR_N zT_N 26, goodWord w = true) w h⟩
end
section
/-! WORDS by their places in the law's table (by wip/names.py): mw_i is the word i -/
theorem kz_mw0 (i : Nat) {w : Cond} (h : (k2_sels lw_privs)[i]? = some w) (hg : goodWord w = true) : w ∈ kz_T := List.mem_filter.mpr ⟨List.mem_append_left _ (List.mem_of_getElem? h), hg⟩
theorem kz_mw1 (i : Nat) {w : Cond} (h : tables_1_1[i]? = some w) (hg : goodWord w = true) : w ∈ kz_T := List.mem_filter.mpr ⟨List.mem_append_right _ (List.mem_append_left _ (List.mem_of_getElem? h)), hg⟩
theorem kz_mw2 (i : Nat) {w : Cond} (h : tables_1_2[i]? = some w) (hg : goodWord w = true) : w ∈ kz_T := List.mem_filter.mpr ⟨List.mem_append_right _ (List.mem_append_right _ (List.mem_append_left _ (List.mem_of_getElem? h))), hg⟩
theorem kz_mw3 (i : Nat) {w : Cond} (h : tables_1_3[i]? = some w) (hg : goodWord w = true) : w ∈ kz_T := List.mem_filter.mpr ⟨List.mem_append_right _ (List.mem_append_right _ (List.mem_append_right _ (List.mem_append_left _ (List.mem_of_getElem? h)))), hg⟩
theorem kz_mw4 (i : Nat) {w : Cond} (h : tables_1_4[i]? = some w) (hg : goodWord w = true) : w ∈ kz_T := List.mem_filter.mpr ⟨List.mem_append_right _ (List.mem_append_right _ (List.mem_append_right _ (List.mem_append_right _ (List.mem_of_getElem? h)))), hg⟩
theorem mw_0 : Cond.selects "KeyMeeting" zy_K_numbersAreFit zy_K_numbersAreFit ∈ kz_T := kz_mw0 0 rfl rfl
theorem mw_1 : Cond.selects "KeyMeeting" zy_K_isFitPower zy_K_isFitPower ∈ kz_T := kz_mw0 1 rfl rfl
theorem mw_2 : Cond.selects "KeyMeeting$Host" zy_H_multiplyBoth zy_H_multiplyBoth ∈ kz_T := kz_mw0 2 rfl rfl
theorem mw_3 : Cond.selects "KeyMeeting$Host" zy_H_invert zy_H_invert ∈ kz_T := kz_mw0 3 rfl rfl
theorem mw_4 : Cond.selects "KeyMeeting$Host" zy_H_restOfInverse zy_H_restOfInverse ∈ kz_T := kz_mw0 4 rfl rfl
theorem mw_5 : Cond.selects "KeyMeeting$Host" zy_H_divideInverse zy_H_divideInverse ∈ kz_T := kz_mw0 5 rfl rfl
theorem mw_6 : Cond.selects "KeyMeeting$Modulus" zy_M_multiply zy_M_multiply ∈ kz_T := kz_mw0 6 rfl rfl
theorem mw_7 : Cond.selects "KeyMeeting$Modulus" zy_M_reduce zy_M_reduce ∈ kz_T := kz_mw0 7 rfl rfl
theorem mw_8 : Cond.selects "KeyMeeting$Modulus" zy_M_guessDigit zy_M_guessDigit ∈ kz_T := kz_mw0 8 rfl rfl
theorem mw_9 : Cond.selects "KeyMeeting$Modulus" zy_M_takeAway zy_M_takeAway ∈ kz_T := kz_mw0 9 rfl rfl
theorem mw_10 : Cond.selects "KeyMeeting$Modulus" zy_M_giveBack zy_M_giveBack ∈ kz_T := kz_mw0 10 rfl rfl
theorem mw_11 : Cond.selects "KeyMeeting" zy_K_endWith zy_K_endWith ∈ kz_T := kz_mw0 11 rfl rfl
theorem mw_12 : Cond.selects "KeyMeeting" zy_K_makeHash zy_K_makeHash ∈ kz_T := kz_mw0 12 rfl rfl
theorem mw_13 : Cond.selects "KeyMeeting$Digest" zy_D_putWord zy_D_putWord ∈ kz_T := kz_mw0 13 rfl rfl
theorem mw_14 : Cond.selects "KeyMeeting$Digest" zy_D_mixRow zy_D_mixRow ∈ kz_T := kz_mw0 14 rfl rfl
theorem mw_15 : Cond.selects "KeyMeeting$Digest" zy_D_spreadRow zy_D_spreadRow ∈ kz_T := kz_mw0 15 rfl rfl
theorem mw_16 : Cond.selects "KeyMeeting" zy_K_sign zy_K_sign ∈ kz_T := kz_mw0 16 rfl rfl
theorem mw_17 : Cond.selects "KeyMeeting" zy_K_isSigned zy_K_isSigned ∈ kz_T := kz_mw0 17 rfl rfl
theorem mw_18 : Cond.selects "KeyMeeting" zy_K_makeKeys zy_K_makeKeys ∈ kz_T := kz_mw0 18 rfl rfl
theorem mw_20 : Cond.selects "KeyMeetingModel" zy_N_refused zy_N_refused ∈ kz_T := kz_mw0 20 rfl rfl
theorem mw_21 : Cond.selects "KeyMeetingModel" zy_N_isGood zy_N_isGood ∈ kz_T := kz_mw0 21 rfl rfl
theorem mw_22 : Cond.selects "KeyMeetingModel" zy_N_find zy_N_find ∈ kz_T := kz_mw0 22 rfl rfl
theorem mw_23 : Cond.selects "KeyMeetingModel" zy_N_multiply zy_N_multiply ∈ kz_T := kz_mw0 23 rfl rfl
theorem mw_24 : Cond.selects "KeyMeetingModel" zy_N_isWithin zy_N_isWithin ∈ kz_T := kz_mw0 24 rfl rfl
theorem mw_25 : Cond.selects "KeyMeetingModel" zy_N_raiseBy zy_N_raiseBy ∈ kz_T := kz_mw0 25 rfl rfl
theorem mw_26 : Cond.selects "KeyMeetingModel" zy_N_raise zy_N_raise ∈ kz_T := kz_mw0 26 rfl rfl
theorem mw_27 : Cond.selects "KeyMeetingModel" zy_N_remain zy_N_remain ∈ kz_T := kz_mw0 27 rfl rfl
theorem mw_28 : Cond.selects "KeyMeetingModel" zy_N_isLess zy_N_isLess ∈ kz_T := kz_mw0 28 rfl rfl
theorem mw_29 : Cond.selects "KeyMeetingModel" zy_N_fail zy_N_fail ∈ kz_T := kz_mw0 29 rfl rfl
theorem mw_30 : Cond.selects "KeyMeetingModel" zy_N_hash zy_N_hash ∈ kz_T := kz_mw0 30 rfl rfl
theorem mw_31 : Cond.selects "KeyMeetingModel" zy_N_addWords zy_N_addWords ∈ kz_T := kz_mw0 31 rfl rfl
theorem mw_32 : Cond.selects "KeyMeetingModel" zy_N_reckon zy_N_reckon ∈ kz_T := kz_mw0 32 rfl rfl
theorem mw_33 : Cond.selects "KeyMeetingModel" zy_N_mix zy_N_mix ∈ kz_T := kz_mw0 33 rfl rfl
theorem mw_34 : Cond.selects "KeyMeetingModel" zy_N_hashRest zy_N_hashRest ∈ kz_T := kz_mw0 34 rfl rfl
theorem mw_35 : Cond.selects "KeyMeetingModel" zy_N_isTrusted zy_N_isTrusted ∈ kz_T := kz_mw0 35 rfl rfl
theorem mw_36 : Cond.selects "KeyMeetingModel" zy_N_isSigned zy_N_isSigned ∈ kz_T := kz_mw0 36 rfl rfl
theorem mw_37 : Cond.selects "KeyMeetingModel" zy_N_makeKeys zy_N_makeKeys ∈ kz_T := kz_mw0 37 rfl rfl
theorem mw_38 : (Cond.initialized "KeyMeetingLaw") ∈ kz_T := kz_mw1 0 rfl rfl
theorem mw_39 : (Cond.initialized "KeyMeeting") ∈ kz_T := kz_mw1 1 rfl rfl
theorem mw_40 : (Cond.initialized "KeyMeeting$Host") ∈ kz_T := kz_mw1 2 rfl rfl
theorem mw_41 : (Cond.initialized "KeyMeeting$Modulus") ∈ kz_T := kz_mw1 3 rfl rfl
theorem mw_42 : (Cond.initialized "KeyMeeting$Digest") ∈ kz_T := kz_mw1 4 rfl rfl
theorem mw_43 : (Cond.initialized "KeyMeetingModel") ∈ kz_T := kz_mw1 5 rfl rfl
theorem mw_44 : (Cond.initialized "java/lang/Throwable") ∈ kz_T := kz_mw1 6 rfl rfl
theorem mw_45 : (Cond.initialized "java/lang/Exception") ∈ kz_T := kz_mw1 7 rfl rfl
theorem mw_46 : (Cond.initialized "java/lang/RuntimeException") ∈ kz_T := kz_mw1 8 rfl rfl
theorem mw_47 : (Cond.initialized "java/lang/IndexOutOfBoundsException") ∈ kz_T := kz_mw1 9 rfl rfl
theorem mw_48 : (Cond.initialized "java/lang/IllegalArgumentException") ∈ kz_T := kz_mw1 10 rfl rfl
theorem mw_49 : (Cond.initialized "java/util/Arrays") ∈ kz_T := kz_mw1 11 rfl rfl
theorem mw_50 : (Cond.initialized "KeyMeeting$Words") ∈ kz_T := kz_mw1 12 rfl rfl
theorem mw_51 : (Cond.initialized "java/lang/System") ∈ kz_T := kz_mw1 13 rfl rfl
theorem mw_52 : (Cond.initialized "java/lang/IllegalStateException") ∈ kz_T := kz_mw1 14 rfl rfl
theorem mw_53 : (Cond.classLink "KeyMeetingLaw" (8 : Nat) "KeyMeeting") ∈ kz_T := kz_mw1 15 rfl rfl
theorem mw_54 : (Cond.instantiable "KeyMeeting" (13 : Nat)) ∈ kz_T := kz_mw1 16 rfl rfl
theorem mw_55 : (Cond.methodLink "KeyMeetingLaw" (38 : Nat) zy_K_init) ∈ kz_T := kz_mw1 17 rfl rfl
theorem mw_56 : (Cond.instanceMethod zy_K_init) ∈ kz_T := kz_mw1 18 rfl rfl
theorem mw_57 : (Cond.code zy_K_init prog_1_method_1_code (1 : Nat) (Option.none : Option FieldType)) ∈ kz_T := kz_mw1 19 rfl rfl
theorem mw_58 : (Cond.methodLink "KeyMeeting" (1 : Nat) ({ cls := "java/lang/Object", name := "<init>", desc := "()V" } : MethodName)) ∈ kz_T := kz_mw1 20 rfl rfl
theorem mw_59 : (Cond.instanceMethod ({ cls := "java/lang/Object", name := "<init>", desc := "()V" } : MethodName)) ∈ kz_T := kz_mw1 21 rfl rfl
theorem mw_60 : (Cond.code ({ cls := "java/lang/Object", name := "<init>", desc := "()V" } : MethodName) object_method_1_code (1 : Nat) (Option.none : Option FieldType)) ∈ kz_T := kz_mw1 22 rfl rfl
theorem mw_61 : (Cond.classLink "KeyMeeting" (9 : Nat) "[[I") ∈ kz_T := kz_mw1 23 rfl rfl
theorem mw_63 : (Cond.classLink "KeyMeeting" (39 : Nat) "KeyMeeting$Host") ∈ kz_T := kz_mw1 25 rfl rfl
theorem mw_64 : (Cond.instantiable "KeyMeeting$Host" (5 : Nat)) ∈ kz_T := kz_mw1 26 rfl rfl
theorem mw_66 : (Cond.instanceMethod zy_H_init) ∈ kz_T := kz_mw1 28 rfl rfl
theorem mw_67 : (Cond.code zy_H_init prog_3_method_1_code (1 : Nat) (Option.none : Option FieldType)) ∈ kz_T := kz_mw1 29 rfl rfl
theorem mw_68 : (Cond.methodLink "KeyMeeting$Host" (3 : Nat) ({ cls := "java/lang/Object", name := "<init>", desc := "()V" } : MethodName)) ∈ kz_T := kz_mw1 30 rfl rfl
theorem mw_69 : (Cond.fieldLink "KeyMeeting$Host" (9 : Nat) "KeyMeeting$Host" "product" "[I") ∈ kz_T := kz_mw1 31 rfl rfl
theorem mw_70 : (Cond.fieldLink "KeyMeeting" (107 : Nat) "KeyMeeting$Host" "product" "[I") ∈ kz_T := kz_mw1 32 rfl rfl
theorem mw_71 : (Cond.fieldLink "KeyMeeting$Host" (15 : Nat) "KeyMeeting$Host" "inverse" "[I") ∈ kz_T := kz_mw1 33 rfl rfl
theorem mw_72 : (Cond.fieldLink "KeyMeeting" (136 : Nat) "KeyMeeting$Host" "inverse" "[I") ∈ kz_T := kz_mw1 34 rfl rfl
theorem mw_73 : (Cond.fieldLink "KeyMeeting$Host" (18 : Nat) "KeyMeeting$Host" "p" "[I") ∈ kz_T := kz_mw1 35 rfl rfl
theorem mw_74 : (Cond.fieldLink "KeyMeeting$Host" (21 : Nat) "KeyMeeting$Host" "q" "[I") ∈ kz_T := kz_mw1 36 rfl rfl
theorem mw_75 : (Cond.fieldLink "KeyMeeting$Host" (24 : Nat) "KeyMeeting$Host" "wide" "[I") ∈ kz_T := kz_mw1 37 rfl rfl
theorem mw_76 : (Cond.laysFinal "KeyMeeting$Host" "KeyMeeting$Host" "product" "[I") ∈ kz_T := kz_mw1 38 rfl rfl
theorem mw_77 : (Cond.soleField "KeyMeeting$Host" "product") ∈ kz_T := kz_mw1 39 rfl rfl
theorem mw_78 : (Cond.laysFinal "KeyMeeting$Host" "KeyMeeting$Host" "inverse" "[I") ∈ kz_T := kz_mw1 40 rfl rfl
theorem mw_79 : (Cond.soleField "KeyMeeting$Host" "inverse") ∈ kz_T := kz_mw1 41 rfl rfl
theorem mw_80 : (Cond.laysFinal "KeyMeeting$Host" "KeyMeeting$Host" "p" "[I") ∈ kz_T := kz_mw1 42 rfl rfl
theorem mw_81 : (Cond.soleField "KeyMeeting$Host" "p") ∈ kz_T := kz_mw1 43 rfl rfl
theorem mw_82 : (Cond.laysFinal "KeyMeeting$Host" "KeyMeeting$Host" "q" "[I") ∈ kz_T := kz_mw1 44 rfl rfl
theorem mw_83 : (Cond.soleField "KeyMeeting$Host" "q") ∈ kz_T := kz_mw1 45 rfl rfl
theorem mw_84 : (Cond.laysFinal "KeyMeeting$Host" "KeyMeeting$Host" "wide" "[I") ∈ kz_T := kz_mw1 46 rfl rfl
theorem mw_85 : (Cond.soleField "KeyMeeting$Host" "wide") ∈ kz_T := kz_mw1 47 rfl rfl
theorem mw_86 : (Cond.superclass "KeyMeeting$Host" "java/lang/Object") ∈ kz_T := kz_mw1 48 rfl rfl
theorem mw_87 : (Cond.arrayClass FieldType.int) ∈ kz_T := kz_mw1 49 rfl rfl
theorem mw_88 : (Cond.classLink "KeyMeeting" (46 : Nat) "KeyMeeting$Modulus") ∈ kz_T := kz_mw1 50 rfl rfl
theorem mw_89 : (Cond.instantiable "KeyMeeting$Modulus" (6 : Nat)) ∈ kz_T := kz_mw1 51 rfl rfl
theorem mw_91 : (Cond.instanceMethod zy_M_init) ∈ kz_T := kz_mw1 53 rfl rfl
theorem mw_92 : (Cond.code zy_M_init prog_4_method_1_code (1 : Nat) (Option.none : Option FieldType)) ∈ kz_T := kz_mw1 54 rfl rfl
theorem mw_93 : (Cond.methodLink "KeyMeeting$Modulus" (3 : Nat) ({ cls := "java/lang/Object", name := "<init>", desc := "()V" } : MethodName)) ∈ kz_T := kz_mw1 55 rfl rfl
theorem mw_94 : (Cond.fieldLink "KeyMeeting$Modulus" (9 : Nat) "KeyMeeting$Modulus" "shifted" "[I") ∈ kz_T := kz_mw1 56 rfl rfl
theorem mw_95 : (Cond.fieldLink "KeyMeeting$Modulus" (15 : Nat) "KeyMeeting$Modulus" "factor" "[I") ∈ kz_T := kz_mw1 57 rfl rfl
theorem mw_96 : (Cond.fieldLink "KeyMeeting$Modulus" (18 : Nat) "KeyMeeting$Modulus" "wide" "[I") ∈ kz_T := kz_mw1 58 rfl rfl
theorem mw_97 : (Cond.fieldLink "KeyMeeting$Modulus" (21 : Nat) "KeyMeeting$Modulus" "low" "[I") ∈ kz_T := kz_mw1 59 rfl rfl
theorem mw_98 : (Cond.fieldLink "KeyMeeting$Modulus" (24 : Nat) "KeyMeeting$Modulus" "result" "[I") ∈ kz_T := kz_mw1 60 rfl rfl
theorem mw_99 : (Cond.fieldLink "KeyMeeting$Modulus" (33 : Nat) "KeyMeeting$Modulus" "shift" "I") ∈ kz_T := kz_mw1 61 rfl rfl
theorem mw_100 : (Cond.laysFinal "KeyMeeting$Modulus" "KeyMeeting$Modulus" "shifted" "[I") ∈ kz_T := kz_mw1 62 rfl rfl
theorem mw_101 : (Cond.soleField "KeyMeeting$Modulus" "shifted") ∈ kz_T := kz_mw1 63 rfl rfl
theorem mw_102 : (Cond.laysFinal "KeyMeeting$Modulus" "KeyMeeting$Modulus" "factor" "[I") ∈ kz_T := kz_mw1 64 rfl rfl
theorem mw_103 : (Cond.soleField "KeyMeeting$Modulus" "factor") ∈ kz_T := kz_mw1 65 rfl rfl
theorem mw_104 : (Cond.laysFinal "KeyMeeting$Modulus" "KeyMeeting$Modulus" "wide" "[I") ∈ kz_T := kz_mw1 66 rfl rfl
theorem mw_105 : (Cond.soleField "KeyMeeting$Modulus" "wide") ∈ kz_T := kz_mw1 67 rfl rfl
theorem mw_106 : (Cond.laysFinal "KeyMeeting$Modulus" "KeyMeeting$Modulus" "low" "[I") ∈ kz_T := kz_mw1 68 rfl rfl
theorem mw_107 : (Cond.soleField "KeyMeeting$Modulus" "low") ∈ kz_T := kz_mw1 69 rfl rfl
theorem mw_108 : (Cond.laysFinal "KeyMeeting$Modulus" "KeyMeeting$Modulus" "result" "[I") ∈ kz_T := kz_mw1 70 rfl rfl
theorem mw_109 : (Cond.soleField "KeyMeeting$Modulus" "result") ∈ kz_T := kz_mw1 71 rfl rfl
theorem mw_110 : (Cond.lays "KeyMeeting$Modulus" "KeyMeeting$Modulus" "shift" "I") ∈ kz_T := kz_mw1 72 rfl rfl
theorem mw_111 : (Cond.soleField "KeyMeeting$Modulus" "shift") ∈ kz_T := kz_mw1 73 rfl rfl
theorem mw_112 : (Cond.superclass "KeyMeeting$Modulus" "java/lang/Object") ∈ kz_T := kz_mw1 74 rfl rfl
theorem mw_113 : (Cond.classLink "KeyMeeting" (53 : Nat) "KeyMeeting$Digest") ∈ kz_T := kz_mw1 75 rfl rfl
theorem mw_114 : (Cond.instantiable "KeyMeeting$Digest" (3 : Nat)) ∈ kz_T := kz_mw1 76 rfl rfl
theorem mw_116 : (Cond.instanceMethod zy_D_init) ∈ kz_T := kz_mw1 78 rfl rfl
theorem mw_117 : (Cond.code zy_D_init prog_2_method_1_code (1 : Nat) (Option.none : Option FieldType)) ∈ kz_T := kz_mw1 79 rfl rfl
theorem mw_118 : (Cond.methodLink "KeyMeeting$Digest" (3 : Nat) ({ cls := "java/lang/Object", name := "<init>", desc := "()V" } : MethodName)) ∈ kz_T := kz_mw1 80 rfl rfl
theorem mw_119 : (Cond.fieldLink "KeyMeeting$Digest" (9 : Nat) "KeyMeeting$Digest" "sums" "[I") ∈ kz_T := kz_mw1 81 rfl rfl
theorem mw_120 : (Cond.fieldLink "KeyMeeting$Digest" (15 : Nat) "KeyMeeting$Digest" "row" "[I") ∈ kz_T := kz_mw1 82 rfl rfl
theorem mw_121 : (Cond.fieldLink "KeyMeeting$Digest" (27 : Nat) "KeyMeeting$Digest" "count" "I") ∈ kz_T := kz_mw1 83 rfl rfl
theorem mw_122 : (Cond.laysFinal "KeyMeeting$Digest" "KeyMeeting$Digest" "sums" "[I") ∈ kz_T := kz_mw1 84 rfl rfl
theorem mw_123 : (Cond.soleField "KeyMeeting$Digest" "sums") ∈ kz_T := kz_mw1 85 rfl rfl
theorem mw_124 : (Cond.laysFinal "KeyMeeting$Digest" "KeyMeeting$Digest" "row" "[I") ∈ kz_T := kz_mw1 86 rfl rfl
theorem mw_125 : (Cond.soleField "KeyMeeting$Digest" "row") ∈ kz_T := kz_mw1 87 rfl rfl
theorem mw_126 : (Cond.lays "KeyMeeting$Digest" "KeyMeeting$Digest" "count" "I") ∈ kz_T := kz_mw1 88 rfl rfl
theorem mw_127 : (Cond.soleField "KeyMeeting$Digest" "count") ∈ kz_T := kz_mw1 89 rfl rfl
theorem mw_128 : (Cond.superclass "KeyMeeting$Digest" "java/lang/Object") ∈ kz_T := kz_mw1 90 rfl rfl
theorem mw_129 : (Cond.fieldLink "KeyMeeting" (11 : Nat) "KeyMeeting" "told" "[[I") ∈ kz_T := kz_mw1 91 rfl rfl
theorem mw_130 : (Cond.fieldLink "KeyMeeting" (14 : Nat) "KeyMeeting" "way" "[[I") ∈ kz_T := kz_mw1 92 rfl rfl
theorem mw_131 : (Cond.fieldLink "KeyMeeting" (17 : Nat) "KeyMeeting" "offered" "[I") ∈ kz_T := kz_mw1 93 rfl rfl
theorem mw_132 : (Cond.fieldLink "KeyMeeting" (21 : Nat) "KeyMeeting" "common" "[[I") ∈ kz_T := kz_mw1 94 rfl rfl
theorem mw_133 : (Cond.fieldLink "KeyMeeting" (24 : Nat) "KeyMeeting" "hashes" "[[I") ∈ kz_T := kz_mw1 95 rfl rfl
theorem mw_134 : (Cond.fieldLink "KeyMeeting" (27 : Nat) "KeyMeeting" "keys" "[[I") ∈ kz_T := kz_mw1 96 rfl rfl
theorem mw_135 : (Cond.fieldLink "KeyMeeting" (30 : Nat) "KeyMeeting" "highestPower" "[I") ∈ kz_T := kz_mw1 97 rfl rfl
theorem mw_136 : (Cond.fieldLink "KeyMeeting" (33 : Nat) "KeyMeeting" "hashRest" "[I") ∈ kz_T := kz_mw1 98 rfl rfl
theorem mw_137 : (Cond.fieldLink "KeyMeeting" (36 : Nat) "KeyMeeting" "opened" "[I") ∈ kz_T := kz_mw1 99 rfl rfl
theorem mw_138 : (Cond.fieldLink "KeyMeeting" (42 : Nat) "KeyMeeting" "host" "LKeyMeeting$Host;") ∈ kz_T := kz_mw1 100 rfl rfl
theorem mw_139 : (Cond.fieldLink "KeyMeeting" (49 : Nat) "KeyMeeting" "modulus" "LKeyMeeting$Modulus;") ∈ kz_T := kz_mw1 101 rfl rfl
theorem mw_140 : (Cond.fieldLink "KeyMeeting" (56 : Nat) "KeyMeeting" "digest" "LKeyMeeting$Digest;") ∈ kz_T := kz_mw1 102 rfl rfl
theorem mw_141 : (Cond.fieldLink "KeyMeeting" (60 : Nat) "KeyMeeting" "stage" "I") ∈ kz_T := kz_mw1 103 rfl rfl
theorem mw_142 : (Cond.laysFinal "KeyMeeting" "KeyMeeting" "told" "[[I") ∈ kz_T := kz_mw1 104 rfl rfl
theorem mw_143 : (Cond.soleField "KeyMeeting" "told") ∈ kz_T := kz_mw1 105 rfl rfl
theorem mw_144 : (Cond.laysFinal "KeyMeeting" "KeyMeeting" "way" "[[I") ∈ kz_T := kz_mw1 106 rfl rfl
theorem mw_145 : (Cond.soleField "KeyMeeting" "way") ∈ kz_T := kz_mw1 107 rfl rfl
theorem mw_146 : (Cond.laysFinal "KeyMeeting" "KeyMeeting" "offered" "[I") ∈ kz_T := kz_mw1 108 rfl rfl
theorem mw_147 : (Cond.soleField "KeyMeeting" "offered") ∈ kz_T := kz_mw1 109 rfl rfl
theorem mw_148 : (Cond.laysFinal "KeyMeeting" "KeyMeeting" "common" "[[I") ∈ kz_T := kz_mw1 110 rfl rfl
theorem mw_149 : (Cond.soleField "KeyMeeting" "common") ∈ kz_T := kz_mw1 111 rfl rfl
theorem mw_150 : (Cond.laysFinal "KeyMeeting" "KeyMeeting" "hashes" "[[I") ∈ kz_T := kz_mw1 112 rfl rfl
theorem mw_151 : (Cond.soleField "KeyMeeting" "hashes") ∈ kz_T := kz_mw1 113 rfl rfl
theorem mw_152 : (Cond.laysFinal "KeyMeeting" "KeyMeeting" "keys" "[[I") ∈ kz_T := kz_mw1 114 rfl rfl
theorem mw_153 : (Cond.soleField "KeyMeeting" "keys") ∈ kz_T := kz_mw1 115 rfl rfl
theorem mw_154 : (Cond.laysFinal "KeyMeeting" "KeyMeeting" "highestPower" "[I") ∈ kz_T := kz_mw1 116 rfl rfl
theorem mw_155 : (Cond.soleField "KeyMeeting" "highestPower") ∈ kz_T := kz_mw1 117 rfl rfl
theorem mw_156 : (Cond.laysFinal "KeyMeeting" "KeyMeeting" "hashRest" "[I") ∈ kz_T := kz_mw1 118 rfl rfl
theorem mw_157 : (Cond.soleField "KeyMeeting" "hashRest") ∈ kz_T := kz_mw1 119 rfl rfl
theorem mw_158 : (Cond.laysFinal "KeyMeeting" "KeyMeeting" "opened" "[I") ∈ kz_T := kz_mw1 120 rfl rfl
theorem mw_159 : (Cond.soleField "KeyMeeting" "opened") ∈ kz_T := kz_mw1 121 rfl rfl
theorem mw_160 : (Cond.laysFinal "KeyMeeting" "KeyMeeting" "host" "LKeyMeeting$Host;") ∈ kz_T := kz_mw1 122 rfl rfl
theorem mw_161 : (Cond.soleField "KeyMeeting" "host") ∈ kz_T := kz_mw1 123 rfl rfl
theorem mw_162 : (Cond.laysFinal "KeyMeeting" "KeyMeeting" "modulus" "LKeyMeeting$Modulus;") ∈ kz_T := kz_mw1 124 rfl rfl
theorem mw_163 : (Cond.soleField "KeyMeeting" "modulus") ∈ kz_T := kz_mw1 125 rfl rfl
theorem mw_164 : (Cond.laysFinal "KeyMeeting" "KeyMeeting" "digest" "LKeyMeeting$Digest;") ∈ kz_T := kz_mw1 126 rfl rfl
theorem mw_165 : (Cond.soleField "KeyMeeting" "digest") ∈ kz_T := kz_mw1 127 rfl rfl
theorem mw_166 : (Cond.lays "KeyMeeting" "KeyMeeting" "stage" "I") ∈ kz_T := kz_mw1 128 rfl rfl
theorem mw_167 : (Cond.soleField "KeyMeeting" "stage") ∈ kz_T := kz_mw1 129 rfl rfl
theorem mw_168 : (Cond.superclass "KeyMeeting" "java/lang/Object") ∈ kz_T := kz_mw1 130 rfl rfl
theorem mw_169 : (Cond.methodLink "KeyMeetingLaw" (58 : Nat) zy_K_offer) ∈ kz_T := kz_mw1 131 rfl rfl
theorem mw_170 : (Cond.instanceMethod zy_K_offer) ∈ kz_T := kz_mw1 132 rfl rfl
theorem mw_171 : (Cond.selects "KeyMeeting" zy_K_offer zy_K_offer) ∈ kz_T := kz_mw1 133 rfl rfl
theorem mw_172 : (Cond.code zy_K_offer prog_1_method_4_code (1 : Nat) (Option.some FieldType.int)) ∈ kz_T := kz_mw1 134 rfl rfl
theorem mw_173 : (Cond.methodLink "KeyMeeting" (81 : Nat) zy_K_numbersAreFit) ∈ kz_T := kz_mw1 135 rfl rfl
theorem mw_175 : (Cond.instanceMethod zy_K_numbersAreFit) ∈ kz_T := kz_mw1 137 rfl rfl
theorem mw_176 : (Cond.code zy_K_numbersAreFit prog_1_method_15_code (1 : Nat) (Option.some FieldType.boolean)) ∈ kz_T := kz_mw1 138 rfl rfl
theorem mw_177 : (Cond.methodLink "KeyMeeting" (144 : Nat) zy_W_atLeast) ∈ kz_T := kz_mw1 139 rfl rfl
theorem mw_178 : (Cond.static zy_W_atLeast) ∈ kz_T := kz_mw1 140 rfl rfl
theorem mw_179 : (Cond.code zy_W_atLeast prog_5_method_4_code (3 : Nat) (Option.some FieldType.boolean)) ∈ kz_T := kz_mw1 141 rfl rfl
theorem mw_180 : (Cond.constantLong "KeyMeeting$Words" (15 : Nat) (4294967295 : Int64)) ∈ kz_T := kz_mw1 142 rfl rfl
theorem mw_181 : (Cond.methodLink "KeyMeeting" (99 : Nat) zy_K_isFitPower) ∈ kz_T := kz_mw1 143 rfl rfl
theorem mw_183 : (Cond.instanceMethod zy_K_isFitPower) ∈ kz_T := kz_mw1 145 rfl rfl
theorem mw_184 : (Cond.code zy_K_isFitPower prog_1_method_16_code (2 : Nat) (Option.some FieldType.boolean)) ∈ kz_T := kz_mw1 146 rfl rfl
theorem mw_185 : (Cond.methodLink "KeyMeeting" (148 : Nat) zy_W_subtract) ∈ kz_T := kz_mw1 147 rfl rfl
theorem mw_186 : (Cond.static zy_W_subtract) ∈ kz_T := kz_mw1 148 rfl rfl
theorem mw_187 : (Cond.code zy_W_subtract prog_5_method_5_code (8 : Nat) (Option.none : Option FieldType)) ∈ kz_T := kz_mw1 149 rfl rfl
theorem mw_188 : (Cond.methodLink "KeyMeeting" (117 : Nat) zy_W_compare) ∈ kz_T := kz_mw1 150 rfl rfl
theorem mw_189 : (Cond.static zy_W_compare) ∈ kz_T := kz_mw1 151 rfl rfl
theorem mw_190 : (Cond.code zy_W_compare prog_5_method_3_code (3 : Nat) (Option.some FieldType.int)) ∈ kz_T := kz_mw1 152 rfl rfl
theorem mw_191 : (Cond.methodLink "KeyMeeting" (133 : Nat) zy_H_take) ∈ kz_T := kz_mw1 153 rfl rfl
theorem mw_192 : (Cond.instanceMethod zy_H_take) ∈ kz_T := kz_mw1 154 rfl rfl
theorem mw_193 : (Cond.selects "KeyMeeting$Host" zy_H_take zy_H_take) ∈ kz_T := kz_mw1 155 rfl rfl
theorem mw_194 : (Cond.code zy_H_take prog_3_method_2_code (3 : Nat) (Option.some FieldType.boolean)) ∈ kz_T := kz_mw1 156 rfl rfl
theorem mw_195 : (Cond.methodLink "KeyMeeting$Host" (27 : Nat) zy_H_takeLowHalf) ∈ kz_T := kz_mw1 157 rfl rfl
theorem mw_196 : (Cond.static zy_H_takeLowHalf) ∈ kz_T := kz_mw1 158 rfl rfl
theorem mw_197 : (Cond.code zy_H_takeLowHalf prog_3_method_3_code (3 : Nat) (Option.none : Option FieldType)) ∈ kz_T := kz_mw1 159 rfl rfl
theorem mw_198 : (Cond.methodLink "KeyMeeting$Host" (31 : Nat) zy_W_atLeast) ∈ kz_T := kz_mw1 160 rfl rfl
theorem mw_199 : (Cond.methodLink "KeyMeeting$Host" (37 : Nat) zy_H_multiplyBoth) ∈ kz_T := kz_mw1 161 rfl rfl
theorem mw_201 : (Cond.instanceMethod zy_H_multiplyBoth) ∈ kz_T := kz_mw1 163 rfl rfl
theorem mw_202 : (Cond.code zy_H_multiplyBoth prog_3_method_4_code (2 : Nat) (Option.none : Option FieldType)) ∈ kz_T := kz_mw1 164 rfl rfl
theorem mw_203 : (Cond.methodLink "KeyMeeting$Host" (49 : Nat) zy_W_multiply) ∈ kz_T := kz_mw1 165 rfl rfl
theorem mw_204 : (Cond.static zy_W_multiply) ∈ kz_T := kz_mw1 166 rfl rfl
theorem mw_205 : (Cond.code zy_W_multiply prog_5_method_6_code (4 : Nat) (Option.none : Option FieldType)) ∈ kz_T := kz_mw1 167 rfl rfl
theorem mw_206 : (Cond.methodLink "KeyMeeting$Words" (17 : Nat) zy_A_fill) ∈ kz_T := kz_mw1 168 rfl rfl
theorem mw_207 : (Cond.static zy_A_fill) ∈ kz_T := kz_mw1 169 rfl rfl
theorem mw_208 : (Cond.code zy_A_fill prog_16_method_103_code (4 : Nat) (Option.none : Option FieldType)) ∈ kz_T := kz_mw1 170 rfl rfl
theorem mw_209 : (Cond.methodLink "KeyMeeting$Words" (23 : Nat) zy_W_addMultiple) ∈ kz_T := kz_mw1 171 rfl rfl
theorem mw_210 : (Cond.static zy_W_addMultiple) ∈ kz_T := kz_mw1 172 rfl rfl
theorem mw_211 : (Cond.code zy_W_addMultiple prog_5_method_7_code (10 : Nat) (Option.some FieldType.int)) ∈ kz_T := kz_mw1 173 rfl rfl
theorem mw_212 : (Cond.methodLink "KeyMeeting$Host" (53 : Nat) ({ cls := "java/lang/System", name := "arraycopy", desc := "(Ljava/lang/Object;ILjava/lang/Object;II)V" } : MethodName)) ∈ kz_T := kz_mw1 174 rfl rfl
theorem mw_213 : (Cond.static ({ cls := "java/lang/System", name := "arraycopy", desc := "(Ljava/lang/Object;ILjava/lang/Object;II)V" } : MethodName)) ∈ kz_T := kz_mw1 175 rfl rfl
theorem mw_214 : (Cond.native ({ cls := "java/lang/System", name := "arraycopy", desc := "(Ljava/lang/Object;ILjava/lang/Object;II)V" } : MethodName)) ∈ kz_T := kz_mw1 176 rfl rfl
theorem mw_215 : (Cond.methodLink "KeyMeeting$Host" (41 : Nat) zy_W_subtract) ∈ kz_T := kz_mw1 177 rfl rfl
theorem mw_216 : (Cond.methodLink "KeyMeeting$Host" (45 : Nat) zy_H_invert) ∈ kz_T := kz_mw1 178 rfl rfl
theorem mw_218 : (Cond.instanceMethod zy_H_invert) ∈ kz_T := kz_mw1 180 rfl rfl
theorem mw_219 : (Cond.code zy_H_invert prog_3_method_5_code (10 : Nat) (Option.some FieldType.boolean)) ∈ kz_T := kz_mw1 181 rfl rfl
theorem mw_220 : (Cond.methodLink "KeyMeeting$Host" (59 : Nat) zy_H_restOfInverse) ∈ kz_T := kz_mw1 182 rfl rfl
theorem mw_222 : (Cond.instanceMethod zy_H_restOfInverse) ∈ kz_T := kz_mw1 184 rfl rfl
theorem mw_223 : (Cond.code zy_H_restOfInverse prog_3_method_6_code (4 : Nat) (Option.some FieldType.long)) ∈ kz_T := kz_mw1 185 rfl rfl
theorem mw_224 : (Cond.constantLong "KeyMeeting$Host" (69 : Nat) (4294967295 : Int64)) ∈ kz_T := kz_mw1 186 rfl rfl
theorem mw_225 : (Cond.constantLong "KeyMeeting$Host" (63 : Nat) (65537 : Int64)) ∈ kz_T := kz_mw1 187 rfl rfl
theorem mw_226 : (Cond.methodLink "KeyMeeting$Host" (65 : Nat) zy_H_inverseOfSmall) ∈ kz_T := kz_mw1 188 rfl rfl
theorem mw_227 : (Cond.static zy_H_inverseOfSmall) ∈ kz_T := kz_mw1 189 rfl rfl
theorem mw_228 : (Cond.code zy_H_inverseOfSmall prog_3_method_7_code (5 : Nat) (Option.some FieldType.long)) ∈ kz_T := kz_mw1 190 rfl rfl
theorem mw_229 : (Cond.methodLink "KeyMeeting$Host" (71 : Nat) zy_H_divideInverse) ∈ kz_T := kz_mw1 191 rfl rfl
theorem mw_231 : (Cond.instanceMethod zy_H_divideInverse) ∈ kz_T := kz_mw1 193 rfl rfl
theorem mw_232 : (Cond.code zy_H_divideInverse prog_3_method_8_code (8 : Nat) (Option.none : Option FieldType)) ∈ kz_T := kz_mw1 194 rfl rfl
theorem mw_233 : (Cond.methodLink "KeyMeeting" (85 : Nat) zy_M_take) ∈ kz_T := kz_mw1 195 rfl rfl
theorem mw_234 : (Cond.instanceMethod zy_M_take) ∈ kz_T := kz_mw1 196 rfl rfl
theorem mw_235 : (Cond.selects "KeyMeeting$Modulus" zy_M_take zy_M_take) ∈ kz_T := kz_mw1 197 rfl rfl
theorem mw_236 : (Cond.code zy_M_take prog_4_method_2_code (2 : Nat) (Option.none : Option FieldType)) ∈ kz_T := kz_mw1 198 rfl rfl
theorem mw_237 : (Cond.methodLink "KeyMeeting$Modulus" (27 : Nat) zy_W_leadingZeros) ∈ kz_T := kz_mw1 199 rfl rfl
theorem mw_238 : (Cond.static zy_W_leadingZeros) ∈ kz_T := kz_mw1 200 rfl rfl
theorem mw_239 : (Cond.code zy_W_leadingZeros prog_5_method_9_code (2 : Nat) (Option.some FieldType.int)) ∈ kz_T := kz_mw1 201 rfl rfl
theorem mw_240 : (Cond.methodLink "KeyMeeting$Words" (29 : Nat) zy_W_hasBit) ∈ kz_T := kz_mw1 202 rfl rfl
theorem mw_241 : (Cond.static zy_W_hasBit) ∈ kz_T := kz_mw1 203 rfl rfl
theorem mw_242 : (Cond.code zy_W_hasBit prog_5_method_8_code (2 : Nat) (Option.some FieldType.boolean)) ∈ kz_T := kz_mw1 204 rfl rfl
theorem mw_243 : (Cond.methodLink "KeyMeeting$Modulus" (37 : Nat) zy_W_shiftLeft) ∈ kz_T := kz_mw1 205 rfl rfl
theorem mw_244 : (Cond.static zy_W_shiftLeft) ∈ kz_T := kz_mw1 206 rfl rfl
theorem mw_245 : (Cond.code zy_W_shiftLeft prog_5_method_10_code (7 : Nat) (Option.none : Option FieldType)) ∈ kz_T := kz_mw1 207 rfl rfl
theorem mw_246 : (Cond.methodLink "KeyMeeting$Words" (33 : Nat) zy_W_wordOrZero) ∈ kz_T := kz_mw1 208 rfl rfl
theorem mw_247 : (Cond.static zy_W_wordOrZero) ∈ kz_T := kz_mw1 209 rfl rfl
theorem mw_248 : (Cond.code zy_W_wordOrZero prog_5_method_12_code (2 : Nat) (Option.some FieldType.long)) ∈ kz_T := kz_mw1 210 rfl rfl
theorem mw_249 : (Cond.methodLink "KeyMeeting" (89 : Nat) zy_M_power) ∈ kz_T := kz_mw1 211 rfl rfl
theorem mw_250 : (Cond.instanceMethod zy_M_power) ∈ kz_T := kz_mw1 212 rfl rfl
theorem mw_251 : (Cond.selects "KeyMeeting$Modulus" zy_M_power zy_M_power) ∈ kz_T := kz_mw1 213 rfl rfl
theorem mw_252 : (Cond.code zy_M_power prog_4_method_4_code (5 : Nat) (Option.none : Option FieldType)) ∈ kz_T := kz_mw1 214 rfl rfl
theorem mw_253 : (Cond.fieldLink "KeyMeeting$Modulus" (41 : Nat) "KeyMeeting$Modulus" "ONE" "[I") ∈ kz_T := kz_mw1 215 rfl rfl
theorem mw_255 : (Cond.methodLink "KeyMeeting$Modulus" (44 : Nat) zy_M_multiply) ∈ kz_T := kz_mw1 217 rfl rfl
theorem mw_257 : (Cond.instanceMethod zy_M_multiply) ∈ kz_T := kz_mw1 219 rfl rfl
theorem mw_258 : (Cond.code zy_M_multiply prog_4_method_5_code (4 : Nat) (Option.none : Option FieldType)) ∈ kz_T := kz_mw1 220 rfl rfl
theorem mw_259 : (Cond.methodLink "KeyMeeting$Modulus" (56 : Nat) zy_W_multiply) ∈ kz_T := kz_mw1 221 rfl rfl
theorem mw_260 : (Cond.methodLink "KeyMeeting$Modulus" (57 : Nat) zy_M_reduce) ∈ kz_T := kz_mw1 222 rfl rfl
theorem mw_262 : (Cond.instanceMethod zy_M_reduce) ∈ kz_T := kz_mw1 224 rfl rfl
theorem mw_263 : (Cond.code zy_M_reduce prog_4_method_6_code (4 : Nat) (Option.none : Option FieldType)) ∈ kz_T := kz_mw1 225 rfl rfl
theorem mw_264 : (Cond.methodLink "KeyMeeting$Modulus" (69 : Nat) zy_M_guessDigit) ∈ kz_T := kz_mw1 226 rfl rfl
theorem mw_266 : (Cond.instanceMethod zy_M_guessDigit) ∈ kz_T := kz_mw1 228 rfl rfl
theorem mw_267 : (Cond.code zy_M_guessDigit prog_4_method_7_code (10 : Nat) (Option.some FieldType.long)) ∈ kz_T := kz_mw1 229 rfl rfl
theorem mw_268 : (Cond.constantLong "KeyMeeting$Modulus" (77 : Nat) (4294967295 : Int64)) ∈ kz_T := kz_mw1 230 rfl rfl
theorem mw_269 : (Cond.methodLink "KeyMeeting$Modulus" (73 : Nat) zy_M_takeAway) ∈ kz_T := kz_mw1 231 rfl rfl
theorem mw_271 : (Cond.instanceMethod zy_M_takeAway) ∈ kz_T := kz_mw1 233 rfl rfl
theorem mw_272 : (Cond.code zy_M_takeAway prog_4_method_8_code (11 : Nat) (Option.none : Option FieldType)) ∈ kz_T := kz_mw1 234 rfl rfl
theorem mw_273 : (Cond.methodLink "KeyMeeting$Modulus" (79 : Nat) zy_M_giveBack) ∈ kz_T := kz_mw1 235 rfl rfl
theorem mw_275 : (Cond.instanceMethod zy_M_giveBack) ∈ kz_T := kz_mw1 237 rfl rfl
theorem mw_276 : (Cond.code zy_M_giveBack prog_4_method_9_code (7 : Nat) (Option.some FieldType.long)) ∈ kz_T := kz_mw1 238 rfl rfl
theorem mw_277 : (Cond.methodLink "KeyMeeting$Modulus" (60 : Nat) ({ cls := "java/lang/System", name := "arraycopy", desc := "(Ljava/lang/Object;ILjava/lang/Object;II)V" } : MethodName)) ∈ kz_T := kz_mw1 239 rfl rfl
theorem mw_278 : (Cond.methodLink "KeyMeeting$Modulus" (66 : Nat) zy_W_shiftRight) ∈ kz_T := kz_mw2 0 rfl rfl
theorem mw_279 : (Cond.static zy_W_shiftRight) ∈ kz_T := kz_mw2 1 rfl rfl
theorem mw_280 : (Cond.code zy_W_shiftRight prog_5_method_11_code (7 : Nat) (Option.none : Option FieldType)) ∈ kz_T := kz_mw2 2 rfl rfl
theorem mw_281 : (Cond.methodLink "KeyMeeting$Modulus" (48 : Nat) zy_W_hasBit) ∈ kz_T := kz_mw2 3 rfl rfl
theorem mw_282 : (Cond.methodLink "KeyMeeting$Modulus" (52 : Nat) zy_W_copy) ∈ kz_T := kz_mw2 4 rfl rfl
theorem mw_283 : (Cond.static zy_W_copy) ∈ kz_T := kz_mw2 5 rfl rfl
theorem mw_284 : (Cond.code zy_W_copy prog_5_method_2_code (2 : Nat) (Option.none : Option FieldType)) ∈ kz_T := kz_mw2 6 rfl rfl
theorem mw_285 : (Cond.methodLink "KeyMeeting$Words" (9 : Nat) ({ cls := "java/lang/System", name := "arraycopy", desc := "(Ljava/lang/Object;ILjava/lang/Object;II)V" } : MethodName)) ∈ kz_T := kz_mw2 7 rfl rfl
theorem mw_286 : (Cond.methodLink "KeyMeeting" (93 : Nat) zy_W_copy) ∈ kz_T := kz_mw2 8 rfl rfl
theorem mw_287 : (Cond.methodLink "KeyMeetingLaw" (62 : Nat) zy_K_answer) ∈ kz_T := kz_mw2 9 rfl rfl
theorem mw_288 : (Cond.instanceMethod zy_K_answer) ∈ kz_T := kz_mw2 10 rfl rfl
theorem mw_289 : (Cond.selects "KeyMeeting" zy_K_answer zy_K_answer) ∈ kz_T := kz_mw2 11 rfl rfl
theorem mw_290 : (Cond.code zy_K_answer prog_1_method_5_code (1 : Nat) (Option.some FieldType.int)) ∈ kz_T := kz_mw2 12 rfl rfl
theorem mw_291 : (Cond.methodLink "KeyMeeting" (103 : Nat) zy_K_endWith) ∈ kz_T := kz_mw2 13 rfl rfl
theorem mw_293 : (Cond.instanceMethod zy_K_endWith) ∈ kz_T := kz_mw2 15 rfl rfl
theorem mw_294 : (Cond.code zy_K_endWith prog_1_method_14_code (2 : Nat) (Option.some FieldType.int)) ∈ kz_T := kz_mw2 16 rfl rfl
theorem mw_295 : (Cond.methodLink "KeyMeeting" (110 : Nat) zy_K_makeHash) ∈ kz_T := kz_mw2 17 rfl rfl
theorem mw_297 : (Cond.instanceMethod zy_K_makeHash) ∈ kz_T := kz_mw2 19 rfl rfl
theorem mw_298 : (Cond.code zy_K_makeHash prog_1_method_17_code (3 : Nat) (Option.none : Option FieldType)) ∈ kz_T := kz_mw2 20 rfl rfl
theorem mw_299 : (Cond.methodLink "KeyMeeting" (152 : Nat) zy_D_clear) ∈ kz_T := kz_mw2 21 rfl rfl
theorem mw_300 : (Cond.instanceMethod zy_D_clear) ∈ kz_T := kz_mw2 22 rfl rfl
theorem mw_301 : (Cond.selects "KeyMeeting$Digest" zy_D_clear zy_D_clear) ∈ kz_T := kz_mw2 23 rfl rfl
theorem mw_302 : (Cond.code zy_D_clear prog_2_method_2_code (1 : Nat) (Option.none : Option FieldType)) ∈ kz_T := kz_mw2 24 rfl rfl
theorem mw_303 : (Cond.fieldLink "KeyMeeting$Digest" (18 : Nat) "KeyMeeting$Digest" "START" "[I") ∈ kz_T := kz_mw2 25 rfl rfl
theorem mw_305 : (Cond.methodLink "KeyMeeting$Digest" (21 : Nat) zy_W_copy) ∈ kz_T := kz_mw2 27 rfl rfl
theorem mw_306 : (Cond.methodLink "KeyMeeting" (155 : Nat) zy_D_put) ∈ kz_T := kz_mw2 28 rfl rfl
theorem mw_307 : (Cond.instanceMethod zy_D_put) ∈ kz_T := kz_mw2 29 rfl rfl
theorem mw_308 : (Cond.selects "KeyMeeting$Digest" zy_D_put zy_D_put) ∈ kz_T := kz_mw2 30 rfl rfl
theorem mw_309 : (Cond.code zy_D_put prog_2_method_3_code (3 : Nat) (Option.none : Option FieldType)) ∈ kz_T := kz_mw2 31 rfl rfl
theorem mw_310 : (Cond.methodLink "KeyMeeting$Digest" (31 : Nat) zy_D_putWord) ∈ kz_T := kz_mw2 32 rfl rfl
theorem mw_312 : (Cond.instanceMethod zy_D_putWord) ∈ kz_T := kz_mw2 34 rfl rfl
theorem mw_313 : (Cond.code zy_D_putWord prog_2_method_5_code (2 : Nat) (Option.none : Option FieldType)) ∈ kz_T := kz_mw2 35 rfl rfl
theorem mw_314 : (Cond.methodLink "KeyMeeting$Digest" (44 : Nat) zy_D_mixRow) ∈ kz_T := kz_mw2 36 rfl rfl
theorem mw_316 : (Cond.instanceMethod zy_D_mixRow) ∈ kz_T := kz_mw2 38 rfl rfl
theorem mw_317 : (Cond.code zy_D_mixRow prog_2_method_6_code (12 : Nat) (Option.none : Option FieldType)) ∈ kz_T := kz_mw2 39 rfl rfl
theorem mw_318 : (Cond.methodLink "KeyMeeting$Digest" (47 : Nat) zy_D_spreadRow) ∈ kz_T := kz_mw2 40 rfl rfl
theorem mw_320 : (Cond.instanceMethod zy_D_spreadRow) ∈ kz_T := kz_mw2 42 rfl rfl
theorem mw_321 : (Cond.code zy_D_spreadRow prog_2_method_7_code (6 : Nat) (Option.none : Option FieldType)) ∈ kz_T := kz_mw2 43 rfl rfl
theorem mw_322 : (Cond.methodLink "KeyMeeting$Digest" (50 : Nat) zy_D_turn) ∈ kz_T := kz_mw2 44 rfl rfl
theorem mw_323 : (Cond.static zy_D_turn) ∈ kz_T := kz_mw2 45 rfl rfl
theorem mw_324 : (Cond.code zy_D_turn prog_2_method_8_code (2 : Nat) (Option.some FieldType.int)) ∈ kz_T := kz_mw2 46 rfl rfl
theorem mw_325 : (Cond.fieldLink "KeyMeeting$Digest" (54 : Nat) "KeyMeeting$Digest" "ROOTS" "[I") ∈ kz_T := kz_mw2 47 rfl rfl
theorem mw_327 : (Cond.methodLink "KeyMeeting" (158 : Nat) zy_D_end) ∈ kz_T := kz_mw2 49 rfl rfl
theorem mw_328 : (Cond.instanceMethod zy_D_end) ∈ kz_T := kz_mw2 50 rfl rfl
theorem mw_329 : (Cond.selects "KeyMeeting$Digest" zy_D_end zy_D_end) ∈ kz_T := kz_mw2 51 rfl rfl
theorem mw_330 : (Cond.code zy_D_end prog_2_method_4_code (8 : Nat) (Option.none : Option FieldType)) ∈ kz_T := kz_mw2 52 rfl rfl
theorem mw_331 : (Cond.constantLong "KeyMeeting$Digest" (35 : Nat) (32 : Int64)) ∈ kz_T := kz_mw2 53 rfl rfl
theorem mw_332 : (Cond.constant "KeyMeeting$Digest" (37 : Nat) (-2147483648 : Int32)) ∈ kz_T := kz_mw2 54 rfl rfl
theorem mw_333 : (Cond.methodLink "KeyMeeting$Digest" (38 : Nat) ({ cls := "java/lang/System", name := "arraycopy", desc := "(Ljava/lang/Object;ILjava/lang/Object;II)V" } : MethodName)) ∈ kz_T := kz_mw2 55 rfl rfl
theorem mw_334 : (Cond.methodLink "KeyMeeting" (114 : Nat) zy_K_sign) ∈ kz_T := kz_mw2 56 rfl rfl
theorem mw_336 : (Cond.instanceMethod zy_K_sign) ∈ kz_T := kz_mw2 58 rfl rfl
theorem mw_337 : (Cond.code zy_K_sign prog_1_method_18_code (1 : Nat) (Option.none : Option FieldType)) ∈ kz_T := kz_mw2 59 rfl rfl
theorem mw_338 : (Cond.methodLink "KeyMeeting" (162 : Nat) zy_M_rest) ∈ kz_T := kz_mw2 60 rfl rfl
theorem mw_339 : (Cond.instanceMethod zy_M_rest) ∈ kz_T := kz_mw2 61 rfl rfl
theorem mw_340 : (Cond.selects "KeyMeeting$Modulus" zy_M_rest zy_M_rest) ∈ kz_T := kz_mw2 62 rfl rfl
theorem mw_341 : (Cond.code zy_M_rest prog_4_method_3_code (3 : Nat) (Option.none : Option FieldType)) ∈ kz_T := kz_mw2 63 rfl rfl
theorem mw_342 : (Cond.methodLink "KeyMeetingLaw" (66 : Nat) zy_K_accept) ∈ kz_T := kz_mw2 64 rfl rfl
theorem mw_343 : (Cond.instanceMethod zy_K_accept) ∈ kz_T := kz_mw2 65 rfl rfl
theorem mw_344 : (Cond.selects "KeyMeeting" zy_K_accept zy_K_accept) ∈ kz_T := kz_mw2 66 rfl rfl
theorem mw_345 : (Cond.code zy_K_accept prog_1_method_6_code (1 : Nat) (Option.some FieldType.int)) ∈ kz_T := kz_mw2 67 rfl rfl
theorem mw_346 : (Cond.methodLink "KeyMeeting" (121 : Nat) zy_K_isSigned) ∈ kz_T := kz_mw2 68 rfl rfl
theorem mw_348 : (Cond.instanceMethod zy_K_isSigned) ∈ kz_T := kz_mw2 70 rfl rfl
theorem mw_349 : (Cond.code zy_K_isSigned prog_1_method_19_code (1 : Nat) (Option.some FieldType.boolean)) ∈ kz_T := kz_mw2 71 rfl rfl
theorem mw_350 : (Cond.fieldLink "KeyMeeting" (165 : Nat) "KeyMeeting$Host" "EXPONENT_WORDS" "[I") ∈ kz_T := kz_mw2 72 rfl rfl
theorem mw_352 : (Cond.methodLink "KeyMeeting" (124 : Nat) zy_K_makeKeys) ∈ kz_T := kz_mw2 74 rfl rfl
theorem mw_354 : (Cond.instanceMethod zy_K_makeKeys) ∈ kz_T := kz_mw2 76 rfl rfl
theorem mw_355 : (Cond.code zy_K_makeKeys prog_1_method_20_code (3 : Nat) (Option.none : Option FieldType)) ∈ kz_T := kz_mw2 77 rfl rfl
theorem mw_356 : (Cond.methodLink "KeyMeetingLaw" (81 : Nat) zy_K_state) ∈ kz_T := kz_mw2 78 rfl rfl
theorem mw_357 : (Cond.instanceMethod zy_K_state) ∈ kz_T := kz_mw2 79 rfl rfl
theorem mw_358 : (Cond.selects "KeyMeeting" zy_K_state zy_K_state) ∈ kz_T := kz_mw2 80 rfl rfl
theorem mw_359 : (Cond.code zy_K_state prog_1_method_10_code (1 : Nat) (Option.some FieldType.int)) ∈ kz_T := kz_mw2 81 rfl rfl
theorem mw_360 : (Cond.methodLink "KeyMeetingLaw" (85 : Nat) zy_K_begin) ∈ kz_T := kz_mw2 82 rfl rfl
theorem mw_361 : (Cond.instanceMethod zy_K_begin) ∈ kz_T := kz_mw2 83 rfl rfl
theorem mw_362 : (Cond.selects "KeyMeeting" zy_K_begin zy_K_begin) ∈ kz_T := kz_mw2 84 rfl rfl
theorem mw_363 : (Cond.code zy_K_begin prog_1_method_11_code (1 : Nat) (Option.none : Option FieldType)) ∈ kz_T := kz_mw2 85 rfl rfl
theorem mw_364 : (Cond.methodLink "KeyMeetingLaw" (42 : Nat) ({ cls := "KeyMeetingLaw", name := "number", desc := "(LKeyMeeting;III)I" } : MethodName)) ∈ kz_T := kz_mw2 86 rfl rfl
theorem mw_365 : (Cond.static ({ cls := "KeyMeetingLaw", name := "number", desc := "(LKeyMeeting;III)I" } : MethodName)) ∈ kz_T := kz_mw2 87 rfl rfl
theorem mw_367 : (Cond.classLink "KeyMeetingLaw" (13 : Nat) "java/lang/IndexOutOfBoundsException") ∈ kz_T := kz_mw2 89 rfl rfl
theorem mw_368 : (Cond.methodLink "KeyMeetingLaw" (7 : Nat) zy_K_number) ∈ kz_T := kz_mw2 90 rfl rfl
theorem mw_369 : (Cond.instanceMethod zy_K_number) ∈ kz_T := kz_mw2 91 rfl rfl
theorem mw_370 : (Cond.selects "KeyMeeting" zy_K_number zy_K_number) ∈ kz_T := kz_mw2 92 rfl rfl
theorem mw_371 : (Cond.code zy_K_number prog_1_method_2_code (4 : Nat) (Option.none : Option FieldType)) ∈ kz_T := kz_mw2 93 rfl rfl
theorem mw_372 : (Cond.methodLink "KeyMeeting" (64 : Nat) zy_K_needIndex) ∈ kz_T := kz_mw2 94 rfl rfl
theorem mw_373 : (Cond.static zy_K_needIndex) ∈ kz_T := kz_mw2 95 rfl rfl
theorem mw_374 : (Cond.code zy_K_needIndex prog_1_method_13_code (2 : Nat) (Option.none : Option FieldType)) ∈ kz_T := kz_mw2 96 rfl rfl
theorem mw_375 : (Cond.classLink "KeyMeeting" (139 : Nat) "java/lang/IndexOutOfBoundsException") ∈ kz_T := kz_mw2 97 rfl rfl
theorem mw_376 : (Cond.instantiable "java/lang/IndexOutOfBoundsException" (6 : Nat)) ∈ kz_T := kz_mw2 98 rfl rfl
theorem mw_384 : (Cond.selects "java/lang/IndexOutOfBoundsException" ({ cls := "java/lang/Throwable", name := "fillInStackTrace", desc := "(I)Ljava/lang/Throwable;" } : MethodName) ({ cls := "java/lang/Throwable", name := "fillInStackTrace", desc := "(I)Ljava/lang/Throwable;" } : MethodName)) ∈ kz_T := kz_mw2 106 rfl rfl
theorem mw_385 : (Cond.selects "java/lang/IndexOutOfBoundsException" ({ cls := "java/lang/Throwable", name := "fillInStackTrace", desc := "()Ljava/lang/Throwable;" } : MethodName) ({ cls := "java/lang/Throwable", name := "fillInStackTrace", desc := "()Ljava/lang/Throwable;" } : MethodName)) ∈ kz_T := kz_mw2 107 rfl rfl
theorem mw_386 : (Cond.lays "java/lang/IndexOutOfBoundsException" "java/lang/Throwable" "cause" "Ljava/lang/Throwable;") ∈ kz_T := kz_mw2 108 rfl rfl
theorem mw_387 : (Cond.lays "java/lang/Throwable" "java/lang/Throwable" "cause" "Ljava/lang/Throwable;") ∈ kz_T := kz_mw2 109 rfl rfl
theorem mw_388 : (Cond.lays "java/lang/IndexOutOfBoundsException" "java/lang/Throwable" "stackTrace" "[Ljava/lang/StackTraceElement;") ∈ kz_T := kz_mw2 110 rfl rfl
theorem mw_389 : (Cond.lays "java/lang/Throwable" "java/lang/Throwable" "stackTrace" "[Ljava/lang/StackTraceElement;") ∈ kz_T := kz_mw2 111 rfl rfl
theorem mw_390 : (Cond.lays "java/lang/IndexOutOfBoundsException" "java/lang/Throwable" "suppressedExceptions" "Ljava/util/List;") ∈ kz_T := kz_mw2 112 rfl rfl
theorem mw_391 : (Cond.lays "java/lang/Throwable" "java/lang/Throwable" "suppressedExceptions" "Ljava/util/List;") ∈ kz_T := kz_mw2 113 rfl rfl
theorem mw_392 : (Cond.lays "java/lang/IndexOutOfBoundsException" "java/lang/Throwable" "detailMessage" "Ljava/lang/String;") ∈ kz_T := kz_mw2 114 rfl rfl
theorem mw_393 : (Cond.lays "java/lang/Throwable" "java/lang/Throwable" "detailMessage" "Ljava/lang/String;") ∈ kz_T := kz_mw2 115 rfl rfl
theorem mw_394 : (Cond.lays "java/lang/IndexOutOfBoundsException" "java/lang/Throwable" "backtrace" "Ljava/lang/Object;") ∈ kz_T := kz_mw2 116 rfl rfl
theorem mw_395 : (Cond.lays "java/lang/Throwable" "java/lang/Throwable" "backtrace" "Ljava/lang/Object;") ∈ kz_T := kz_mw2 117 rfl rfl
theorem mw_396 : (Cond.fieldLink "java/lang/Throwable" (198 : Nat) "java/lang/Throwable" "backtrace" "Ljava/lang/Object;") ∈ kz_T := kz_mw2 118 rfl rfl
theorem mw_397 : (Cond.superclass "java/lang/Throwable" "java/lang/Object") ∈ kz_T := kz_mw2 119 rfl rfl
theorem mw_398 : (Cond.instanceMethod ({ cls := "java/lang/Throwable", name := "<init>", desc := "()V" } : MethodName)) ∈ kz_T := kz_mw2 120 rfl rfl
theorem mw_399 : (Cond.code ({ cls := "java/lang/Throwable", name := "<init>", desc := "()V" } : MethodName) prog_15_method_1_code (1 : Nat) (Option.none : Option FieldType)) ∈ kz_T := kz_mw2 121 rfl rfl
theorem mw_400 : (Cond.methodLink "java/lang/Throwable" (1 : Nat) ({ cls := "java/lang/Object", name := "<init>", desc := "()V" } : MethodName)) ∈ kz_T := kz_mw2 122 rfl rfl
theorem mw_401 : (Cond.fieldLink "java/lang/Throwable" (13 : Nat) "java/lang/Throwable" "UNASSIGNED_STACK" "[Ljava/lang/StackTraceElement;") ∈ kz_T := kz_mw2 123 rfl rfl
theorem mw_403 : (Cond.fieldLink "java/lang/Throwable" (20 : Nat) "java/lang/Throwable" "SUPPRESSED_SENTINEL" "Ljava/util/List;") ∈ kz_T := kz_mw2 125 rfl rfl
theorem mw_405 : (Cond.methodLink "java/lang/Throwable" (27 : Nat) ({ cls := "java/lang/Throwable", name := "fillInStackTrace", desc := "()Ljava/lang/Throwable;" } : MethodName)) ∈ kz_T := kz_mw2 127 rfl rfl
theorem mw_406 : (Cond.instanceMethod ({ cls := "java/lang/Throwable", name := "fillInStackTrace", desc := "()Ljava/lang/Throwable;" } : MethodName)) ∈ kz_T := kz_mw2 128 rfl rfl
theorem mw_407 : (Cond.sameMethod "java/lang/Throwable" "java/lang/Throwable" "fillInStackTrace" "()Ljava/lang/Throwable;") ∈ kz_T := kz_mw2 129 rfl rfl
theorem mw_408 : (Cond.selects "java/lang/IllegalArgumentException" ({ cls := "java/lang/Throwable", name := "fillInStackTrace", desc := "()Ljava/lang/Throwable;" } : MethodName) ({ cls := "java/lang/Throwable", name := "fillInStackTrace", desc := "()Ljava/lang/Throwable;" } : MethodName)) ∈ kz_T := kz_mw2 130 rfl rfl
theorem mw_409 : (Cond.selects "java/lang/IllegalStateException" ({ cls := "java/lang/Throwable", name := "fillInStackTrace", desc := "()Ljava/lang/Throwable;" } : MethodName) ({ cls := "java/lang/Throwable", name := "fillInStackTrace", desc := "()Ljava/lang/Throwable;" } : MethodName)) ∈ kz_T := kz_mw2 131 rfl rfl
theorem mw_410 : (Cond.codeSync ({ cls := "java/lang/Throwable", name := "fillInStackTrace", desc := "()Ljava/lang/Throwable;" } : MethodName) prog_15_method_18_code (1 : Nat) (Option.some (FieldType.object "java/lang/Throwable"))) ∈ kz_T := kz_mw2 132 rfl rfl
theorem mw_411 : (Cond.methodLink "java/lang/Throwable" (202 : Nat) ({ cls := "java/lang/Throwable", name := "fillInStackTrace", desc := "(I)Ljava/lang/Throwable;" } : MethodName)) ∈ kz_T := kz_mw2 133 rfl rfl
theorem mw_413 : (Cond.instanceMethod ({ cls := "java/lang/Throwable", name := "fillInStackTrace", desc := "(I)Ljava/lang/Throwable;" } : MethodName)) ∈ kz_T := kz_mw2 135 rfl rfl
theorem mw_414 : (Cond.instantiable "java/lang/Throwable" (6 : Nat)) ∈ kz_T := kz_mw2 136 rfl rfl
theorem mw_415 : (Cond.native ({ cls := "java/lang/Throwable", name := "fillInStackTrace", desc := "(I)Ljava/lang/Throwable;" } : MethodName)) ∈ kz_T := kz_mw2 137 rfl rfl
theorem mw_417 : (Cond.methodLink "KeyMeeting" (143 : Nat) ({ cls := "java/lang/IndexOutOfBoundsException", name := "<init>", desc := "(Ljava/lang/String;)V" } : MethodName)) ∈ kz_T := kz_mw2 139 rfl rfl
theorem mw_418 : (Cond.instanceMethod ({ cls := "java/lang/IndexOutOfBoundsException", name := "<init>", desc := "(Ljava/lang/String;)V" } : MethodName)) ∈ kz_T := kz_mw2 140 rfl rfl
theorem mw_419 : (Cond.code ({ cls := "java/lang/IndexOutOfBoundsException", name := "<init>", desc := "(Ljava/lang/String;)V" } : MethodName) prog_11_method_2_code (2 : Nat) (Option.none : Option FieldType)) ∈ kz_T := kz_mw2 141 rfl rfl
theorem mw_420 : (Cond.methodLink "java/lang/IndexOutOfBoundsException" (7 : Nat) ({ cls := "java/lang/RuntimeException", name := "<init>", desc := "(Ljava/lang/String;)V" } : MethodName)) ∈ kz_T := kz_mw2 142 rfl rfl
theorem mw_421 : (Cond.instanceMethod ({ cls := "java/lang/RuntimeException", name := "<init>", desc := "(Ljava/lang/String;)V" } : MethodName)) ∈ kz_T := kz_mw2 143 rfl rfl
theorem mw_422 : (Cond.code ({ cls := "java/lang/RuntimeException", name := "<init>", desc := "(Ljava/lang/String;)V" } : MethodName) prog_12_method_2_code (2 : Nat) (Option.none : Option FieldType)) ∈ kz_T := kz_mw2 144 rfl rfl
theorem mw_423 : (Cond.methodLink "java/lang/RuntimeException" (7 : Nat) ({ cls := "java/lang/Exception", name := "<init>", desc := "(Ljava/lang/String;)V" } : MethodName)) ∈ kz_T := kz_mw2 145 rfl rfl
theorem mw_424 : (Cond.instanceMethod ({ cls := "java/lang/Exception", name := "<init>", desc := "(Ljava/lang/String;)V" } : MethodName)) ∈ kz_T := kz_mw2 146 rfl rfl
theorem mw_425 : (Cond.code ({ cls := "java/lang/Exception", name := "<init>", desc := "(Ljava/lang/String;)V" } : MethodName) prog_8_method_2_code (2 : Nat) (Option.none : Option FieldType)) ∈ kz_T := kz_mw2 147 rfl rfl
theorem mw_426 : (Cond.methodLink "java/lang/Exception" (7 : Nat) ({ cls := "java/lang/Throwable", name := "<init>", desc := "(Ljava/lang/String;)V" } : MethodName)) ∈ kz_T := kz_mw2 148 rfl rfl
theorem mw_427 : (Cond.instanceMethod ({ cls := "java/lang/Throwable", name := "<init>", desc := "(Ljava/lang/String;)V" } : MethodName)) ∈ kz_T := kz_mw2 149 rfl rfl
theorem mw_428 : (Cond.code ({ cls := "java/lang/Throwable", name := "<init>", desc := "(Ljava/lang/String;)V" } : MethodName) prog_15_method_2_code (2 : Nat) (Option.none : Option FieldType)) ∈ kz_T := kz_mw2 150 rfl rfl
theorem mw_429 : (Cond.fieldLink "java/lang/Throwable" (198 : Nat) "java/lang/Throwable" "backtrace" "Ljava/lang/Object;") ∈ kz_T := kz_mw2 151 rfl rfl
theorem mw_430 : (Cond.fieldLink "java/lang/Throwable" (31 : Nat) "java/lang/Throwable" "detailMessage" "Ljava/lang/String;") ∈ kz_T := kz_mw2 152 rfl rfl
theorem mw_431 : (Cond.fieldLink "java/lang/Throwable" (7 : Nat) "java/lang/Throwable" "cause" "Ljava/lang/Throwable;") ∈ kz_T := kz_mw2 153 rfl rfl
theorem mw_432 : (Cond.fieldLink "java/lang/Throwable" (17 : Nat) "java/lang/Throwable" "stackTrace" "[Ljava/lang/StackTraceElement;") ∈ kz_T := kz_mw2 154 rfl rfl
theorem mw_433 : (Cond.fieldLink "java/lang/Throwable" (24 : Nat) "java/lang/Throwable" "suppressedExceptions" "Ljava/util/List;") ∈ kz_T := kz_mw2 155 rfl rfl
theorem mw_434 : (Cond.soleField "java/lang/Throwable" "backtrace") ∈ kz_T := kz_mw2 156 rfl rfl
theorem mw_435 : (Cond.soleField "java/lang/Throwable" "detailMessage") ∈ kz_T := kz_mw2 157 rfl rfl
theorem mw_436 : (Cond.soleField "java/lang/Throwable" "cause") ∈ kz_T := kz_mw2 158 rfl rfl
theorem mw_437 : (Cond.soleField "java/lang/Throwable" "stackTrace") ∈ kz_T := kz_mw2 159 rfl rfl
theorem mw_438 : (Cond.lays "java/lang/IndexOutOfBoundsException" "java/lang/Throwable" "depth" "I") ∈ kz_T := kz_mw2 160 rfl rfl
theorem mw_439 : (Cond.soleField "java/lang/Throwable" "depth") ∈ kz_T := kz_mw2 161 rfl rfl
theorem mw_440 : (Cond.soleField "java/lang/Throwable" "suppressedExceptions") ∈ kz_T := kz_mw2 162 rfl rfl
theorem mw_441 : (Cond.superclass "java/lang/IndexOutOfBoundsException" "java/lang/RuntimeException") ∈ kz_T := kz_mw2 163 rfl rfl
theorem mw_442 : (Cond.arrayClass FieldType.byte) ∈ kz_T := kz_mw2 164 rfl rfl
theorem mw_443 : (Cond.methodLink "KeyMeetingLaw" (54 : Nat) ({ cls := "KeyMeetingLaw", name := "small", desc := "(LKeyMeeting;IJ)I" } : MethodName)) ∈ kz_T := kz_mw2 165 rfl rfl
theorem mw_444 : (Cond.static ({ cls := "KeyMeetingLaw", name := "small", desc := "(LKeyMeeting;IJ)I" } : MethodName)) ∈ kz_T := kz_mw2 166 rfl rfl
theorem mw_446 : (Cond.classLink "KeyMeetingLaw" (19 : Nat) "java/lang/IllegalArgumentException") ∈ kz_T := kz_mw2 168 rfl rfl
theorem mw_447 : (Cond.methodLink "KeyMeetingLaw" (15 : Nat) zy_K_small) ∈ kz_T := kz_mw2 169 rfl rfl
theorem mw_448 : (Cond.instanceMethod zy_K_small) ∈ kz_T := kz_mw2 170 rfl rfl
theorem mw_449 : (Cond.selects "KeyMeeting" zy_K_small zy_K_small) ∈ kz_T := kz_mw2 171 rfl rfl
theorem mw_450 : (Cond.code zy_K_small prog_1_method_3_code (4 : Nat) (Option.none : Option FieldType)) ∈ kz_T := kz_mw2 172 rfl rfl
theorem mw_451 : (Cond.classLink "KeyMeeting" (68 : Nat) "java/lang/IllegalArgumentException") ∈ kz_T := kz_mw2 173 rfl rfl
theorem mw_452 : (Cond.instantiable "java/lang/IllegalArgumentException" (6 : Nat)) ∈ kz_T := kz_mw2 174 rfl rfl
theorem mw_454 : (Cond.selects "java/lang/IllegalArgumentException" ({ cls := "java/lang/Throwable", name := "fillInStackTrace", desc := "(I)Ljava/lang/Throwable;" } : MethodName) ({ cls := "java/lang/Throwable", name := "fillInStackTrace", desc := "(I)Ljava/lang/Throwable;" } : MethodName)) ∈ kz_T := kz_mw2 176 rfl rfl
theorem mw_455 : (Cond.lays "java/lang/IllegalArgumentException" "java/lang/Throwable" "cause" "Ljava/lang/Throwable;") ∈ kz_T := kz_mw2 177 rfl rfl
theorem mw_456 : (Cond.lays "java/lang/IllegalArgumentException" "java/lang/Throwable" "stackTrace" "[Ljava/lang/StackTraceElement;") ∈ kz_T := kz_mw2 178 rfl rfl
theorem mw_457 : (Cond.lays "java/lang/IllegalArgumentException" "java/lang/Throwable" "suppressedExceptions" "Ljava/util/List;") ∈ kz_T := kz_mw2 179 rfl rfl
theorem mw_458 : (Cond.lays "java/lang/IllegalArgumentException" "java/lang/Throwable" "detailMessage" "Ljava/lang/String;") ∈ kz_T := kz_mw2 180 rfl rfl
theorem mw_459 : (Cond.lays "java/lang/IllegalArgumentException" "java/lang/Throwable" "backtrace" "Ljava/lang/Object;") ∈ kz_T := kz_mw2 181 rfl rfl
theorem mw_461 : (Cond.methodLink "KeyMeeting" (72 : Nat) ({ cls := "java/lang/IllegalArgumentException", name := "<init>", desc := "(Ljava/lang/String;)V" } : MethodName)) ∈ kz_T := kz_mw2 183 rfl rfl
theorem mw_462 : (Cond.instanceMethod ({ cls := "java/lang/IllegalArgumentException", name := "<init>", desc := "(Ljava/lang/String;)V" } : MethodName)) ∈ kz_T := kz_mw2 184 rfl rfl
theorem mw_463 : (Cond.code ({ cls := "java/lang/IllegalArgumentException", name := "<init>", desc := "(Ljava/lang/String;)V" } : MethodName) prog_9_method_2_code (2 : Nat) (Option.none : Option FieldType)) ∈ kz_T := kz_mw2 185 rfl rfl
theorem mw_464 : (Cond.methodLink "java/lang/IllegalArgumentException" (7 : Nat) ({ cls := "java/lang/RuntimeException", name := "<init>", desc := "(Ljava/lang/String;)V" } : MethodName)) ∈ kz_T := kz_mw2 186 rfl rfl
theorem mw_465 : (Cond.lays "java/lang/IllegalArgumentException" "java/lang/Throwable" "depth" "I") ∈ kz_T := kz_mw2 187 rfl rfl
theorem mw_466 : (Cond.superclass "java/lang/IllegalArgumentException" "java/lang/RuntimeException") ∈ kz_T := kz_mw2 188 rfl rfl
theorem mw_467 : (Cond.methodLink "KeyMeeting" (75 : Nat) zy_A_fill) ∈ kz_T := kz_mw2 189 rfl rfl
theorem mw_468 : (Cond.methodLink "KeyMeetingLaw" (70 : Nat) ({ cls := "KeyMeetingLaw", name := "alter", desc := "(LKeyMeeting;III[J)I" } : MethodName)) ∈ kz_T := kz_mw2 190 rfl rfl
theorem mw_469 : (Cond.static ({ cls := "KeyMeetingLaw", name := "alter", desc := "(LKeyMeeting;III[J)I" } : MethodName)) ∈ kz_T := kz_mw2 191 rfl rfl
theorem mw_471 : (Cond.methodLink "KeyMeetingLaw" (21 : Nat) zy_K_alter) ∈ kz_T := kz_mw2 193 rfl rfl
theorem mw_472 : (Cond.instanceMethod zy_K_alter) ∈ kz_T := kz_mw2 194 rfl rfl
theorem mw_473 : (Cond.selects "KeyMeeting" zy_K_alter zy_K_alter) ∈ kz_T := kz_mw2 195 rfl rfl
theorem mw_474 : (Cond.code zy_K_alter prog_1_method_7_code (5 : Nat) (Option.some FieldType.int)) ∈ kz_T := kz_mw2 196 rfl rfl
theorem mw_475 : (Cond.methodLink "KeyMeetingLaw" (74 : Nat) ({ cls := "KeyMeetingLaw", name := "sent", desc := "(LKeyMeeting;II[J)I" } : MethodName)) ∈ kz_T := kz_mw2 197 rfl rfl
theorem mw_476 : (Cond.static ({ cls := "KeyMeetingLaw", name := "sent", desc := "(LKeyMeeting;II[J)I" } : MethodName)) ∈ kz_T := kz_mw2 198 rfl rfl
theorem mw_478 : (Cond.methodLink "KeyMeetingLaw" (25 : Nat) zy_K_sent) ∈ kz_T := kz_mw2 200 rfl rfl
theorem mw_479 : (Cond.instanceMethod zy_K_sent) ∈ kz_T := kz_mw2 201 rfl rfl
theorem mw_480 : (Cond.selects "KeyMeeting" zy_K_sent zy_K_sent) ∈ kz_T := kz_mw2 202 rfl rfl
theorem mw_481 : (Cond.code zy_K_sent prog_1_method_8_code (3 : Nat) (Option.some FieldType.int)) ∈ kz_T := kz_mw2 203 rfl rfl
theorem mw_482 : (Cond.methodLink "KeyMeetingLaw" (78 : Nat) ({ cls := "KeyMeetingLaw", name := "key", desc := "(LKeyMeeting;II[J)I" } : MethodName)) ∈ kz_T := kz_mw2 204 rfl rfl
theorem mw_483 : (Cond.static ({ cls := "KeyMeetingLaw", name := "key", desc := "(LKeyMeeting;II[J)I" } : MethodName)) ∈ kz_T := kz_mw2 205 rfl rfl
theorem mw_485 : (Cond.classLink "KeyMeetingLaw" (32 : Nat) "java/lang/IllegalStateException") ∈ kz_T := kz_mw2 207 rfl rfl
theorem mw_486 : (Cond.methodLink "KeyMeetingLaw" (29 : Nat) zy_K_key) ∈ kz_T := kz_mw2 208 rfl rfl
theorem mw_487 : (Cond.instanceMethod zy_K_key) ∈ kz_T := kz_mw2 209 rfl rfl
theorem mw_488 : (Cond.selects "KeyMeeting" zy_K_key zy_K_key) ∈ kz_T := kz_mw2 210 rfl rfl
theorem mw_489 : (Cond.code zy_K_key prog_1_method_9_code (3 : Nat) (Option.some FieldType.int)) ∈ kz_T := kz_mw2 211 rfl rfl
theorem mw_490 : (Cond.classLink "KeyMeeting" (128 : Nat) "java/lang/IllegalStateException") ∈ kz_T := kz_mw2 212 rfl rfl
theorem mw_491 : (Cond.instantiable "java/lang/IllegalStateException" (6 : Nat)) ∈ kz_T := kz_mw2 213 rfl rfl
theorem mw_493 : (Cond.selects "java/lang/IllegalStateException" ({ cls := "java/lang/Throwable", name := "fillInStackTrace", desc := "(I)Ljava/lang/Throwable;" } : MethodName) ({ cls := "java/lang/Throwable", name := "fillInStackTrace", desc := "(I)Ljava/lang/Throwable;" } : MethodName)) ∈ kz_T := kz_mw2 215 rfl rfl
theorem mw_494 : (Cond.lays "java/lang/IllegalStateException" "java/lang/Throwable" "cause" "Ljava/lang/Throwable;") ∈ kz_T := kz_mw2 216 rfl rfl
theorem mw_495 : (Cond.lays "java/lang/IllegalStateException" "java/lang/Throwable" "stackTrace" "[Ljava/lang/StackTraceElement;") ∈ kz_T := kz_mw2 217 rfl rfl
theorem mw_496 : (Cond.lays "java/lang/IllegalStateException" "java/lang/Throwable" "suppressedExceptions" "Ljava/util/List;") ∈ kz_T := kz_mw2 218 rfl rfl
theorem mw_497 : (Cond.lays "java/lang/IllegalStateException" "java/lang/Throwable" "detailMessage" "Ljava/lang/String;") ∈ kz_T := kz_mw2 219 rfl rfl
theorem mw_498 : (Cond.lays "java/lang/IllegalStateException" "java/lang/Throwable" "backtrace" "Ljava/lang/Object;") ∈ kz_T := kz_mw2 220 rfl rfl
theorem mw_500 : (Cond.methodLink "KeyMeeting" (132 : Nat) ({ cls := "java/lang/IllegalStateException", name := "<init>", desc := "(Ljava/lang/String;)V" } : MethodName)) ∈ kz_T := kz_mw2 222 rfl rfl
theorem mw_501 : (Cond.instanceMethod ({ cls := "java/lang/IllegalStateException", name := "<init>", desc := "(Ljava/lang/String;)V" } : MethodName)) ∈ kz_T := kz_mw2 223 rfl rfl
theorem mw_502 : (Cond.code ({ cls := "java/lang/IllegalStateException", name := "<init>", desc := "(Ljava/lang/String;)V" } : MethodName) prog_10_method_2_code (2 : Nat) (Option.none : Option FieldType)) ∈ kz_T := kz_mw2 224 rfl rfl
theorem mw_503 : (Cond.methodLink "java/lang/IllegalStateException" (7 : Nat) ({ cls := "java/lang/RuntimeException", name := "<init>", desc := "(Ljava/lang/String;)V" } : MethodName)) ∈ kz_T := kz_mw2 225 rfl rfl
theorem mw_504 : (Cond.lays "java/lang/IllegalStateException" "java/lang/Throwable" "depth" "I") ∈ kz_T := kz_mw2 226 rfl rfl
theorem mw_505 : (Cond.superclass "java/lang/IllegalStateException" "java/lang/RuntimeException") ∈ kz_T := kz_mw2 227 rfl rfl
theorem mw_506 : (Cond.methodLink "KeyMeetingLaw" (89 : Nat) ({ cls := "KeyMeetingLaw", name := "secret", desc := "(LKeyMeeting;I[J)I" } : MethodName)) ∈ kz_T := kz_mw2 228 rfl rfl
theorem mw_507 : (Cond.static ({ cls := "KeyMeetingLaw", name := "secret", desc := "(LKeyMeeting;I[J)I" } : MethodName)) ∈ kz_T := kz_mw2 229 rfl rfl
theorem mw_509 : (Cond.methodLink "KeyMeetingLaw" (34 : Nat) zy_K_secret) ∈ kz_T := kz_mw2 231 rfl rfl
theorem mw_510 : (Cond.instanceMethod zy_K_secret) ∈ kz_T := kz_mw2 232 rfl rfl
theorem mw_511 : (Cond.selects "KeyMeeting" zy_K_secret zy_K_secret) ∈ kz_T := kz_mw2 233 rfl rfl
theorem mw_512 : (Cond.code zy_K_secret prog_1_method_12_code (2 : Nat) (Option.some FieldType.int)) ∈ kz_T := kz_mw2 234 rfl rfl
theorem mw_513 : (Cond.classLink "KeyMeetingLaw" (39 : Nat) "KeyMeetingModel") ∈ kz_T := kz_mw2 235 rfl rfl
theorem mw_514 : (Cond.instantiable "KeyMeetingModel" (26 : Nat)) ∈ kz_T := kz_mw2 236 rfl rfl
theorem mw_515 : (Cond.methodLink "KeyMeetingLaw" (41 : Nat) zy_N_init) ∈ kz_T := kz_mw2 237 rfl rfl
theorem mw_516 : (Cond.instanceMethod zy_N_init) ∈ kz_T := kz_mw2 238 rfl rfl
theorem mw_517 : (Cond.code zy_N_init prog_7_method_1_code (1 : Nat) (Option.none : Option FieldType)) ∈ kz_T := kz_mw2 239 rfl rfl
theorem mw_518 : (Cond.methodLink "KeyMeetingModel" (1 : Nat) ({ cls := "java/lang/Object", name := "<init>", desc := "()V" } : MethodName)) ∈ kz_T := kz_mw3 0 rfl rfl
theorem mw_519 : (Cond.constant "KeyMeetingModel" (71 : Nat) (1116352408 : Int32)) ∈ kz_T := kz_mw3 1 rfl rfl
theorem mw_520 : (Cond.constant "KeyMeetingModel" (72 : Nat) (1899447441 : Int32)) ∈ kz_T := kz_mw3 2 rfl rfl
theorem mw_521 : (Cond.constant "KeyMeetingModel" (73 : Nat) (-1245643825 : Int32)) ∈ kz_T := kz_mw3 3 rfl rfl
theorem mw_522 : (Cond.constant "KeyMeetingModel" (74 : Nat) (-373957723 : Int32)) ∈ kz_T := kz_mw3 4 rfl rfl
theorem mw_523 : (Cond.constant "KeyMeetingModel" (75 : Nat) (961987163 : Int32)) ∈ kz_T := kz_mw3 5 rfl rfl
theorem mw_524 : (Cond.constant "KeyMeetingModel" (76 : Nat) (1508970993 : Int32)) ∈ kz_T := kz_mw3 6 rfl rfl
theorem mw_525 : (Cond.constant "KeyMeetingModel" (77 : Nat) (-1841331548 : Int32)) ∈ kz_T := kz_mw3 7 rfl rfl
theorem mw_526 : (Cond.constant "KeyMeetingModel" (78 : Nat) (-1424204075 : Int32)) ∈ kz_T := kz_mw3 8 rfl rfl
theorem mw_527 : (Cond.constant "KeyMeetingModel" (79 : Nat) (-670586216 : Int32)) ∈ kz_T := kz_mw3 9 rfl rfl
theorem mw_528 : (Cond.constant "KeyMeetingModel" (80 : Nat) (310598401 : Int32)) ∈ kz_T := kz_mw3 10 rfl rfl
theorem mw_529 : (Cond.constant "KeyMeetingModel" (81 : Nat) (607225278 : Int32)) ∈ kz_T := kz_mw3 11 rfl rfl
theorem mw_530 : (Cond.constant "KeyMeetingModel" (82 : Nat) (1426881987 : Int32)) ∈ kz_T := kz_mw3 12 rfl rfl
theorem mw_531 : (Cond.constant "KeyMeetingModel" (83 : Nat) (1925078388 : Int32)) ∈ kz_T := kz_mw3 13 rfl rfl
theorem mw_532 : (Cond.constant "KeyMeetingModel" (84 : Nat) (-2132889090 : Int32)) ∈ kz_T := kz_mw3 14 rfl rfl
theorem mw_533 : (Cond.constant "KeyMeetingModel" (85 : Nat) (-1680079193 : Int32)) ∈ kz_T := kz_mw3 15 rfl rfl
theorem mw_534 : (Cond.constant "KeyMeetingModel" (86 : Nat) (-1046744716 : Int32)) ∈ kz_T := kz_mw3 16 rfl rfl
theorem mw_535 : (Cond.constant "KeyMeetingModel" (87 : Nat) (-459576895 : Int32)) ∈ kz_T := kz_mw3 17 rfl rfl
theorem mw_536 : (Cond.constant "KeyMeetingModel" (88 : Nat) (-272742522 : Int32)) ∈ kz_T := kz_mw3 18 rfl rfl
theorem mw_537 : (Cond.constant "KeyMeetingModel" (89 : Nat) (264347078 : Int32)) ∈ kz_T := kz_mw3 19 rfl rfl
theorem mw_538 : (Cond.constant "KeyMeetingModel" (90 : Nat) (604807628 : Int32)) ∈ kz_T := kz_mw3 20 rfl rfl
theorem mw_539 : (Cond.constant "KeyMeetingModel" (91 : Nat) (770255983 : Int32)) ∈ kz_T := kz_mw3 21 rfl rfl
theorem mw_540 : (Cond.constant "KeyMeetingModel" (92 : Nat) (1249150122 : Int32)) ∈ kz_T := kz_mw3 22 rfl rfl
theorem mw_541 : (Cond.constant "KeyMeetingModel" (93 : Nat) (1555081692 : Int32)) ∈ kz_T := kz_mw3 23 rfl rfl
theorem mw_542 : (Cond.constant "KeyMeetingModel" (94 : Nat) (1996064986 : Int32)) ∈ kz_T := kz_mw3 24 rfl rfl
theorem mw_543 : (Cond.constant "KeyMeetingModel" (95 : Nat) (-1740746414 : Int32)) ∈ kz_T := kz_mw3 25 rfl rfl
theorem mw_544 : (Cond.constant "KeyMeetingModel" (96 : Nat) (-1473132947 : Int32)) ∈ kz_T := kz_mw3 26 rfl rfl
theorem mw_545 : (Cond.constant "KeyMeetingModel" (97 : Nat) (-1341970488 : Int32)) ∈ kz_T := kz_mw3 27 rfl rfl
theorem mw_546 : (Cond.constant "KeyMeetingModel" (98 : Nat) (-1084653625 : Int32)) ∈ kz_T := kz_mw3 28 rfl rfl
theorem mw_547 : (Cond.constant "KeyMeetingModel" (99 : Nat) (-958395405 : Int32)) ∈ kz_T := kz_mw3 29 rfl rfl
theorem mw_548 : (Cond.constant "KeyMeetingModel" (100 : Nat) (-710438585 : Int32)) ∈ kz_T := kz_mw3 30 rfl rfl
theorem mw_549 : (Cond.constant "KeyMeetingModel" (101 : Nat) (113926993 : Int32)) ∈ kz_T := kz_mw3 31 rfl rfl
theorem mw_550 : (Cond.constant "KeyMeetingModel" (102 : Nat) (338241895 : Int32)) ∈ kz_T := kz_mw3 32 rfl rfl
theorem mw_551 : (Cond.constant "KeyMeetingModel" (103 : Nat) (666307205 : Int32)) ∈ kz_T := kz_mw3 33 rfl rfl
theorem mw_552 : (Cond.constant "KeyMeetingModel" (104 : Nat) (773529912 : Int32)) ∈ kz_T := kz_mw3 34 rfl rfl
theorem mw_553 : (Cond.constant "KeyMeetingModel" (105 : Nat) (1294757372 : Int32)) ∈ kz_T := kz_mw3 35 rfl rfl
theorem mw_554 : (Cond.constant "KeyMeetingModel" (106 : Nat) (1396182291 : Int32)) ∈ kz_T := kz_mw3 36 rfl rfl
theorem mw_555 : (Cond.constant "KeyMeetingModel" (107 : Nat) (1695183700 : Int32)) ∈ kz_T := kz_mw3 37 rfl rfl
theorem mw_556 : (Cond.constant "KeyMeetingModel" (108 : Nat) (1986661051 : Int32)) ∈ kz_T := kz_mw3 38 rfl rfl
theorem mw_557 : (Cond.constant "KeyMeetingModel" (109 : Nat) (-2117940946 : Int32)) ∈ kz_T := kz_mw3 39 rfl rfl
theorem mw_558 : (Cond.constant "KeyMeetingModel" (110 : Nat) (-1838011259 : Int32)) ∈ kz_T := kz_mw3 40 rfl rfl
theorem mw_559 : (Cond.constant "KeyMeetingModel" (111 : Nat) (-1564481375 : Int32)) ∈ kz_T := kz_mw3 41 rfl rfl
theorem mw_560 : (Cond.constant "KeyMeetingModel" (112 : Nat) (-1474664885 : Int32)) ∈ kz_T := kz_mw3 42 rfl rfl
theorem mw_561 : (Cond.constant "KeyMeetingModel" (113 : Nat) (-1035236496 : Int32)) ∈ kz_T := kz_mw3 43 rfl rfl
theorem mw_562 : (Cond.constant "KeyMeetingModel" (114 : Nat) (-949202525 : Int32)) ∈ kz_T := kz_mw3 44 rfl rfl
theorem mw_563 : (Cond.constant "KeyMeetingModel" (115 : Nat) (-778901479 : Int32)) ∈ kz_T := kz_mw3 45 rfl rfl
theorem mw_564 : (Cond.constant "KeyMeetingModel" (116 : Nat) (-694614492 : Int32)) ∈ kz_T := kz_mw3 46 rfl rfl
theorem mw_565 : (Cond.constant "KeyMeetingModel" (117 : Nat) (-200395387 : Int32)) ∈ kz_T := kz_mw3 47 rfl rfl
theorem mw_566 : (Cond.constant "KeyMeetingModel" (118 : Nat) (275423344 : Int32)) ∈ kz_T := kz_mw3 48 rfl rfl
theorem mw_567 : (Cond.constant "KeyMeetingModel" (119 : Nat) (430227734 : Int32)) ∈ kz_T := kz_mw3 49 rfl rfl
theorem mw_568 : (Cond.constant "KeyMeetingModel" (120 : Nat) (506948616 : Int32)) ∈ kz_T := kz_mw3 50 rfl rfl
theorem mw_569 : (Cond.constant "KeyMeetingModel" (121 : Nat) (659060556 : Int32)) ∈ kz_T := kz_mw3 51 rfl rfl
theorem mw_570 : (Cond.constant "KeyMeetingModel" (122 : Nat) (883997877 : Int32)) ∈ kz_T := kz_mw3 52 rfl rfl
theorem mw_571 : (Cond.constant "KeyMeetingModel" (123 : Nat) (958139571 : Int32)) ∈ kz_T := kz_mw3 53 rfl rfl
theorem mw_572 : (Cond.constant "KeyMeetingModel" (124 : Nat) (1322822218 : Int32)) ∈ kz_T := kz_mw3 54 rfl rfl
theorem mw_573 : (Cond.constant "KeyMeetingModel" (125 : Nat) (1537002063 : Int32)) ∈ kz_T := kz_mw3 55 rfl rfl
theorem mw_574 : (Cond.constant "KeyMeetingModel" (126 : Nat) (1747873779 : Int32)) ∈ kz_T := kz_mw3 56 rfl rfl
theorem mw_575 : (Cond.constant "KeyMeetingModel" (127 : Nat) (1955562222 : Int32)) ∈ kz_T := kz_mw3 57 rfl rfl
theorem mw_576 : (Cond.constant "KeyMeetingModel" (128 : Nat) (2024104815 : Int32)) ∈ kz_T := kz_mw3 58 rfl rfl
theorem mw_577 : (Cond.constant "KeyMeetingModel" (129 : Nat) (-2067236844 : Int32)) ∈ kz_T := kz_mw3 59 rfl rfl
theorem mw_578 : (Cond.constant "KeyMeetingModel" (130 : Nat) (-1933114872 : Int32)) ∈ kz_T := kz_mw3 60 rfl rfl
theorem mw_579 : (Cond.constant "KeyMeetingModel" (131 : Nat) (-1866530822 : Int32)) ∈ kz_T := kz_mw3 61 rfl rfl
theorem mw_580 : (Cond.constant "KeyMeetingModel" (132 : Nat) (-1538233109 : Int32)) ∈ kz_T := kz_mw3 62 rfl rfl
theorem mw_581 : (Cond.constant "KeyMeetingModel" (133 : Nat) (-1090935817 : Int32)) ∈ kz_T := kz_mw3 63 rfl rfl
theorem mw_582 : (Cond.constant "KeyMeetingModel" (134 : Nat) (-965641998 : Int32)) ∈ kz_T := kz_mw3 64 rfl rfl
theorem mw_583 : (Cond.constant "KeyMeetingModel" (138 : Nat) (1779033703 : Int32)) ∈ kz_T := kz_mw3 65 rfl rfl
theorem mw_584 : (Cond.constant "KeyMeetingModel" (139 : Nat) (-1150833019 : Int32)) ∈ kz_T := kz_mw3 66 rfl rfl
theorem mw_585 : (Cond.constant "KeyMeetingModel" (140 : Nat) (1013904242 : Int32)) ∈ kz_T := kz_mw3 67 rfl rfl
theorem mw_586 : (Cond.constant "KeyMeetingModel" (141 : Nat) (-1521486534 : Int32)) ∈ kz_T := kz_mw3 68 rfl rfl
theorem mw_587 : (Cond.constant "KeyMeetingModel" (142 : Nat) (1359893119 : Int32)) ∈ kz_T := kz_mw3 69 rfl rfl
theorem mw_588 : (Cond.constant "KeyMeetingModel" (143 : Nat) (-1694144372 : Int32)) ∈ kz_T := kz_mw3 70 rfl rfl
theorem mw_589 : (Cond.constant "KeyMeetingModel" (144 : Nat) (528734635 : Int32)) ∈ kz_T := kz_mw3 71 rfl rfl
theorem mw_590 : (Cond.constant "KeyMeetingModel" (145 : Nat) (1541459225 : Int32)) ∈ kz_T := kz_mw3 72 rfl rfl
theorem mw_591 : (Cond.fieldLink "KeyMeetingModel" (153 : Nat) "KeyMeetingModel" "thrown" "I") ∈ kz_T := kz_mw3 73 rfl rfl
theorem mw_592 : (Cond.fieldLink "KeyMeetingModel" (149 : Nat) "KeyMeetingModel" "state" "I") ∈ kz_T := kz_mw3 74 rfl rfl
theorem mw_593 : (Cond.fieldLink "KeyMeetingModel" (7 : Nat) "KeyMeetingModel" "told" "[I") ∈ kz_T := kz_mw3 75 rfl rfl
theorem mw_594 : (Cond.fieldLink "KeyMeetingModel" (13 : Nat) "KeyMeetingModel" "sent" "[I") ∈ kz_T := kz_mw3 76 rfl rfl
theorem mw_595 : (Cond.fieldLink "KeyMeetingModel" (16 : Nat) "KeyMeetingModel" "left" "[I") ∈ kz_T := kz_mw3 77 rfl rfl
theorem mw_596 : (Cond.fieldLink "KeyMeetingModel" (19 : Nat) "KeyMeetingModel" "common" "[I") ∈ kz_T := kz_mw3 78 rfl rfl
theorem mw_597 : (Cond.fieldLink "KeyMeetingModel" (22 : Nat) "KeyMeetingModel" "hashes" "[I") ∈ kz_T := kz_mw3 79 rfl rfl
theorem mw_598 : (Cond.fieldLink "KeyMeetingModel" (25 : Nat) "KeyMeetingModel" "keys" "[I") ∈ kz_T := kz_mw3 80 rfl rfl
theorem mw_599 : (Cond.fieldLink "KeyMeetingModel" (28 : Nat) "KeyMeetingModel" "p" "[I") ∈ kz_T := kz_mw3 81 rfl rfl
theorem mw_600 : (Cond.fieldLink "KeyMeetingModel" (31 : Nat) "KeyMeetingModel" "m" "[I") ∈ kz_T := kz_mw3 82 rfl rfl
theorem mw_601 : (Cond.fieldLink "KeyMeetingModel" (34 : Nat) "KeyMeetingModel" "base" "[I") ∈ kz_T := kz_mw3 83 rfl rfl
theorem mw_602 : (Cond.fieldLink "KeyMeetingModel" (37 : Nat) "KeyMeetingModel" "power" "[I") ∈ kz_T := kz_mw3 84 rfl rfl
theorem mw_603 : (Cond.fieldLink "KeyMeetingModel" (40 : Nat) "KeyMeetingModel" "result" "[I") ∈ kz_T := kz_mw3 85 rfl rfl
theorem mw_604 : (Cond.fieldLink "KeyMeetingModel" (43 : Nat) "KeyMeetingModel" "product" "[I") ∈ kz_T := kz_mw3 86 rfl rfl
theorem mw_605 : (Cond.fieldLink "KeyMeetingModel" (46 : Nat) "KeyMeetingModel" "rest" "[I") ∈ kz_T := kz_mw3 87 rfl rfl
theorem mw_606 : (Cond.fieldLink "KeyMeetingModel" (49 : Nat) "KeyMeetingModel" "hostP" "[I") ∈ kz_T := kz_mw3 88 rfl rfl
theorem mw_607 : (Cond.fieldLink "KeyMeetingModel" (52 : Nat) "KeyMeetingModel" "hostQ" "[I") ∈ kz_T := kz_mw3 89 rfl rfl
theorem mw_608 : (Cond.fieldLink "KeyMeetingModel" (55 : Nat) "KeyMeetingModel" "secret" "[I") ∈ kz_T := kz_mw3 90 rfl rfl
theorem mw_609 : (Cond.fieldLink "KeyMeetingModel" (195 : Nat) "KeyMeetingModel" "hasSecret" "Z") ∈ kz_T := kz_mw3 91 rfl rfl
theorem mw_610 : (Cond.fieldLink "KeyMeetingModel" (177 : Nat) "KeyMeetingModel" "size" "I") ∈ kz_T := kz_mw3 92 rfl rfl
theorem mw_611 : (Cond.fieldLink "KeyMeetingModel" (58 : Nat) "KeyMeetingModel" "row" "[B") ∈ kz_T := kz_mw3 93 rfl rfl
theorem mw_612 : (Cond.fieldLink "KeyMeetingModel" (62 : Nat) "KeyMeetingModel" "w" "[I") ∈ kz_T := kz_mw3 94 rfl rfl
theorem mw_613 : (Cond.fieldLink "KeyMeetingModel" (65 : Nat) "KeyMeetingModel" "digest" "[I") ∈ kz_T := kz_mw3 95 rfl rfl
theorem mw_614 : (Cond.fieldLink "KeyMeetingModel" (68 : Nat) "KeyMeetingModel" "begun" "[I") ∈ kz_T := kz_mw3 96 rfl rfl
theorem mw_615 : (Cond.fieldLink "KeyMeetingModel" (135 : Nat) "KeyMeetingModel" "roots" "[I") ∈ kz_T := kz_mw3 97 rfl rfl
theorem mw_616 : (Cond.fieldLink "KeyMeetingModel" (146 : Nat) "KeyMeetingModel" "begins" "[I") ∈ kz_T := kz_mw3 98 rfl rfl
theorem mw_617 : (Cond.lays "KeyMeetingModel" "KeyMeetingModel" "thrown" "I") ∈ kz_T := kz_mw3 99 rfl rfl
theorem mw_618 : (Cond.soleField "KeyMeetingModel" "thrown") ∈ kz_T := kz_mw3 100 rfl rfl
theorem mw_619 : (Cond.lays "KeyMeetingModel" "KeyMeetingModel" "state" "I") ∈ kz_T := kz_mw3 101 rfl rfl
theorem mw_620 : (Cond.soleField "KeyMeetingModel" "state") ∈ kz_T := kz_mw3 102 rfl rfl
theorem mw_621 : (Cond.laysFinal "KeyMeetingModel" "KeyMeetingModel" "told" "[I") ∈ kz_T := kz_mw3 103 rfl rfl
theorem mw_622 : (Cond.soleField "KeyMeetingModel" "told") ∈ kz_T := kz_mw3 104 rfl rfl
theorem mw_623 : (Cond.laysFinal "KeyMeetingModel" "KeyMeetingModel" "sent" "[I") ∈ kz_T := kz_mw3 105 rfl rfl
theorem mw_624 : (Cond.soleField "KeyMeetingModel" "sent") ∈ kz_T := kz_mw3 106 rfl rfl
theorem mw_625 : (Cond.laysFinal "KeyMeetingModel" "KeyMeetingModel" "left" "[I") ∈ kz_T := kz_mw3 107 rfl rfl
theorem mw_626 : (Cond.soleField "KeyMeetingModel" "left") ∈ kz_T := kz_mw3 108 rfl rfl
theorem mw_627 : (Cond.laysFinal "KeyMeetingModel" "KeyMeetingModel" "common" "[I") ∈ kz_T := kz_mw3 109 rfl rfl
theorem mw_628 : (Cond.soleField "KeyMeetingModel" "common") ∈ kz_T := kz_mw3 110 rfl rfl
theorem mw_629 : (Cond.laysFinal "KeyMeetingModel" "KeyMeetingModel" "hashes" "[I") ∈ kz_T := kz_mw3 111 rfl rfl
theorem mw_630 : (Cond.soleField "KeyMeetingModel" "hashes") ∈ kz_T := kz_mw3 112 rfl rfl
theorem mw_631 : (Cond.laysFinal "KeyMeetingModel" "KeyMeetingModel" "keys" "[I") ∈ kz_T := kz_mw3 113 rfl rfl
theorem mw_632 : (Cond.soleField "KeyMeetingModel" "keys") ∈ kz_T := kz_mw3 114 rfl rfl
theorem mw_633 : (Cond.laysFinal "KeyMeetingModel" "KeyMeetingModel" "p" "[I") ∈ kz_T := kz_mw3 115 rfl rfl
theorem mw_634 : (Cond.soleField "KeyMeetingModel" "p") ∈ kz_T := kz_mw3 116 rfl rfl
theorem mw_635 : (Cond.laysFinal "KeyMeetingModel" "KeyMeetingModel" "m" "[I") ∈ kz_T := kz_mw3 117 rfl rfl
theorem mw_636 : (Cond.soleField "KeyMeetingModel" "m") ∈ kz_T := kz_mw3 118 rfl rfl
theorem mw_637 : (Cond.laysFinal "KeyMeetingModel" "KeyMeetingModel" "base" "[I") ∈ kz_T := kz_mw3 119 rfl rfl
theorem mw_638 : (Cond.soleField "KeyMeetingModel" "base") ∈ kz_T := kz_mw3 120 rfl rfl
theorem mw_639 : (Cond.laysFinal "KeyMeetingModel" "KeyMeetingModel" "power" "[I") ∈ kz_T := kz_mw3 121 rfl rfl
theorem mw_640 : (Cond.soleField "KeyMeetingModel" "power") ∈ kz_T := kz_mw3 122 rfl rfl
theorem mw_641 : (Cond.laysFinal "KeyMeetingModel" "KeyMeetingModel" "result" "[I") ∈ kz_T := kz_mw3 123 rfl rfl
theorem mw_642 : (Cond.soleField "KeyMeetingModel" "result") ∈ kz_T := kz_mw3 124 rfl rfl
theorem mw_643 : (Cond.laysFinal "KeyMeetingModel" "KeyMeetingModel" "product" "[I") ∈ kz_T := kz_mw3 125 rfl rfl
theorem mw_644 : (Cond.soleField "KeyMeetingModel" "product") ∈ kz_T := kz_mw3 126 rfl rfl
theorem mw_645 : (Cond.laysFinal "KeyMeetingModel" "KeyMeetingModel" "rest" "[I") ∈ kz_T := kz_mw3 127 rfl rfl
theorem mw_646 : (Cond.soleField "KeyMeetingModel" "rest") ∈ kz_T := kz_mw3 128 rfl rfl
theorem mw_647 : (Cond.laysFinal "KeyMeetingModel" "KeyMeetingModel" "hostP" "[I") ∈ kz_T := kz_mw3 129 rfl rfl
theorem mw_648 : (Cond.soleField "KeyMeetingModel" "hostP") ∈ kz_T := kz_mw3 130 rfl rfl
theorem mw_649 : (Cond.laysFinal "KeyMeetingModel" "KeyMeetingModel" "hostQ" "[I") ∈ kz_T := kz_mw3 131 rfl rfl
theorem mw_650 : (Cond.soleField "KeyMeetingModel" "hostQ") ∈ kz_T := kz_mw3 132 rfl rfl
theorem mw_651 : (Cond.laysFinal "KeyMeetingModel" "KeyMeetingModel" "secret" "[I") ∈ kz_T := kz_mw3 133 rfl rfl
theorem mw_652 : (Cond.soleField "KeyMeetingModel" "secret") ∈ kz_T := kz_mw3 134 rfl rfl
theorem mw_653 : (Cond.lays "KeyMeetingModel" "KeyMeetingModel" "hasSecret" "Z") ∈ kz_T := kz_mw3 135 rfl rfl
theorem mw_654 : (Cond.soleField "KeyMeetingModel" "hasSecret") ∈ kz_T := kz_mw3 136 rfl rfl
theorem mw_655 : (Cond.lays "KeyMeetingModel" "KeyMeetingModel" "size" "I") ∈ kz_T := kz_mw3 137 rfl rfl
theorem mw_656 : (Cond.soleField "KeyMeetingModel" "size") ∈ kz_T := kz_mw3 138 rfl rfl
theorem mw_657 : (Cond.laysFinal "KeyMeetingModel" "KeyMeetingModel" "row" "[B") ∈ kz_T := kz_mw3 139 rfl rfl
theorem mw_658 : (Cond.soleField "KeyMeetingModel" "row") ∈ kz_T := kz_mw3 140 rfl rfl
theorem mw_659 : (Cond.laysFinal "KeyMeetingModel" "KeyMeetingModel" "w" "[I") ∈ kz_T := kz_mw3 141 rfl rfl
theorem mw_660 : (Cond.soleField "KeyMeetingModel" "w") ∈ kz_T := kz_mw3 142 rfl rfl
theorem mw_661 : (Cond.laysFinal "KeyMeetingModel" "KeyMeetingModel" "digest" "[I") ∈ kz_T := kz_mw3 143 rfl rfl
theorem mw_662 : (Cond.soleField "KeyMeetingModel" "digest") ∈ kz_T := kz_mw3 144 rfl rfl
theorem mw_663 : (Cond.laysFinal "KeyMeetingModel" "KeyMeetingModel" "begun" "[I") ∈ kz_T := kz_mw3 145 rfl rfl
theorem mw_664 : (Cond.soleField "KeyMeetingModel" "begun") ∈ kz_T := kz_mw3 146 rfl rfl
theorem mw_665 : (Cond.laysFinal "KeyMeetingModel" "KeyMeetingModel" "roots" "[I") ∈ kz_T := kz_mw3 147 rfl rfl
theorem mw_666 : (Cond.soleField "KeyMeetingModel" "roots") ∈ kz_T := kz_mw3 148 rfl rfl
theorem mw_667 : (Cond.laysFinal "KeyMeetingModel" "KeyMeetingModel" "begins" "[I") ∈ kz_T := kz_mw3 149 rfl rfl
theorem mw_668 : (Cond.soleField "KeyMeetingModel" "begins") ∈ kz_T := kz_mw3 150 rfl rfl
theorem mw_669 : (Cond.superclass "KeyMeetingModel" "java/lang/Object") ∈ kz_T := kz_mw3 151 rfl rfl
theorem mw_670 : (Cond.methodLink "KeyMeetingLaw" (48 : Nat) zy_N_thrown) ∈ kz_T := kz_mw3 152 rfl rfl
theorem mw_671 : (Cond.instanceMethod zy_N_thrown) ∈ kz_T := kz_mw3 153 rfl rfl
theorem mw_672 : (Cond.selects "KeyMeetingModel" zy_N_thrown zy_N_thrown) ∈ kz_T := kz_mw3 154 rfl rfl
theorem mw_673 : (Cond.code zy_N_thrown prog_7_method_2_code (1 : Nat) (Option.some FieldType.int)) ∈ kz_T := kz_mw3 155 rfl rfl
theorem mw_674 : (Cond.methodLink "KeyMeetingLaw" (47 : Nat) zy_N_number) ∈ kz_T := kz_mw3 156 rfl rfl
theorem mw_675 : (Cond.instanceMethod zy_N_number) ∈ kz_T := kz_mw3 157 rfl rfl
theorem mw_676 : (Cond.selects "KeyMeetingModel" zy_N_number zy_N_number) ∈ kz_T := kz_mw3 158 rfl rfl
theorem mw_677 : (Cond.code zy_N_number prog_7_method_17_code (4 : Nat) (Option.none : Option FieldType)) ∈ kz_T := kz_mw3 159 rfl rfl
theorem mw_678 : (Cond.methodLink "KeyMeetingModel" (187 : Nat) zy_N_refused) ∈ kz_T := kz_mw3 160 rfl rfl
theorem mw_680 : (Cond.instanceMethod zy_N_refused) ∈ kz_T := kz_mw3 162 rfl rfl
theorem mw_681 : (Cond.code zy_N_refused prog_7_method_3_code (3 : Nat) (Option.some FieldType.boolean)) ∈ kz_T := kz_mw3 163 rfl rfl
theorem mw_682 : (Cond.methodLink "KeyMeetingLaw" (57 : Nat) zy_N_small) ∈ kz_T := kz_mw3 164 rfl rfl
theorem mw_683 : (Cond.instanceMethod zy_N_small) ∈ kz_T := kz_mw3 165 rfl rfl
theorem mw_684 : (Cond.selects "KeyMeetingModel" zy_N_small zy_N_small) ∈ kz_T := kz_mw3 166 rfl rfl
theorem mw_685 : (Cond.code zy_N_small prog_7_method_18_code (6 : Nat) (Option.none : Option FieldType)) ∈ kz_T := kz_mw3 167 rfl rfl
theorem mw_686 : (Cond.methodLink "KeyMeetingLaw" (61 : Nat) zy_N_offer) ∈ kz_T := kz_mw3 168 rfl rfl
theorem mw_687 : (Cond.instanceMethod zy_N_offer) ∈ kz_T := kz_mw3 169 rfl rfl
theorem mw_688 : (Cond.selects "KeyMeetingModel" zy_N_offer zy_N_offer) ∈ kz_T := kz_mw3 170 rfl rfl
theorem mw_689 : (Cond.code zy_N_offer prog_7_method_24_code (2 : Nat) (Option.some FieldType.int)) ∈ kz_T := kz_mw3 171 rfl rfl
theorem mw_690 : (Cond.methodLink "KeyMeetingModel" (225 : Nat) zy_N_isGood) ∈ kz_T := kz_mw3 172 rfl rfl
theorem mw_692 : (Cond.instanceMethod zy_N_isGood) ∈ kz_T := kz_mw3 174 rfl rfl
theorem mw_693 : (Cond.code zy_N_isGood prog_7_method_22_code (3 : Nat) (Option.some FieldType.boolean)) ∈ kz_T := kz_mw3 175 rfl rfl
theorem mw_694 : (Cond.methodLink "KeyMeetingModel" (191 : Nat) zy_N_figures) ∈ kz_T := kz_mw3 176 rfl rfl
theorem mw_695 : (Cond.static zy_N_figures) ∈ kz_T := kz_mw3 177 rfl rfl
theorem mw_696 : (Cond.code zy_N_figures prog_7_method_4_code (5 : Nat) (Option.none : Option FieldType)) ∈ kz_T := kz_mw3 178 rfl rfl
theorem mw_697 : (Cond.constant "KeyMeetingModel" (156 : Nat) (65535 : Int32)) ∈ kz_T := kz_mw3 179 rfl rfl
theorem mw_698 : (Cond.methodLink "KeyMeetingModel" (208 : Nat) zy_N_find) ∈ kz_T := kz_mw3 180 rfl rfl
theorem mw_700 : (Cond.instanceMethod zy_N_find) ∈ kz_T := kz_mw3 182 rfl rfl
theorem mw_701 : (Cond.code zy_N_find prog_7_method_20_code (9 : Nat) (Option.none : Option FieldType)) ∈ kz_T := kz_mw3 183 rfl rfl
theorem mw_702 : (Cond.methodLink "KeyMeetingModel" (199 : Nat) zy_N_isSmall) ∈ kz_T := kz_mw3 184 rfl rfl
theorem mw_703 : (Cond.static zy_N_isSmall) ∈ kz_T := kz_mw3 185 rfl rfl
theorem mw_704 : (Cond.code zy_N_isSmall prog_7_method_19_code (3 : Nat) (Option.some FieldType.boolean)) ∈ kz_T := kz_mw3 186 rfl rfl
theorem mw_705 : (Cond.methodLink "KeyMeetingModel" (203 : Nat) zy_N_lessOne) ∈ kz_T := kz_mw3 187 rfl rfl
theorem mw_706 : (Cond.static zy_N_lessOne) ∈ kz_T := kz_mw3 188 rfl rfl
theorem mw_707 : (Cond.code zy_N_lessOne prog_7_method_21_code (2 : Nat) (Option.none : Option FieldType)) ∈ kz_T := kz_mw3 189 rfl rfl
theorem mw_708 : (Cond.methodLink "KeyMeetingModel" (173 : Nat) zy_N_multiply) ∈ kz_T := kz_mw3 190 rfl rfl
theorem mw_710 : (Cond.instanceMethod zy_N_multiply) ∈ kz_T := kz_mw3 192 rfl rfl
theorem mw_711 : (Cond.code zy_N_multiply prog_7_method_9_code (7 : Nat) (Option.none : Option FieldType)) ∈ kz_T := kz_mw3 193 rfl rfl
theorem mw_712 : (Cond.constantLong "KeyMeetingModel" (159 : Nat) (65535 : Int64)) ∈ kz_T := kz_mw3 194 rfl rfl
theorem mw_713 : (Cond.constantLong "KeyMeetingModel" (157 : Nat) (65536 : Int64)) ∈ kz_T := kz_mw3 195 rfl rfl
theorem mw_714 : (Cond.constantLong "KeyMeetingModel" (206 : Nat) (65537 : Int64)) ∈ kz_T := kz_mw3 196 rfl rfl
theorem mw_715 : (Cond.methodLink "KeyMeetingModel" (211 : Nat) zy_N_isWithin) ∈ kz_T := kz_mw3 197 rfl rfl
theorem mw_717 : (Cond.instanceMethod zy_N_isWithin) ∈ kz_T := kz_mw3 199 rfl rfl
theorem mw_718 : (Cond.code zy_N_isWithin prog_7_method_8_code (10 : Nat) (Option.some FieldType.boolean)) ∈ kz_T := kz_mw3 200 rfl rfl
theorem mw_719 : (Cond.methodLink "KeyMeetingModel" (161 : Nat) zy_N_compare) ∈ kz_T := kz_mw3 201 rfl rfl
theorem mw_720 : (Cond.static zy_N_compare) ∈ kz_T := kz_mw3 202 rfl rfl
theorem mw_721 : (Cond.code zy_N_compare prog_7_method_6_code (3 : Nat) (Option.some FieldType.int)) ∈ kz_T := kz_mw3 203 rfl rfl
theorem mw_722 : (Cond.methodLink "KeyMeetingModel" (229 : Nat) zy_N_raiseBy) ∈ kz_T := kz_mw3 204 rfl rfl
theorem mw_724 : (Cond.instanceMethod zy_N_raiseBy) ∈ kz_T := kz_mw3 206 rfl rfl
theorem mw_725 : (Cond.code zy_N_raiseBy prog_7_method_23_code (6 : Nat) (Option.none : Option FieldType)) ∈ kz_T := kz_mw3 207 rfl rfl
theorem mw_726 : (Cond.methodLink "KeyMeetingModel" (215 : Nat) zy_N_copy) ∈ kz_T := kz_mw3 208 rfl rfl
theorem mw_727 : (Cond.static zy_N_copy) ∈ kz_T := kz_mw3 209 rfl rfl
theorem mw_728 : (Cond.code zy_N_copy prog_7_method_7_code (3 : Nat) (Option.none : Option FieldType)) ∈ kz_T := kz_mw3 210 rfl rfl
theorem mw_729 : (Cond.methodLink "KeyMeetingModel" (218 : Nat) zy_N_raise) ∈ kz_T := kz_mw3 211 rfl rfl
theorem mw_731 : (Cond.instanceMethod zy_N_raise) ∈ kz_T := kz_mw3 213 rfl rfl
theorem mw_732 : (Cond.code zy_N_raise prog_7_method_12_code (2 : Nat) (Option.none : Option FieldType)) ∈ kz_T := kz_mw3 214 rfl rfl
theorem mw_733 : (Cond.methodLink "KeyMeetingModel" (169 : Nat) zy_N_remain) ∈ kz_T := kz_mw3 215 rfl rfl
theorem mw_735 : (Cond.instanceMethod zy_N_remain) ∈ kz_T := kz_mw3 217 rfl rfl
theorem mw_736 : (Cond.code zy_N_remain prog_7_method_11_code (13 : Nat) (Option.none : Option FieldType)) ∈ kz_T := kz_mw3 218 rfl rfl
theorem mw_737 : (Cond.methodLink "KeyMeetingModel" (165 : Nat) zy_N_isLess) ∈ kz_T := kz_mw3 219 rfl rfl
theorem mw_739 : (Cond.instanceMethod zy_N_isLess) ∈ kz_T := kz_mw3 221 rfl rfl
theorem mw_740 : (Cond.code zy_N_isLess prog_7_method_10_code (4 : Nat) (Option.some FieldType.boolean)) ∈ kz_T := kz_mw3 222 rfl rfl
theorem mw_741 : (Cond.methodLink "KeyMeetingModel" (221 : Nat) zy_N_words) ∈ kz_T := kz_mw3 223 rfl rfl
theorem mw_742 : (Cond.static zy_N_words) ∈ kz_T := kz_mw3 224 rfl rfl
theorem mw_743 : (Cond.code zy_N_words prog_7_method_5_code (4 : Nat) (Option.none : Option FieldType)) ∈ kz_T := kz_mw3 225 rfl rfl
theorem mw_744 : (Cond.methodLink "KeyMeetingLaw" (65 : Nat) zy_N_answer) ∈ kz_T := kz_mw3 226 rfl rfl
theorem mw_745 : (Cond.instanceMethod zy_N_answer) ∈ kz_T := kz_mw3 227 rfl rfl
theorem mw_746 : (Cond.selects "KeyMeetingModel" zy_N_answer zy_N_answer) ∈ kz_T := kz_mw3 228 rfl rfl
theorem mw_747 : (Cond.code zy_N_answer prog_7_method_28_code (2 : Nat) (Option.some FieldType.int)) ∈ kz_T := kz_mw3 229 rfl rfl
theorem mw_748 : (Cond.methodLink "KeyMeetingModel" (240 : Nat) zy_N_fail) ∈ kz_T := kz_mw3 230 rfl rfl
theorem mw_750 : (Cond.instanceMethod zy_N_fail) ∈ kz_T := kz_mw3 232 rfl rfl
theorem mw_751 : (Cond.code zy_N_fail prog_7_method_25_code (2 : Nat) (Option.some FieldType.int)) ∈ kz_T := kz_mw3 233 rfl rfl
theorem mw_752 : (Cond.methodLink "KeyMeetingModel" (244 : Nat) zy_N_hash) ∈ kz_T := kz_mw3 234 rfl rfl
theorem mw_754 : (Cond.instanceMethod zy_N_hash) ∈ kz_T := kz_mw3 236 rfl rfl
theorem mw_755 : (Cond.code zy_N_hash prog_7_method_26_code (4 : Nat) (Option.none : Option FieldType)) ∈ kz_T := kz_mw3 237 rfl rfl
theorem mw_756 : (Cond.methodLink "KeyMeetingModel" (233 : Nat) zy_N_addWords) ∈ kz_T := kz_mw3 238 rfl rfl
theorem mw_758 : (Cond.instanceMethod zy_N_addWords) ∈ kz_T := kz_mw4 0 rfl rfl
theorem mw_759 : (Cond.code zy_N_addWords prog_7_method_14_code (4 : Nat) (Option.none : Option FieldType)) ∈ kz_T := kz_mw4 1 rfl rfl
theorem mw_760 : (Cond.methodLink "KeyMeetingModel" (237 : Nat) zy_N_reckon) ∈ kz_T := kz_mw4 2 rfl rfl
theorem mw_762 : (Cond.instanceMethod zy_N_reckon) ∈ kz_T := kz_mw4 4 rfl rfl
theorem mw_763 : (Cond.code zy_N_reckon prog_7_method_16_code (6 : Nat) (Option.none : Option FieldType)) ∈ kz_T := kz_mw4 5 rfl rfl
theorem mw_764 : (Cond.methodLink "KeyMeetingModel" (184 : Nat) zy_N_mix) ∈ kz_T := kz_mw4 6 rfl rfl
theorem mw_766 : (Cond.instanceMethod zy_N_mix) ∈ kz_T := kz_mw4 8 rfl rfl
theorem mw_767 : (Cond.code zy_N_mix prog_7_method_15_code (7 : Nat) (Option.none : Option FieldType)) ∈ kz_T := kz_mw4 9 rfl rfl
theorem mw_768 : (Cond.methodLink "KeyMeetingModel" (180 : Nat) zy_N_turn) ∈ kz_T := kz_mw4 10 rfl rfl
theorem mw_769 : (Cond.static zy_N_turn) ∈ kz_T := kz_mw4 11 rfl rfl
theorem mw_770 : (Cond.code zy_N_turn prog_7_method_13_code (2 : Nat) (Option.some FieldType.int)) ∈ kz_T := kz_mw4 12 rfl rfl
theorem mw_771 : (Cond.methodLink "KeyMeetingModel" (248 : Nat) zy_N_hashRest) ∈ kz_T := kz_mw4 13 rfl rfl
theorem mw_773 : (Cond.instanceMethod zy_N_hashRest) ∈ kz_T := kz_mw4 15 rfl rfl
theorem mw_774 : (Cond.code zy_N_hashRest prog_7_method_27_code (4 : Nat) (Option.none : Option FieldType)) ∈ kz_T := kz_mw4 16 rfl rfl
theorem mw_775 : (Cond.methodLink "KeyMeetingLaw" (69 : Nat) zy_N_accept) ∈ kz_T := kz_mw4 17 rfl rfl
theorem mw_776 : (Cond.instanceMethod zy_N_accept) ∈ kz_T := kz_mw4 18 rfl rfl
theorem mw_777 : (Cond.selects "KeyMeetingModel" zy_N_accept zy_N_accept) ∈ kz_T := kz_mw4 19 rfl rfl
theorem mw_778 : (Cond.code zy_N_accept prog_7_method_32_code (1 : Nat) (Option.some FieldType.int)) ∈ kz_T := kz_mw4 20 rfl rfl
theorem mw_779 : (Cond.methodLink "KeyMeetingModel" (251 : Nat) zy_N_isTrusted) ∈ kz_T := kz_mw4 21 rfl rfl
theorem mw_781 : (Cond.instanceMethod zy_N_isTrusted) ∈ kz_T := kz_mw4 23 rfl rfl
theorem mw_782 : (Cond.code zy_N_isTrusted prog_7_method_29_code (3 : Nat) (Option.some FieldType.boolean)) ∈ kz_T := kz_mw4 24 rfl rfl
theorem mw_783 : (Cond.methodLink "KeyMeetingModel" (254 : Nat) zy_N_isSigned) ∈ kz_T := kz_mw4 25 rfl rfl
theorem mw_785 : (Cond.instanceMethod zy_N_isSigned) ∈ kz_T := kz_mw4 27 rfl rfl
theorem mw_786 : (Cond.code zy_N_isSigned prog_7_method_31_code (2 : Nat) (Option.some FieldType.boolean)) ∈ kz_T := kz_mw4 28 rfl rfl
theorem mw_787 : (Cond.methodLink "KeyMeetingModel" (257 : Nat) zy_N_makeKeys) ∈ kz_T := kz_mw4 29 rfl rfl
theorem mw_789 : (Cond.instanceMethod zy_N_makeKeys) ∈ kz_T := kz_mw4 31 rfl rfl
theorem mw_790 : (Cond.code zy_N_makeKeys prog_7_method_30_code (4 : Nat) (Option.none : Option FieldType)) ∈ kz_T := kz_mw4 32 rfl rfl
theorem mw_791 : (Cond.methodLink "KeyMeetingLaw" (73 : Nat) zy_N_alter) ∈ kz_T := kz_mw4 33 rfl rfl
theorem mw_792 : (Cond.instanceMethod zy_N_alter) ∈ kz_T := kz_mw4 34 rfl rfl
theorem mw_793 : (Cond.selects "KeyMeetingModel" zy_N_alter zy_N_alter) ∈ kz_T := kz_mw4 35 rfl rfl
theorem mw_794 : (Cond.code zy_N_alter prog_7_method_34_code (4 : Nat) (Option.some FieldType.int)) ∈ kz_T := kz_mw4 36 rfl rfl
theorem mw_795 : (Cond.methodLink "KeyMeetingModel" (261 : Nat) zy_N_isNone) ∈ kz_T := kz_mw4 37 rfl rfl
theorem mw_796 : (Cond.static zy_N_isNone) ∈ kz_T := kz_mw4 38 rfl rfl
theorem mw_797 : (Cond.code zy_N_isNone prog_7_method_33_code (2 : Nat) (Option.some FieldType.boolean)) ∈ kz_T := kz_mw4 39 rfl rfl
theorem mw_798 : (Cond.methodLink "KeyMeetingLaw" (77 : Nat) zy_N_sent) ∈ kz_T := kz_mw4 40 rfl rfl
theorem mw_799 : (Cond.instanceMethod zy_N_sent) ∈ kz_T := kz_mw4 41 rfl rfl
theorem mw_800 : (Cond.selects "KeyMeetingModel" zy_N_sent zy_N_sent) ∈ kz_T := kz_mw4 42 rfl rfl
theorem mw_801 : (Cond.code zy_N_sent prog_7_method_35_code (3 : Nat) (Option.some FieldType.int)) ∈ kz_T := kz_mw4 43 rfl rfl
theorem mw_802 : (Cond.methodLink "KeyMeetingLaw" (80 : Nat) zy_N_key) ∈ kz_T := kz_mw4 44 rfl rfl
theorem mw_803 : (Cond.instanceMethod zy_N_key) ∈ kz_T := kz_mw4 45 rfl rfl
theorem mw_804 : (Cond.selects "KeyMeetingModel" zy_N_key zy_N_key) ∈ kz_T := kz_mw4 46 rfl rfl
theorem mw_805 : (Cond.code zy_N_key prog_7_method_36_code (3 : Nat) (Option.some FieldType.int)) ∈ kz_T := kz_mw4 47 rfl rfl
theorem mw_806 : (Cond.methodLink "KeyMeetingLaw" (84 : Nat) zy_N_state) ∈ kz_T := kz_mw4 48 rfl rfl
theorem mw_807 : (Cond.instanceMethod zy_N_state) ∈ kz_T := kz_mw4 49 rfl rfl
theorem mw_808 : (Cond.selects "KeyMeetingModel" zy_N_state zy_N_state) ∈ kz_T := kz_mw4 50 rfl rfl
theorem mw_809 : (Cond.code zy_N_state prog_7_method_37_code (1 : Nat) (Option.some FieldType.int)) ∈ kz_T := kz_mw4 51 rfl rfl
theorem mw_810 : (Cond.methodLink "KeyMeetingLaw" (88 : Nat) zy_N_begin) ∈ kz_T := kz_mw4 52 rfl rfl
theorem mw_811 : (Cond.instanceMethod zy_N_begin) ∈ kz_T := kz_mw4 53 rfl rfl
theorem mw_812 : (Cond.selects "KeyMeetingModel" zy_N_begin zy_N_begin) ∈ kz_T := kz_mw4 54 rfl rfl
theorem mw_813 : (Cond.code zy_N_begin prog_7_method_38_code (2 : Nat) (Option.none : Option FieldType)) ∈ kz_T := kz_mw4 55 rfl rfl
theorem mw_814 : (Cond.methodLink "KeyMeetingLaw" (92 : Nat) zy_N_secret) ∈ kz_T := kz_mw4 56 rfl rfl
theorem mw_815 : (Cond.instanceMethod zy_N_secret) ∈ kz_T := kz_mw4 57 rfl rfl
theorem mw_816 : (Cond.selects "KeyMeetingModel" zy_N_secret zy_N_secret) ∈ kz_T := kz_mw4 58 rfl rfl
theorem mw_817 : (Cond.code zy_N_secret prog_7_method_39_code (2 : Nat) (Option.some FieldType.int)) ∈ kz_T := kz_mw4 59 rfl rfl
theorem mw_818 : (Cond.constantLong "KeyMeetingLaw" (52 : Nat) (4294967295 : Int64)) ∈ kz_T := kz_mw4 60 rfl rfl
theorem mw_819 : (Cond.arrayClass FieldType.long) ∈ kz_T := kz_mw4 61 rfl rfl
theorem mw_820 : (Cond.sameMethod "java/lang/Throwable" "java/lang/Throwable" "fillInStackTrace" "(I)Ljava/lang/Throwable;") ∈ kz_T := kz_mw4 62 rfl rfl
end
section
/-! BASE (draft, not yet compiled): contracts with two lists of cells: wc, which may be written, and wr, which is only read -/
def kz_ro (D : va_G) (cl : List vw_C) (A : Nat → Prop) (H : Heap) (wr : va_W) : Prop := va_P D cl wr H ∧ ∀ (k : Nat) (q : Nat × va_E), wr[k]? = some q → ¬ A q.1
theorem kz_ro.at {D : va_G} {cl : List vw_C} {A : Nat → Prop} {H0 H : Heap} {wr : va_W} {locs : List Loc} (h : kz_ro D cl A H0 wr) (hS : va_S A H0 H locs) : va_P D cl wr H :=
  fun k q hq => (h.1 k q hq).kept (hS.2.1 q.1 (h.1 k q hq).lt (h.2 k q hq))
def kz_dy (D : va_G) (cl : List vw_C) (A : Nat → Prop) (H0 H : Heap) (locs : List Loc) (ww : va_W) : Prop := va_P D cl ww H ∧ va_D A ww ∧ va_S A H0 H locs
theorem kz_pick {ww ww' : va_W} {is : List Nat} (hs : is.map (fun i => ww[i]?) = ww'.map some) {k : Nat} {q : Nat × va_E} (hk : ww'[k]? = some q) : ∃ i, is[k]? = some i ∧ ww[i]? = some q := by
  have h1 : (is.map (fun i => ww[i]?))[k]? = some (some q) := by rw [hs, List.getElem?_map, hk]; rfl
  rw [List.getElem?_map] at h1
  cases hi : is[k]? with
  | none => rw [hi] at h1; cases h1
  | some i => rw [hi] at h1; exact ⟨i, rfl, Option.some.inj h1⟩
theorem kz_dy.sub {D : va_G} {cl : List vw_C} {A : Nat → Prop} {H0 H : Heap} {locs : List Loc} {ww ww' : va_W} (h : kz_dy D cl A H0 H locs ww) (is : List Nat) (hn : va_nd is = true) (hs : is.map (fun i => ww[i]?) = ww'.map some) : kz_dy D cl A H0 H locs ww' :=
  ⟨fun k q hk => by obtain ⟨i, -, hi⟩ := kz_pick hs hk; exact h.1 i q hi, h.2.1.sub is hn hs, h.2.2⟩
/-- static fields that nobody writes; words of nest mates -/
def kz_Z (zs : List (String × String × String × Value)) (A : Nat → Prop) (U : State) (H : Heap) : Prop := ∀ z ∈ zs, va_Z z.1 z.2.1 z.2.2.1 z.2.2.2 A U H
def kz_N (ns : List Cond) (U : State) : Prop := ∀ w ∈ ns, va_Nw w U
def kz_isN (w : Cond) : Bool := match w with
  | .methodLinkNest _ _ _ _ => true
  | .fieldLinkNest _ _ _ _ _ _ => true
  | _ => false
theorem kz_N.warm {ns : List Cond} {s U : State} (hW : s.WarmedH U.vm) (hn : ns.all kz_isN = true) (h : kz_N ns s) : kz_N ns U := by
  intro w hw
  have h1 : kz_isN w = true := List.all_eq_true.mp hn w hw
  have h2 := h w hw
  cases w <;> first | exact va_Nw.warmM hW h2 | exact va_Nw.warmF hW h2 | (simp [kz_isN] at h1)
theorem kz_N.same {ns : List Cond} {s U : State} (hv : s.vm = U.vm) (hn : ns.all kz_isN = true) (h : kz_N ns s) : kz_N ns U := by
  intro w hw
  have h1 : kz_isN w = true := List.all_eq_true.mp hn w hw
  have h2 := h w hw
  cases w <;> first | exact va_Nw.same rfl hv h2 | (simp [kz_isN] at h1)
/-- a method's start -/
def kz_Pc (D : va_G) (cl : List vw_C) (tys : List (ClassId × FieldType)) (zs : List (String × String × String × Value)) (ns : List Cond) (av : List Value) (wc wr : va_W) (sz : Nat) : Array Value → State → Prop :=
  va_Pc av (fun U => U.heap.size = sz ∧ va_P D cl wc U.heap ∧ va_D (fun _ => True) wc ∧ va_K D cl tys U ∧ kz_ro D cl (va_A wc sz) U.heap wr ∧ kz_Z zs (va_A wc sz) U U.heap ∧ kz_N ns U)
/-- a method's end: its cells -/
def kz_B (D : va_G) (cl : List vw_C) (A : Nat → Prop) {S : Type} (w : S → va_W) : S → State → Prop := fun u t => va_P D cl (w u) t.heap ∧ va_D A (w u)
theorem kz_blind {D : va_G} {cl : List vw_C} {tys : List (ClassId × FieldType)} {zs : List (String × String × String × Value)} {ns : List Cond} {av : List Value} {wc wr : va_W} {sz : Nat} (hn : ns.all kz_isN = true) : FrameBlind (kz_Pc D cl tys zs ns av wc wr sz) := by
  intro a U g mk h
  obtain ⟨h0, h1, h2, h3, h4, h5, h6, h7⟩ := h
  exact ⟨h0, h1, h2, h3, va_K.moved (u := U) (U := U.calling g mk a) (Vm.Alike.refl U.vm) h4, h5, fun z hz => va_Z.moved (u := U) (U := U.calling g mk a) (Vm.Alike.refl U.vm) (h6 z hz), kz_N.same (s := U) (U := U.calling g mk a) rfl hn h7⟩
def kz_src (ww wq : va_W) (x : Bool × Nat) : Option (Nat × va_E) := if x.1 then wq[x.2]? else ww[x.2]?
theorem kz_srcAt {ww wq wr : va_W} {src : List (Bool × Nat)} (hs : src.map (kz_src ww wq) = wr.map some) {k : Nat} {q : Nat × va_E} (hk : wr[k]? = some q) : ∃ x, src[k]? = some x ∧ kz_src ww wq x = some q := by
  have h1 : (src.map (kz_src ww wq))[k]? = some (some q) := by rw [hs, List.getElem?_map, hk]; rfl
  rw [List.getElem?_map] at h1
  cases hi : src[k]? with
  | none => rw [hi] at h1; cases h1
  | some x => rw [hi] at h1; exact ⟨x, rfl, Option.some.inj h1⟩
/-- what a callee reads: cells of the caller's that the callee doesn't write (false), or cells that the caller reads too (true) -/
theorem kz_roOf {D : va_G} {cl : List vw_C} {A : Nat → Prop} {s : State} {H : Heap} {locs : List Loc} {ww wq wc wr : va_W} (hdy : kz_dy D cl A s.heap H locs ww) (hA : ∀ q, s.heap.size ≤ q → A q) (hro : kz_ro D cl A s.heap wq)
    (isC : List Nat) (hC : isC.map (fun i => ww[i]?) = wc.map some) (src : List (Bool × Nat)) (hR : src.map (kz_src ww wq) = wr.map some) (hRd : ∀ x ∈ src, x.1 = true ∨ x.2 ∉ isC) : kz_ro D cl (va_A wc H.size) H wr := by
  obtain ⟨hP, hD, hS⟩ := hdy
  have hF := va_free hD hS hA isC hC
  have hQ := hro.at hS
  refine ⟨fun k q hk => ?_, fun k q hk hz => ?_⟩
  · obtain ⟨x, h1, h2⟩ := kz_srcAt hR hk
    unfold kz_src at h2
    split at h2
    · exact hQ _ q h2
    · exact hP _ q h2
  · obtain ⟨x, h1, h2⟩ := kz_srcAt hR hk
    unfold kz_src at h2
    split at h2
    · exact hro.2 _ q h2 (hF _ hz)
    · rename_i hx
      rcases hz with ⟨k2, e2, h3⟩ | h3
      · obtain ⟨j, h4, h5⟩ := kz_pick hC h3
        have hij := hD.1 _ _ _ _ h2 h5 rfl
        rcases hRd x (List.mem_of_getElem? h1) with h6 | h6
        · exact hx h6
        · exact h6 (by rw [hij]; exact List.mem_of_getElem? h4)
      · have := (hP _ q h2).lt
        omega
section KZ
variable {p : Program} {l : Launch} {e : Env} {R : Room} {s : State} {m : MethodId} {args : Array Value} {below : List Frame} {meth : Method} {c : Code} {H : Heap} {locs : List Loc} {cells slots : Nat} {Q : State → Prop}
variable {D : va_G} {cl : List vw_C} {A : Nat → Prop} {tys tys' : List (ClassId × FieldType)} {zs zs' : List (String × String × String × Value)} {ns ns' : List Cond} {ww wq wc wr wk : va_W}
variable {pc mc ms : Nat} {ls : Array Slot} {rest st0 : List Value} {a : Array Value}
/-- a call's start -/
theorem kz_at {As : List Value} (hdy : kz_dy D cl A s.heap H locs ww) (hA : ∀ q, s.heap.size ≤ q → A q) (hK : va_K D cl tys s) (hro : kz_ro D cl A s.heap wq) (hZ : kz_Z zs A s s.heap) (hN : kz_N ns s)
    (isC : List Nat) (hCn : va_nd isC = true) (hC : isC.map (fun i => ww[i]?) = wc.map some) (src : List (Bool × Nat)) (hR : src.map (kz_src ww wq) = wr.map some) (hRd : ∀ x ∈ src, x.1 = true ∨ x.2 ∉ isC)
    (it : List Nat) (ht : it.filterMap (fun i => tys[i]?) = tys') (hz : ∀ z ∈ zs', z ∈ zs) (hn : ∀ w ∈ ns', w ∈ ns) (hnn : ns'.all kz_isN = true) : ∀ U : State, U.heap = H → s.WarmedH U.vm → kz_Pc D cl tys' zs' ns' As wc wr H.size As.toArray U := by
  intro U hU hW
  have hF := va_free hdy.2.1 hdy.2.2 hA isC hC
  refine ⟨rfl, by rw [hU], ?_, ?_, va_K.moved hW.alike (hK.sub it ht), ?_, ?_, ?_⟩
  · rw [hU]
    intro k q hk
    obtain ⟨i, -, hi⟩ := kz_pick hC hk
    exact hdy.1 i q hi
  · exact (hdy.2.1.sub isC hCn hC).weaken (fun _ _ _ _ => trivial)
  · rw [hU]
    exact kz_roOf hdy hA hro isC hC src hR hRd
  · intro z hz'
    rw [hU]
    exact va_Z.moved hW.alike (((hZ z (hz z hz')).kept hdy.2.2.2.1).narrow hF)
  · exact kz_N.warm hW hnn (fun w hw => hN w (hn w hw))
theorem kz_preS {As : List Value} (hdy : kz_dy D cl A s.heap H locs ww) (hA : ∀ q, s.heap.size ≤ q → A q) (hK : va_K D cl tys s) (hro : kz_ro D cl A s.heap wq) (hZ : kz_Z zs A s s.heap) (hN : kz_N ns s)
    (isC : List Nat) (hCn : va_nd isC = true) (hC : isC.map (fun i => ww[i]?) = wc.map some) (src : List (Bool × Nat)) (hR : src.map (kz_src ww wq) = wr.map some) (hRd : ∀ x ∈ src, x.1 = true ∨ x.2 ∉ isC)
    (it : List Nat) (ht : it.filterMap (fun i => tys[i]?) = tys') (hz : ∀ z ∈ zs', z ∈ zs) (hn : ∀ w ∈ ns', w ∈ ns) (hnn : ns'.all kz_isN = true) : PreS s H (kz_Pc D cl tys' zs' ns' As wc wr H.size) As :=
  ⟨kz_blind hnn, kz_at hdy hA hK hro hZ hN isC hCn hC src hR hRd it ht hz hn hnn⟩
theorem kz_preV {As : List Value} {b : Addr} {C : String} {ci q0 : Nat} {cq : vw_C} {fs : List Value} (hdy : kz_dy D cl A s.heap H locs ww) (hA : ∀ q, s.heap.size ≤ q → A q) (hK : va_K D cl tys s) (hro : kz_ro D cl A s.heap wq) (hZ : kz_Z zs A s s.heap) (hN : kz_N ns s)
    (isC : List Nat) (hCn : va_nd isC = true) (hC : isC.map (fun i => ww[i]?) = wc.map some) (src : List (Bool × Nat)) (hR : src.map (kz_src ww wq) = wr.map some) (hRd : ∀ x ∈ src, x.1 = true ∨ x.2 ∉ isC)
    (it : List Nat) (ht : it.filterMap (fun i => tys[i]?) = tys') (hz : ∀ z ∈ zs', z ∈ zs) (hn : ∀ w ∈ ns', w ∈ ns) (hnn : ns'.all kz_isN = true) (hc : cl[ci]? = some cq) (he : ww[q0]? = some (b, .inr (ci, fs))) (hCq : cq.1 = C) : PreV s H C b (kz_Pc D cl tys' zs' ns' (.ref b :: As) wc wr H.size) As :=
  ⟨kz_blind hnn, by rw [← hCq]; exact va_recv hK hdy.1 hc he, kz_at (As := .ref b :: As) hdy hA hK hro hZ hN isC hCn hC src hR hRd it ht hz hn hnn⟩
/-- behind a call -/
theorem kz_calli {S : Type} {post : Int32 → S → Prop} {w : S → va_W} (hr : va_Run p l e R s m args below meth c H locs cells slots mc ms (F0 m pc ls st0) rest (va_Qi post (kz_B D cl (va_A wc H.size) w) (va_A wc H.size) a) (va_A wc H.size))
    (hdy : kz_dy D cl A s.heap H locs ww) (hA : ∀ q, s.heap.size ≤ q → A q) (isC isR : List Nat) (hC : isC.map (fun i => ww[i]?) = wc.map some) (hR : isR.map (fun i => ww[i]?) = wk.map some) (hn : va_nd isR = true) (hdis : ∀ i ∈ isR, i ∉ isC)
    (kk : ∀ (r : Int32) (u : S) (H1 : Heap) (locs1 : List Loc), post r u → kz_dy D cl A s.heap H1 locs1 (wk ++ w u) → W p l e R s m args below meth c H1 locs1 (cells + mc) (slots + ms) Q (F0 m (pc + 3) ls (.int r :: rest))) : W p l e R s m args below meth c H locs cells slots Q (F0 m pc ls st0) := by
  have hF := va_free hdy.2.1 hdy.2.2 hA isC hC
  refine va_calli hr hdy.2.2 (fun q _ h => hF q h) hF (fun r u t H1 locs1 ht hvm hw hB hz1 hk1 hS => ?_)
  obtain ⟨hP1, hD1⟩ := hB
  rw [ht] at hP1
  obtain ⟨hP, hD⟩ := va_join hdy.1 hdy.2.1 isC isR hC hR hn hdis hk1 hF hP1 hD1
  exact kk r u H1 locs1 hw ⟨hP, hD, hS⟩
theorem kz_calll {S : Type} {post : Int64 → S → Prop} {w : S → va_W} (hr : va_Run p l e R s m args below meth c H locs cells slots mc ms (F0 m pc ls st0) rest (va_Ql post (kz_B D cl (va_A wc H.size) w) (va_A wc H.size) a) (va_A wc H.size))
    (hdy : kz_dy D cl A s.heap H locs ww) (hA : ∀ q, s.heap.size ≤ q → A q) (isC isR : List Nat) (hC : isC.map (fun i => ww[i]?) = wc.map some) (hR : isR.map (fun i => ww[i]?) = wk.map some) (hn : va_nd isR = true) (hdis : ∀ i ∈ isR, i ∉ isC)
    (kk : ∀ (r : Int64) (u : S) (H1 : Heap) (locs1 : List Loc), post r u → kz_dy D cl A s.heap H1 locs1 (wk ++ w u) → W p l e R s m args below meth c H1 locs1 (cells + mc) (slots + ms) Q (F0 m (pc + 3) ls (.long r :: rest))) : W p l e R s m args below meth c H locs cells slots Q (F0 m pc ls st0) := by
  have hF := va_free hdy.2.1 hdy.2.2 hA isC hC
  refine va_calll hr hdy.2.2 (fun q _ h => hF q h) hF (fun r u t H1 locs1 ht hvm hw hB hz1 hk1 hS => ?_)
  obtain ⟨hP1, hD1⟩ := hB
  rw [ht] at hP1
  obtain ⟨hP, hD⟩ := va_join hdy.1 hdy.2.1 isC isR hC hR hn hdis hk1 hF hP1 hD1
  exact kk r u H1 locs1 hw ⟨hP, hD, hS⟩
theorem kz_callv {S : Type} {post : S → Prop} {w : S → va_W} (hr : va_Run p l e R s m args below meth c H locs cells slots mc ms (F0 m pc ls st0) rest (va_Qv post (kz_B D cl (va_A wc H.size) w) (va_A wc H.size) a) (va_A wc H.size))
    (hdy : kz_dy D cl A s.heap H locs ww) (hA : ∀ q, s.heap.size ≤ q → A q) (isC isR : List Nat) (hC : isC.map (fun i => ww[i]?) = wc.map some) (hR : isR.map (fun i => ww[i]?) = wk.map some) (hn : va_nd isR = true) (hdis : ∀ i ∈ isR, i ∉ isC)
    (kk : ∀ (u : S) (H1 : Heap) (locs1 : List Loc), post u → kz_dy D cl A s.heap H1 locs1 (wk ++ w u) → W p l e R s m args below meth c H1 locs1 (cells + mc) (slots + ms) Q (F0 m (pc + 3) ls rest)) : W p l e R s m args below meth c H locs cells slots Q (F0 m pc ls st0) := by
  have hF := va_free hdy.2.1 hdy.2.2 hA isC hC
  refine va_callv hr hdy.2.2 (fun q _ h => hF q h) hF (fun u t H1 locs1 ht hvm hw hB hz1 hk1 hS => ?_)
  obtain ⟨hP1, hD1⟩ := hB
  rw [ht] at hP1
  obtain ⟨hP, hD⟩ := va_join hdy.1 hdy.2.1 isC isR hC hR hn hdis hk1 hF hP1 hD1
  exact kk u H1 locs1 hw ⟨hP, hD, hS⟩
/-- what stays the same through a method's walk -/
def kz_F (p : Program) (s : State) (m : MethodId) (args : Array Value) (meth : Method) (c : Code) (cc : ByteArray) (nL : Nat) (y : MethodName) (Ts : List Cond) (ret : Option FieldType) : Prop :=
  p.tables.exec = Jvm.exec ∧ c.code = cc ∧ c.maxLocals = nL ∧ meth.sig.returnType = ret ∧ s.vm.findClass y.cls = some m.cls ∧ meth.locks = false ∧ (∀ w ∈ Ts, w.before args s = true) ∧ meth.name = y.name
theorem kz_met {y : MethodName} {ws ws' : List Cond} {rm : Room} {av : List Value} {sz : Nat} {Qc : (Nat → Prop) → Array Value → State → Outcome → State → Prop} {cc : ByteArray} {maxL : Nat} {ret : Option FieldType} (hy : plainName y.cls = true) (hw : ws = Cond.code y cc maxL ret :: ws') (hav : (lg_sl av).length ≤ maxL)
    (body : ∀ (p : Program) (e : Env) (s : State) (m : MethodId) (below : List Frame) (meth : Method) (c : Code) (A : Nat → Prop) (ls : Array Slot), kz_F p s m av.toArray meth c cc maxL y ws ret → (∀ q, s.heap.size ≤ q → A q) → kz_dy D cl A s.heap s.heap [] wc → va_K D cl tys s → kz_ro D cl A s.heap wr → kz_Z zs A s s.heap → kz_N ns s → lv_has ls maxL (lv_args 0 av) →
      W p l e rm s m av.toArray below meth c s.heap [] 0 0 (MQ below (Qc A) av.toArray s mc ms A) (F0 m 0 ls [])) : Met l y ws rm (kz_Pc D cl tys zs ns av wc wr sz) (Qc (va_A wc sz)) mc ms (va_A wc sz) := by
  refine Met.ofW (cc := cc) (maxL := maxL) (ret := ret) hy hw ?_
  intro p e s m args below meth c s₁ B hml hv
  obtain ⟨rfl, hsz, hP, hD0, hK, hro, hZ, hN⟩ := hv
  subst hsz
  rw [lg_entry_eq]
  exact body p e s m below meth c _ _ ⟨B.exec, B.bytes, hml, B.returns, findClass_of_methodNamed B.named, B.notSynchronized, atoms_spec (ws := ws) B.pre, (name_of_methodNamed B.named B.method).1⟩ (fun q h => Or.inr h) ⟨hP, hD0.self, va_S.rf⟩ hK hro hZ hN (lv_entry av hav)
/-- a method's ends -/
theorem kz_vret {S : Type} {post : S → Prop} {w : S → va_W} {cc : ByteArray} {nL : Nat} {y : MethodName} {Ts : List Cond} (F : kz_F p s m args meth c cc nL y Ts none) (u : S) (hdy : kz_dy D cl A s.heap H locs (w u)) (hp : post u) (hdg : decode cc pc = .ok (.return_, 1)) : W p l e R s m args below meth c H locs cells slots (MQ below (va_Qv post (kz_B D cl A w) A) args s cells slots A) (F0 m pc ls []) := by
  obtain ⟨hx, hb, hml, hr, hown, hlocks, hts, hnm⟩ := F
  exact W.vret hx hb hr (fun t ht hW => ⟨⟨u, rfl, hp, by rw [ht]; exact hdy.1, hdy.2.1⟩, hdy.2.2.F ht⟩) hdy.2.2.2.2 hdg hlocks
theorem kz_iret {S : Type} {post : Int32 → S → Prop} {w : S → va_W} {cc : ByteArray} {nL : Nat} {y : MethodName} {Ts : List Cond} {v : Int32} (F : kz_F p s m args meth c cc nL y Ts (some .int)) (u : S) (hdy : kz_dy D cl A s.heap H locs (w u)) (hp : post v u) (hdg : decode cc pc = .ok (.ireturn, 1)) : W p l e R s m args below meth c H locs cells slots (MQ below (va_Qi post (kz_B D cl A w) A) args s cells slots A) (F0 m pc ls [.int v]) := by
  obtain ⟨hx, hb, hml, hr, hown, hlocks, hts, hnm⟩ := F
  exact W.iret hx hb hr (fun t ht hW => ⟨⟨v, u, rfl, hp, by rw [ht]; exact hdy.1, hdy.2.1⟩, hdy.2.2.F ht⟩) hdy.2.2.2.2 hdg hlocks
theorem kz_zret {S : Type} {post : Int32 → S → Prop} {w : S → va_W} {cc : ByteArray} {nL : Nat} {y : MethodName} {Ts : List Cond} {v : Int32} (F : kz_F p s m args meth c cc nL y Ts (some .boolean)) (u : S) (hdy : kz_dy D cl A s.heap H locs (w u)) (hv : v = 0 ∨ v = 1) (hp : post v u) (hdg : decode cc pc = .ok (.ireturn, 1)) : W p l e R s m args below meth c H locs cells slots (MQ below (va_Qi post (kz_B D cl A w) A) args s cells slots A) (F0 m pc ls [.int v]) := by
  obtain ⟨hx, hb, hml, hr, hown, hlocks, hts, hnm⟩ := F
  exact W.zret hx hb hr (by rcases hv with rfl | rfl <;> decide) (fun t ht hW => ⟨⟨v, u, rfl, hp, by rw [ht]; exact hdy.1, hdy.2.1⟩, hdy.2.2.F ht⟩) hdy.2.2.2.2 hdg hlocks
theorem kz_lret {S : Type} {post : Int64 → S → Prop} {w : S → va_W} {cc : ByteArray} {nL : Nat} {y : MethodName} {Ts : List Cond} {v : Int64} (F : kz_F p s m args meth c cc nL y Ts (some .long)) (u : S) (hdy : kz_dy D cl A s.heap H locs (w u)) (hp : post v u) (hdg : decode cc pc = .ok (.lreturn, 1)) : W p l e R s m args below meth c H locs cells slots (MQ below (va_Ql post (kz_B D cl A w) A) args s cells slots A) (F0 m pc ls [.long v]) := by
  obtain ⟨hx, hb, hml, hr, hown, hlocks, hts, hnm⟩ := F
  exact W.lret hx hb hr (fun t ht hW => ⟨⟨v, u, rfl, hp, by rw [ht]; exact hdy.1, hdy.2.1⟩, hdy.2.2.F ht⟩) hdy.2.2.2.2 hdg hlocks
end KZ
end
section
/-! ===== lN to 2^62 under >> and >>> ===== -/
theorem pf_lI {a : Nat} (h : a < 2 ^ 63) : (lN a).toInt = (a : Int) := lg_ofNat_toInt h
theorem pf_shr {a d : Nat} {D : Int64} (hD : (D.toBitVec.smod 64).toNat = d) (h : a < 2 ^ 62) : lN a >>> D = lN (a / 2 ^ d) := by
  have hd : a / 2 ^ d ≤ a := Nat.div_le_self _ _
  apply Int64.toInt_inj.mp
  have e : (lN a >>> D).toInt = (lN a).toInt >>> d := by
    rw [← hD]
    exact BitVec.toInt_sshiftRight ..
  rw [e, Int.shiftRight_eq_div_pow, pf_lI (by omega), pf_lI (by omega)]
  rfl
theorem pf_ushr {a d : Nat} {D : UInt64} (hD : D.toNat % 64 = d) (h : a < 2 ^ 62) : ((lN a).toUInt64 >>> D).toInt64 = lN (a / 2 ^ d) := by
  have hd : a / 2 ^ d ≤ a := Nat.div_le_self _ _
  have e : (lN a).toUInt64 >>> D = UInt64.ofNat (a / 2 ^ d) := UInt64.toNat_inj.mp (by
    rw [UInt64.toNat_shiftRight, hD, Nat.shiftRight_eq_div_pow, UInt64.toNat_ofNat']
    show (UInt64.ofNat a).toNat / 2 ^ d = _
    rw [UInt64.toNat_ofNat', Nat.mod_eq_of_lt (by omega), Nat.mod_eq_of_lt (by omega)])
  rw [e]
  rfl
theorem pf_andw (x : Int64) : ∃ m, m < 2 ^ 32 ∧ x &&& 4294967295 = lN m := ⟨x.toBitVec.toNat % 2 ^ 32, Nat.mod_lt _ (by decide), Int64.toBitVec_inj.mp (BitVec.eq_of_toNat_eq (by
  show (x.toBitVec &&& 4294967295#64).toNat = (BitVec.ofNat 64 (x.toBitVec.toNat % 2 ^ 32)).toNat
  rw [BitVec.toNat_and, show (4294967295#64).toNat = 2 ^ 32 - 1 from by decide, Nat.and_two_pow_sub_one_eq_mod, BitVec.toNat_ofNat]
  omega))⟩
/-! ROWS of an instruction, or of two, that the walks use (draft, not yet compiled) -/
def kz_row (l : List Nat) (i : Nat) : Option Nat := l[i]?
theorem kz_m1 (n : Nat) : nI n + Int32.ofInt (-1) = nI n - 1 := by
  have h : Int32.ofInt (-1) = -1 := by decide
  rw [h, Int32.sub_eq_add_neg]
theorem kz_in {x : Int32} {n : Nat} (h0 : ¬ x < 0) (h : ¬ nI n ≤ x) (hn : n < 2 ^ 31) : vp_in x n := by
  rw [vp_in_iff]
  rw [Int32.lt_iff_toInt_lt, Int32.toInt_zero] at h0
  rw [Int32.le_iff_toInt_le, nI_toInt hn] at h
  omega
theorem kz_ne0 {a b : Nat} (ha : a < 2 ^ 32) (hb : b < 2 ^ 32) (h : lN a < lN b) : ¬ lN b = 0 := by
  intro q
  have h1 := (pk_lLT (by omega) (by omega)).mp h
  have h2 : lN b = lN 0 := q
  have h3 := (pk_lEQ (by omega) (by omega)).mp h2
  omega
theorem kz_cmp_lt {x y : Int64} : lg_cmp x y < 0 ↔ x < y := by
  unfold lg_cmp
  by_cases h1 : x > y
  · rw [if_pos h1]
    refine ⟨fun h => absurd h (by decide), fun h => ?_⟩
    have h2 : y < x := h1
    rw [Int64.lt_iff_toInt_lt] at h h2
    omega
  · rw [if_neg h1]
    by_cases h2 : x = y
    · rw [if_pos h2]
      refine ⟨fun h => absurd h (by decide), fun h => ?_⟩
      subst h2
      exact absurd h h1
    · rw [if_neg h2]
      refine ⟨fun _ => ?_, fun _ => by decide⟩
      have h3 : ¬ y < x := h1
      rw [Int64.lt_iff_toInt_lt] at h3 ⊢
      have h4 : x.toInt ≠ y.toInt := fun q => h2 (Int64.toInt_inj.mp q)
      omega
theorem kz_cmp_eq {x y : Int64} : lg_cmp x y = 0 ↔ x = y := by
  unfold lg_cmp
  by_cases h1 : x > y
  · rw [if_pos h1]
    refine ⟨fun h => absurd h (by decide), fun h => ?_⟩
    subst h
    have h2 : x < x := h1
    rw [Int64.lt_iff_toInt_lt] at h2
    omega
  · rw [if_neg h1]
    by_cases h2 : x = y
    · rw [if_pos h2]; exact ⟨fun _ => h2, fun _ => rfl⟩
    · rw [if_neg h2]; exact ⟨fun h => absurd h (by decide), fun h => absurd h h2⟩
section KR
variable {p : Program} {l : Launch} {e : Env} {R : Room} {s : State} {m : MethodId} {args : Array Value} {below : List Frame} {meth : Method} {c : Code} {H : Heap} {locs : List Loc} {cells slots : Nat} {Q : State → Prop}
variable {cc : ByteArray} {pc : Nat} {ls : Array Slot} {rest : List Value}
theorem kz_iadd (hexec : p.tables.exec = Jvm.exec) (hb : c.code = cc) {x y v : Int32} (hdg : decode cc pc = .ok (.iadd, 1)) (hv : x + y = v) (k : W p l e R s m args below meth c H locs cells slots Q (F0 m (pc + 1) ls (.int v :: rest))) : W p l e R s m args below meth c H locs cells slots Q (F0 m pc ls (.int y :: .int x :: rest)) := by
  subst hv; exact lv_iadd hexec hb hdg k
theorem kz_isub (hexec : p.tables.exec = Jvm.exec) (hb : c.code = cc) {x y v : Int32} (hdg : decode cc pc = .ok (.isub, 1)) (hv : x - y = v) (k : W p l e R s m args below meth c H locs cells slots Q (F0 m (pc + 1) ls (.int v :: rest))) : W p l e R s m args below meth c H locs cells slots Q (F0 m pc ls (.int y :: .int x :: rest)) := by
  subst hv; exact lv_isub hexec hb hdg k
theorem kz_imul (hexec : p.tables.exec = Jvm.exec) (hb : c.code = cc) {x y v : Int32} (hdg : decode cc pc = .ok (.imul, 1)) (hv : x * y = v) (k : W p l e R s m args below meth c H locs cells slots Q (F0 m (pc + 1) ls (.int v :: rest))) : W p l e R s m args below meth c H locs cells slots Q (F0 m pc ls (.int y :: .int x :: rest)) := by
  subst hv; exact lv_imul hexec hb hdg k
theorem kz_idiv (hexec : p.tables.exec = Jvm.exec) (hb : c.code = cc) {x y v : Int32} (hdg : decode cc pc = .ok (.idiv, 1)) (hne : ¬ y = 0) (hv : x / y = v) (k : W p l e R s m args below meth c H locs cells slots Q (F0 m (pc + 1) ls (.int v :: rest))) : W p l e R s m args below meth c H locs cells slots Q (F0 m pc ls (.int y :: .int x :: rest)) := by
  subst hv; exact lv_idiv hexec hb hdg hne k
theorem kz_irem (hexec : p.tables.exec = Jvm.exec) (hb : c.code = cc) {x y v : Int32} (hdg : decode cc pc = .ok (.irem, 1)) (hne : ¬ y = 0) (hv : x - x / y * y = v) (k : W p l e R s m args below meth c H locs cells slots Q (F0 m (pc + 1) ls (.int v :: rest))) : W p l e R s m args below meth c H locs cells slots Q (F0 m pc ls (.int y :: .int x :: rest)) := by
  subst hv; exact lv_irem hexec hb hdg hne k
/-- & 0xffffffffL: a natural below 2^32 -/
theorem kz_mask (hexec : p.tables.exec = Jvm.exec) (hb : c.code = cc) {x : Int64} (hdg : decode cc pc = .ok (.land, 1)) (k : ∀ z : Nat, z < 2 ^ 32 → W p l e R s m args below meth c H locs cells slots Q (F0 m (pc + 1) ls (.long (lN z) :: rest))) : W p l e R s m args below meth c H locs cells slots Q (F0 m pc ls (.long 4294967295 :: .long x :: rest)) := by
  obtain ⟨z, hz, ez⟩ := pf_andw x
  refine lv_land hexec hb hdg ?_
  rw [ez]
  exact k z hz
/-- lcmp and the branch behind it -/
theorem kz_llt (hexec : p.tables.exec = Jvm.exec) (hb : c.code = cc) {x y : Int64} {off : Int} {tgt : Nat} (hd1 : decode cc pc = .ok (.lcmp, 1)) (hd2 : decode cc (pc + 1) = .ok (.ifCond .lt off, 3)) (ht : ((pc + 1 : Nat) : Int) + off = (tgt : Int))
    (kt : x < y → W p l e R s m args below meth c H locs cells slots Q (F0 m tgt ls rest)) (kf : ¬ x < y → W p l e R s m args below meth c H locs cells slots Q (F0 m (pc + 1 + 3) ls rest)) : W p l e R s m args below meth c H locs cells slots Q (F0 m pc ls (.long y :: .long x :: rest)) :=
  W.lcmp hexec hb hd1 (lv_if_lt (tgt := tgt) hexec hb hd2 ht (fun h => kt (kz_cmp_lt.mp h)) (fun h => kf (fun q => h (kz_cmp_lt.mpr q))))
theorem kz_lge (hexec : p.tables.exec = Jvm.exec) (hb : c.code = cc) {x y : Int64} {off : Int} {tgt : Nat} (hd1 : decode cc pc = .ok (.lcmp, 1)) (hd2 : decode cc (pc + 1) = .ok (.ifCond .ge off, 3)) (ht : ((pc + 1 : Nat) : Int) + off = (tgt : Int))
    (kt : ¬ x < y → W p l e R s m args below meth c H locs cells slots Q (F0 m tgt ls rest)) (kf : x < y → W p l e R s m args below meth c H locs cells slots Q (F0 m (pc + 1 + 3) ls rest)) : W p l e R s m args below meth c H locs cells slots Q (F0 m pc ls (.long y :: .long x :: rest)) := by
  have key : ∀ z : Int32, 0 ≤ z ↔ ¬ z < 0 := fun z => by rw [Int32.le_iff_toInt_le, Int32.lt_iff_toInt_lt]; omega
  exact W.lcmp hexec hb hd1 (lv_if_ge (tgt := tgt) hexec hb hd2 ht (fun h => kt (fun q => (key _).mp h (kz_cmp_lt.mpr q))) (fun h => kf (kz_cmp_lt.mp (Classical.byContradiction fun q => h ((key _).mpr q)))))
theorem kz_leq (hexec : p.tables.exec = Jvm.exec) (hb : c.code = cc) {x y : Int64} {off : Int} {tgt : Nat} (hd1 : decode cc pc = .ok (.lcmp, 1)) (hd2 : decode cc (pc + 1) = .ok (.ifCond .eq off, 3)) (ht : ((pc + 1 : Nat) : Int) + off = (tgt : Int))
    (kt : x = y → W p l e R s m args below meth c H locs cells slots Q (F0 m tgt ls rest)) (kf : ¬ x = y → W p l e R s m args below meth c H locs cells slots Q (F0 m (pc + 1 + 3) ls rest)) : W p l e R s m args below meth c H locs cells slots Q (F0 m pc ls (.long y :: .long x :: rest)) :=
  W.lcmp hexec hb hd1 (lv_if_eq (tgt := tgt) hexec hb hd2 ht (fun h => kt (kz_cmp_eq.mp h)) (fun h => kf (fun q => h (kz_cmp_eq.mpr q))))
theorem kz_lne (hexec : p.tables.exec = Jvm.exec) (hb : c.code = cc) {x y : Int64} {off : Int} {tgt : Nat} (hd1 : decode cc pc = .ok (.lcmp, 1)) (hd2 : decode cc (pc + 1) = .ok (.ifCond .ne off, 3)) (ht : ((pc + 1 : Nat) : Int) + off = (tgt : Int))
    (kt : ¬ x = y → W p l e R s m args below meth c H locs cells slots Q (F0 m tgt ls rest)) (kf : x = y → W p l e R s m args below meth c H locs cells slots Q (F0 m (pc + 1 + 3) ls rest)) : W p l e R s m args below meth c H locs cells slots Q (F0 m pc ls (.long y :: .long x :: rest)) :=
  W.lcmp hexec hb hd1 (lv_if_ne (tgt := tgt) hexec hb hd2 ht (fun h => kt (fun q => h (kz_cmp_eq.mpr q))) (fun h => kf (kz_cmp_eq.mp h)))
variable {D : va_G} {cl : List vw_C} {A : Nat → Prop} {a : Nat} {tys tys' : List (ClassId × FieldType)} {ws : va_W} {H0 : Heap} {zs zs' : List (String × String × String × Value)} {ns ns' : List Cond} {ww wq wc wr : va_W}
/-- a row out of an array of arrays -/
theorem kz_aald (hexec : p.tables.exec = Jvm.exec) (hb : c.code = cc) (hK : va_K D cl tys s) (hP : va_P D cl ws H) (q0 t0 : Nat) {cA : ClassId} {n k t : Nat} {f : Nat → Option Nat} (ha : ws[q0]? = some (a, .inl (cA, n, .inr (.inr (.inr (.inr f)))))) (ht : tys[t0]? = some (cA, .array .int)) {i : Int32} (hin : vp_in i n) (hi : i.toNatClampNeg = k) (hv : f k = some t) (hdg : decode cc pc = .ok (.aaload, 1))
    (kk : W p l e R s m args below meth c H locs cells slots Q (F0 m (pc + 1) ls (.ref t :: rest))) : W p l e R s m args below meth c H locs cells slots Q (F0 m pc ls (.int i :: .ref a :: rest)) := by
  have hlt : i.toNatClampNeg < n := Nat.not_le.mp fun q => hin (Or.inr q)
  have hval : va_rf (f i.toNatClampNeg) = .ref t := by rw [hi, hv]; rfl
  exact W.aald (v := .ref t) (ty := .array .int) hexec hb (hP q0 _ ha) ((hK.2 t0 _ ht).1 n (fun j => va_rf (f j))) rfl (fun q => by cases q) (by show ¬ (i < 0 ∨ (arrV _ _ _).slots.size ≤ _); rw [arrV_size]; exact hin) (by show (arrV _ _ _).slots[_]? = _; rw [arrV_read _ _ hlt, hval]) rfl rfl hdg kk
/-- System.arraycopy out of an array that is only read -/
theorem kz_copyr (hexec : p.tables.exec = Jvm.exec) (hb : c.code = cc) (hml : c.maxLocals = ls.size) {own : String} {index : Nat} (hown : s.vm.findClass own = some m.cls) (hlink : (Cond.methodLink own index arraycopyName).before args s = true) (hnat : (Cond.native arraycopyName).before args s = true) (hstat : (Cond.static arraycopyName).before args s = true) (hini : (Cond.initialized "java/lang/System").before args s = true)
    (hK : va_K D cl tys s) (hP : va_P D cl ws H) (hD : va_D A ws) (hS : va_S A s.heap H locs) (hro : kz_ro D cl A s.heap wq) (q0 q1 t0 t1 : Nat) {a0 : Nat} {c0 c1 : ClassId} {n0 n1 : Nat} {f g : Nat → Int32} (ha0 : wq[q0]? = some (a0, .inl (c0, n0, .inl f))) (ha1 : ws[q1]? = some (a, .inl (c1, n1, .inl g))) (ht0 : tys[t0]? = some (c0, .int)) (ht1 : tys[t1]? = some (c1, .int)) (_hprim : refKind .int = false)
    {sp dp n : Int32} (h1 : ¬ sp < 0) (h2 : ¬ dp < 0) (h3 : ¬ n < 0) (h4 : sp.toNatClampNeg + n.toNatClampNeg ≤ n0) (h5 : dp.toNatClampNeg + n.toNatClampNeg ≤ n1) (_hfit : ∀ i, i < n.toNatClampNeg → fits .int (.int (f (sp.toNatClampNeg + i))) = true)
    (hframes : 1 ≤ R.frames) (hlocals : (rest.map fun v => v.category).sum + (nativeFrameWords "java/lang/System" "arraycopy" 5 + 11) ≤ R.locals) (hdg : decode cc pc = .ok (.invokestatic index, 3))
    (kk : ∀ (H1 : Heap) (locs1 : List Loc), va_P D cl (ws.set q1 (a, .inl (c1, n1, .inl (va_cpy f g sp.toNatClampNeg dp.toNatClampNeg n.toNatClampNeg)))) H1 → va_D A (ws.set q1 (a, .inl (c1, n1, .inl (va_cpy f g sp.toNatClampNeg dp.toNatClampNeg n.toNatClampNeg)))) → va_S A s.heap H1 locs1 → W p l e R s m args below meth c H1 locs1 cells slots Q (F0 m (pc + 3) ls rest)) : W p l e R s m args below meth c H locs cells slots Q (F0 m pc ls (.int n :: .int dp :: .ref a :: .int sp :: .ref a0 :: rest)) := by
  have hcell : s.heap[a0]? = some (vp_cell c0 (n0, .inl f)) := hro.1 q0 _ ha0
  have hX : va_X a0 n0 f s s.heap := ⟨_, hcell, (hK.2 t0 _ ht0).1 n0 (fun j => .int (f j)), (fun q => by cases q), by rw [vp_cell_i]; exact arrV_size _ _ _, fun j hj => by rw [vp_cell_i]; exact arrV_read _ _ hj⟩
  exact va_copyx hexec hb hml hown hlink hnat hstat hini hK hP hD hS hX (hro.1 q0 _ ha0).lt (hro.2 q0 _ ha0) q1 t1 ha1 ht1 h1 h2 h3 h4 h5 hframes hlocals hdg kk
/-- a call on a receiver that is only read -/
theorem kz_preVr {As : List Value} {b : Addr} {C : String} {ci q0 : Nat} {cq : vw_C} {fs : List Value} (hdy : kz_dy D cl A s.heap H locs ww) (hA : ∀ q, s.heap.size ≤ q → A q) (hK : va_K D cl tys s) (hro : kz_ro D cl A s.heap wq) (hZ : kz_Z zs A s s.heap) (hN : kz_N ns s)
    (isC : List Nat) (hCn : va_nd isC = true) (hC : isC.map (fun i => ww[i]?) = wc.map some) (src : List (Bool × Nat)) (hR : src.map (kz_src ww wq) = wr.map some) (hRd : ∀ x ∈ src, x.1 = true ∨ x.2 ∉ isC)
    (it : List Nat) (ht : it.filterMap (fun i => tys[i]?) = tys') (hz : ∀ z ∈ zs', z ∈ zs) (hn : ∀ w ∈ ns', w ∈ ns) (hnn : ns'.all kz_isN = true) (hc : cl[ci]? = some cq) (he : wq[q0]? = some (b, .inr (ci, fs))) (hCq : cq.1 = C) : PreV s H C b (kz_Pc D cl tys' zs' ns' (.ref b :: As) wc wr H.size) As :=
  ⟨kz_blind hnn, by rw [← hCq]; exact va_recv hK (hro.at hdy.2.2) hc he, kz_at (As := .ref b :: As) hdy hA hK hro hZ hN isC hCn hC src hR hRd it ht hz hn hnn⟩
end KR
end
section
/-! DECODE rows (by wip/names.py) -/
theorem zd_A_fill_0 : decode zc_A_fill 0 = .ok (.iconst 0, 1) := by decide +kernel
theorem zd_A_fill_1 : decode zc_A_fill 1 = .ok (.istore_n 2, 1) := by decide +kernel
theorem zd_A_fill_2 : decode zc_A_fill 2 = .ok (.aload_n 0, 1) := by decide +kernel
theorem zd_A_fill_3 : decode zc_A_fill 3 = .ok (.arraylength, 1) := by decide +kernel
theorem zd_A_fill_4 : decode zc_A_fill 4 = .ok (.istore_n 3, 1) := by decide +kernel
theorem zd_A_fill_5 : decode zc_A_fill 5 = .ok (.iload_n 2, 1) := by decide +kernel
theorem zd_A_fill_6 : decode zc_A_fill 6 = .ok (.iload_n 3, 1) := by decide +kernel
theorem zd_A_fill_7 : decode zc_A_fill 7 = .ok (.if_icmp .ge 13, 3) := by decide +kernel
theorem zd_A_fill_10 : decode zc_A_fill 10 = .ok (.aload_n 0, 1) := by decide +kernel
theorem zd_A_fill_11 : decode zc_A_fill 11 = .ok (.iload_n 2, 1) := by decide +kernel
theorem zd_A_fill_12 : decode zc_A_fill 12 = .ok (.iload_n 1, 1) := by decide +kernel
theorem zd_A_fill_13 : decode zc_A_fill 13 = .ok (.iastore, 1) := by decide +kernel
theorem zd_A_fill_14 : decode zc_A_fill 14 = .ok (.iinc 2 1, 3) := by decide +kernel
theorem zd_A_fill_17 : decode zc_A_fill 17 = .ok (.goto (-12), 3) := by decide +kernel
theorem zd_A_fill_20 : decode zc_A_fill 20 = .ok (.return_, 1) := by decide +kernel
theorem zd_W_atLeast_0 : decode zc_W_atLeast 0 = .ok (.iconst 0, 1) := by decide +kernel
theorem zd_W_atLeast_1 : decode zc_W_atLeast 1 = .ok (.istore_n 2, 1) := by decide +kernel
theorem zd_W_atLeast_2 : decode zc_W_atLeast 2 = .ok (.iload_n 2, 1) := by decide +kernel
theorem zd_W_atLeast_3 : decode zc_W_atLeast 3 = .ok (.bipush 7, 2) := by decide +kernel
theorem zd_W_atLeast_5 : decode zc_W_atLeast 5 = .ok (.if_icmp .ge 17, 3) := by decide +kernel
theorem zd_W_atLeast_8 : decode zc_W_atLeast 8 = .ok (.aload_n 0, 1) := by decide +kernel
theorem zd_W_atLeast_9 : decode zc_W_atLeast 9 = .ok (.iload_n 2, 1) := by decide +kernel
theorem zd_W_atLeast_10 : decode zc_W_atLeast 10 = .ok (.iaload, 1) := by decide +kernel
theorem zd_W_atLeast_11 : decode zc_W_atLeast 11 = .ok (.ifCond .eq 5, 3) := by decide +kernel
theorem zd_W_atLeast_14 : decode zc_W_atLeast 14 = .ok (.iconst 1, 1) := by decide +kernel
theorem zd_W_atLeast_15 : decode zc_W_atLeast 15 = .ok (.ireturn, 1) := by decide +kernel
theorem zd_W_atLeast_16 : decode zc_W_atLeast 16 = .ok (.iinc 2 1, 3) := by decide +kernel
theorem zd_W_atLeast_19 : decode zc_W_atLeast 19 = .ok (.goto (-17), 3) := by decide +kernel
theorem zd_W_atLeast_22 : decode zc_W_atLeast 22 = .ok (.aload_n 0, 1) := by decide +kernel
theorem zd_W_atLeast_23 : decode zc_W_atLeast 23 = .ok (.bipush 7, 2) := by decide +kernel
theorem zd_W_atLeast_25 : decode zc_W_atLeast 25 = .ok (.iaload, 1) := by decide +kernel
theorem zd_W_atLeast_26 : decode zc_W_atLeast 26 = .ok (.i2l, 1) := by decide +kernel
theorem zd_W_atLeast_27 : decode zc_W_atLeast 27 = .ok (.ldc2_w 15, 3) := by decide +kernel
theorem zd_W_atLeast_30 : decode zc_W_atLeast 30 = .ok (.land, 1) := by decide +kernel
theorem zd_W_atLeast_31 : decode zc_W_atLeast 31 = .ok (.iload_n 1, 1) := by decide +kernel
theorem zd_W_atLeast_32 : decode zc_W_atLeast 32 = .ok (.i2l, 1) := by decide +kernel
theorem zd_W_atLeast_33 : decode zc_W_atLeast 33 = .ok (.lcmp, 1) := by decide +kernel
theorem zd_W_atLeast_34 : decode zc_W_atLeast 34 = .ok (.ifCond .lt 7, 3) := by decide +kernel
theorem zd_W_atLeast_37 : decode zc_W_atLeast 37 = .ok (.iconst 1, 1) := by decide +kernel
theorem zd_W_atLeast_38 : decode zc_W_atLeast 38 = .ok (.goto 4, 3) := by decide +kernel
theorem zd_W_atLeast_41 : decode zc_W_atLeast 41 = .ok (.iconst 0, 1) := by decide +kernel
theorem zd_W_atLeast_42 : decode zc_W_atLeast 42 = .ok (.ireturn, 1) := by decide +kernel
theorem zd_W_subtract_0 : decode zc_W_subtract 0 = .ok (.iload_n 1, 1) := by decide +kernel
theorem zd_W_subtract_1 : decode zc_W_subtract 1 = .ok (.i2l, 1) := by decide +kernel
theorem zd_W_subtract_2 : decode zc_W_subtract 2 = .ok (.lstore_n 3, 1) := by decide +kernel
theorem zd_W_subtract_3 : decode zc_W_subtract 3 = .ok (.bipush 7, 2) := by decide +kernel
theorem zd_W_subtract_5 : decode zc_W_subtract 5 = .ok (.istore 5, 2) := by decide +kernel
theorem zd_W_subtract_7 : decode zc_W_subtract 7 = .ok (.iload 5, 2) := by decide +kernel
theorem zd_W_subtract_9 : decode zc_W_subtract 9 = .ok (.ifCond .lt 42, 3) := by decide +kernel
theorem zd_W_subtract_12 : decode zc_W_subtract 12 = .ok (.aload_n 0, 1) := by decide +kernel
theorem zd_W_subtract_13 : decode zc_W_subtract 13 = .ok (.iload 5, 2) := by decide +kernel
theorem zd_W_subtract_15 : decode zc_W_subtract 15 = .ok (.iaload, 1) := by decide +kernel
theorem zd_W_subtract_16 : decode zc_W_subtract 16 = .ok (.i2l, 1) := by decide +kernel
theorem zd_W_subtract_17 : decode zc_W_subtract 17 = .ok (.ldc2_w 15, 3) := by decide +kernel
theorem zd_W_subtract_20 : decode zc_W_subtract 20 = .ok (.land, 1) := by decide +kernel
theorem zd_W_subtract_21 : decode zc_W_subtract 21 = .ok (.lload_n 3, 1) := by decide +kernel
theorem zd_W_subtract_22 : decode zc_W_subtract 22 = .ok (.lsub, 1) := by decide +kernel
theorem zd_W_subtract_23 : decode zc_W_subtract 23 = .ok (.lstore 6, 2) := by decide +kernel
theorem zd_W_subtract_25 : decode zc_W_subtract 25 = .ok (.aload_n 2, 1) := by decide +kernel
theorem zd_W_subtract_26 : decode zc_W_subtract 26 = .ok (.iload 5, 2) := by decide +kernel
theorem zd_W_subtract_28 : decode zc_W_subtract 28 = .ok (.lload 6, 2) := by decide +kernel
theorem zd_W_subtract_30 : decode zc_W_subtract 30 = .ok (.l2i, 1) := by decide +kernel
theorem zd_W_subtract_31 : decode zc_W_subtract 31 = .ok (.iastore, 1) := by decide +kernel
theorem zd_W_subtract_32 : decode zc_W_subtract 32 = .ok (.lload 6, 2) := by decide +kernel
theorem zd_W_subtract_34 : decode zc_W_subtract 34 = .ok (.lconst 0, 1) := by decide +kernel
theorem zd_W_subtract_35 : decode zc_W_subtract 35 = .ok (.lcmp, 1) := by decide +kernel
theorem zd_W_subtract_36 : decode zc_W_subtract 36 = .ok (.ifCond .ge 7, 3) := by decide +kernel
theorem zd_W_subtract_39 : decode zc_W_subtract 39 = .ok (.lconst 1, 1) := by decide +kernel
theorem zd_W_subtract_40 : decode zc_W_subtract 40 = .ok (.goto 4, 3) := by decide +kernel
theorem zd_W_subtract_43 : decode zc_W_subtract 43 = .ok (.lconst 0, 1) := by decide +kernel
theorem zd_W_subtract_44 : decode zc_W_subtract 44 = .ok (.lstore_n 3, 1) := by decide +kernel
theorem zd_W_subtract_45 : decode zc_W_subtract 45 = .ok (.iinc 5 (-1), 3) := by decide +kernel
theorem zd_W_subtract_48 : decode zc_W_subtract 48 = .ok (.goto (-41), 3) := by decide +kernel
theorem zd_W_subtract_51 : decode zc_W_subtract 51 = .ok (.return_, 1) := by decide +kernel
theorem zd_W_compare_0 : decode zc_W_compare 0 = .ok (.iconst 0, 1) := by decide +kernel
theorem zd_W_compare_1 : decode zc_W_compare 1 = .ok (.istore_n 2, 1) := by decide +kernel
theorem zd_W_compare_2 : decode zc_W_compare 2 = .ok (.iload_n 2, 1) := by decide +kernel
theorem zd_W_compare_3 : decode zc_W_compare 3 = .ok (.bipush 8, 2) := by decide +kernel
theorem zd_W_compare_5 : decode zc_W_compare 5 = .ok (.if_icmp .ge 44, 3) := by decide +kernel
theorem zd_W_compare_8 : decode zc_W_compare 8 = .ok (.aload_n 0, 1) := by decide +kernel
theorem zd_W_compare_9 : decode zc_W_compare 9 = .ok (.iload_n 2, 1) := by decide +kernel
theorem zd_W_compare_10 : decode zc_W_compare 10 = .ok (.iaload, 1) := by decide +kernel
theorem zd_W_compare_11 : decode zc_W_compare 11 = .ok (.aload_n 1, 1) := by decide +kernel
theorem zd_W_compare_12 : decode zc_W_compare 12 = .ok (.iload_n 2, 1) := by decide +kernel
theorem zd_W_compare_13 : decode zc_W_compare 13 = .ok (.iaload, 1) := by decide +kernel
theorem zd_W_compare_14 : decode zc_W_compare 14 = .ok (.if_icmp .eq 29, 3) := by decide +kernel
theorem zd_W_compare_17 : decode zc_W_compare 17 = .ok (.aload_n 0, 1) := by decide +kernel
theorem zd_W_compare_18 : decode zc_W_compare 18 = .ok (.iload_n 2, 1) := by decide +kernel
theorem zd_W_compare_19 : decode zc_W_compare 19 = .ok (.iaload, 1) := by decide +kernel
theorem zd_W_compare_20 : decode zc_W_compare 20 = .ok (.i2l, 1) := by decide +kernel
theorem zd_W_compare_21 : decode zc_W_compare 21 = .ok (.ldc2_w 15, 3) := by decide +kernel
theorem zd_W_compare_24 : decode zc_W_compare 24 = .ok (.land, 1) := by decide +kernel
theorem zd_W_compare_25 : decode zc_W_compare 25 = .ok (.aload_n 1, 1) := by decide +kernel
theorem zd_W_compare_26 : decode zc_W_compare 26 = .ok (.iload_n 2, 1) := by decide +kernel
theorem zd_W_compare_27 : decode zc_W_compare 27 = .ok (.iaload, 1) := by decide +kernel
theorem zd_W_compare_28 : decode zc_W_compare 28 = .ok (.i2l, 1) := by decide +kernel
theorem zd_W_compare_29 : decode zc_W_compare 29 = .ok (.ldc2_w 15, 3) := by decide +kernel
theorem zd_W_compare_32 : decode zc_W_compare 32 = .ok (.land, 1) := by decide +kernel
theorem zd_W_compare_33 : decode zc_W_compare 33 = .ok (.lcmp, 1) := by decide +kernel
theorem zd_W_compare_34 : decode zc_W_compare 34 = .ok (.ifCond .ge 7, 3) := by decide +kernel
theorem zd_W_compare_37 : decode zc_W_compare 37 = .ok (.iconst (-1), 1) := by decide +kernel
theorem zd_W_compare_38 : decode zc_W_compare 38 = .ok (.goto 4, 3) := by decide +kernel
theorem zd_W_compare_41 : decode zc_W_compare 41 = .ok (.iconst 1, 1) := by decide +kernel
theorem zd_W_compare_42 : decode zc_W_compare 42 = .ok (.ireturn, 1) := by decide +kernel
theorem zd_W_compare_43 : decode zc_W_compare 43 = .ok (.iinc 2 1, 3) := by decide +kernel
theorem zd_W_compare_46 : decode zc_W_compare 46 = .ok (.goto (-44), 3) := by decide +kernel
theorem zd_W_compare_49 : decode zc_W_compare 49 = .ok (.iconst 0, 1) := by decide +kernel
theorem zd_W_compare_50 : decode zc_W_compare 50 = .ok (.ireturn, 1) := by decide +kernel
theorem zd_W_multiply_0 : decode zc_W_multiply 0 = .ok (.aload_n 2, 1) := by decide +kernel
theorem zd_W_multiply_1 : decode zc_W_multiply 1 = .ok (.iconst 0, 1) := by decide +kernel
theorem zd_W_multiply_2 : decode zc_W_multiply 2 = .ok (.invokestatic 17, 3) := by decide +kernel
theorem zd_W_multiply_5 : decode zc_W_multiply 5 = .ok (.bipush 7, 2) := by decide +kernel
theorem zd_W_multiply_7 : decode zc_W_multiply 7 = .ok (.istore_n 3, 1) := by decide +kernel
theorem zd_W_multiply_8 : decode zc_W_multiply 8 = .ok (.iload_n 3, 1) := by decide +kernel
theorem zd_W_multiply_9 : decode zc_W_multiply 9 = .ok (.ifCond .lt 32, 3) := by decide +kernel
theorem zd_W_multiply_12 : decode zc_W_multiply 12 = .ok (.aload_n 0, 1) := by decide +kernel
theorem zd_W_multiply_13 : decode zc_W_multiply 13 = .ok (.iload_n 3, 1) := by decide +kernel
theorem zd_W_multiply_14 : decode zc_W_multiply 14 = .ok (.iaload, 1) := by decide +kernel
theorem zd_W_multiply_15 : decode zc_W_multiply 15 = .ok (.ifCond .eq 20, 3) := by decide +kernel
theorem zd_W_multiply_18 : decode zc_W_multiply 18 = .ok (.aload_n 2, 1) := by decide +kernel
theorem zd_W_multiply_19 : decode zc_W_multiply 19 = .ok (.iload_n 3, 1) := by decide +kernel
theorem zd_W_multiply_20 : decode zc_W_multiply 20 = .ok (.aload_n 0, 1) := by decide +kernel
theorem zd_W_multiply_21 : decode zc_W_multiply 21 = .ok (.iload_n 3, 1) := by decide +kernel
theorem zd_W_multiply_22 : decode zc_W_multiply 22 = .ok (.iaload, 1) := by decide +kernel
theorem zd_W_multiply_23 : decode zc_W_multiply 23 = .ok (.i2l, 1) := by decide +kernel
theorem zd_W_multiply_24 : decode zc_W_multiply 24 = .ok (.ldc2_w 15, 3) := by decide +kernel
theorem zd_W_multiply_27 : decode zc_W_multiply 27 = .ok (.land, 1) := by decide +kernel
theorem zd_W_multiply_28 : decode zc_W_multiply 28 = .ok (.aload_n 1, 1) := by decide +kernel
theorem zd_W_multiply_29 : decode zc_W_multiply 29 = .ok (.aload_n 2, 1) := by decide +kernel
theorem zd_W_multiply_30 : decode zc_W_multiply 30 = .ok (.iload_n 3, 1) := by decide +kernel
theorem zd_W_multiply_31 : decode zc_W_multiply 31 = .ok (.invokestatic 23, 3) := by decide +kernel
theorem zd_W_multiply_34 : decode zc_W_multiply 34 = .ok (.iastore, 1) := by decide +kernel
theorem zd_W_multiply_35 : decode zc_W_multiply 35 = .ok (.iinc 3 (-1), 3) := by decide +kernel
theorem zd_W_multiply_38 : decode zc_W_multiply 38 = .ok (.goto (-30), 3) := by decide +kernel
theorem zd_W_multiply_41 : decode zc_W_multiply 41 = .ok (.return_, 1) := by decide +kernel
theorem zd_W_addMultiple_0 : decode zc_W_addMultiple 0 = .ok (.lconst 0, 1) := by decide +kernel
theorem zd_W_addMultiple_1 : decode zc_W_addMultiple 1 = .ok (.lstore 5, 2) := by decide +kernel
theorem zd_W_addMultiple_3 : decode zc_W_addMultiple 3 = .ok (.bipush 7, 2) := by decide +kernel
theorem zd_W_addMultiple_5 : decode zc_W_addMultiple 5 = .ok (.istore 7, 2) := by decide +kernel
theorem zd_W_addMultiple_7 : decode zc_W_addMultiple 7 = .ok (.iload 7, 2) := by decide +kernel
theorem zd_W_addMultiple_9 : decode zc_W_addMultiple 9 = .ok (.ifCond .lt 59, 3) := by decide +kernel
theorem zd_W_addMultiple_12 : decode zc_W_addMultiple 12 = .ok (.lload_n 0, 1) := by decide +kernel
theorem zd_W_addMultiple_13 : decode zc_W_addMultiple 13 = .ok (.aload_n 2, 1) := by decide +kernel
theorem zd_W_addMultiple_14 : decode zc_W_addMultiple 14 = .ok (.iload 7, 2) := by decide +kernel
theorem zd_W_addMultiple_16 : decode zc_W_addMultiple 16 = .ok (.iaload, 1) := by decide +kernel
theorem zd_W_addMultiple_17 : decode zc_W_addMultiple 17 = .ok (.i2l, 1) := by decide +kernel
theorem zd_W_addMultiple_18 : decode zc_W_addMultiple 18 = .ok (.ldc2_w 15, 3) := by decide +kernel
theorem zd_W_addMultiple_21 : decode zc_W_addMultiple 21 = .ok (.land, 1) := by decide +kernel
theorem zd_W_addMultiple_22 : decode zc_W_addMultiple 22 = .ok (.lmul, 1) := by decide +kernel
theorem zd_W_addMultiple_23 : decode zc_W_addMultiple 23 = .ok (.aload_n 3, 1) := by decide +kernel
theorem zd_W_addMultiple_24 : decode zc_W_addMultiple 24 = .ok (.iload 4, 2) := by decide +kernel
theorem zd_W_addMultiple_26 : decode zc_W_addMultiple 26 = .ok (.iconst 1, 1) := by decide +kernel
theorem zd_W_addMultiple_27 : decode zc_W_addMultiple 27 = .ok (.iadd, 1) := by decide +kernel
theorem zd_W_addMultiple_28 : decode zc_W_addMultiple 28 = .ok (.iload 7, 2) := by decide +kernel
theorem zd_W_addMultiple_30 : decode zc_W_addMultiple 30 = .ok (.iadd, 1) := by decide +kernel
theorem zd_W_addMultiple_31 : decode zc_W_addMultiple 31 = .ok (.iaload, 1) := by decide +kernel
theorem zd_W_addMultiple_32 : decode zc_W_addMultiple 32 = .ok (.i2l, 1) := by decide +kernel
theorem zd_W_addMultiple_33 : decode zc_W_addMultiple 33 = .ok (.ldc2_w 15, 3) := by decide +kernel
theorem zd_W_addMultiple_36 : decode zc_W_addMultiple 36 = .ok (.land, 1) := by decide +kernel
theorem zd_W_addMultiple_37 : decode zc_W_addMultiple 37 = .ok (.ladd, 1) := by decide +kernel
theorem zd_W_addMultiple_38 : decode zc_W_addMultiple 38 = .ok (.lload 5, 2) := by decide +kernel
theorem zd_W_addMultiple_40 : decode zc_W_addMultiple 40 = .ok (.ladd, 1) := by decide +kernel
theorem zd_W_addMultiple_41 : decode zc_W_addMultiple 41 = .ok (.lstore 8, 2) := by decide +kernel
theorem zd_W_addMultiple_43 : decode zc_W_addMultiple 43 = .ok (.aload_n 3, 1) := by decide +kernel
theorem zd_W_addMultiple_44 : decode zc_W_addMultiple 44 = .ok (.iload 4, 2) := by decide +kernel
theorem zd_W_addMultiple_46 : decode zc_W_addMultiple 46 = .ok (.iconst 1, 1) := by decide +kernel
theorem zd_W_addMultiple_47 : decode zc_W_addMultiple 47 = .ok (.iadd, 1) := by decide +kernel
theorem zd_W_addMultiple_48 : decode zc_W_addMultiple 48 = .ok (.iload 7, 2) := by decide +kernel
theorem zd_W_addMultiple_50 : decode zc_W_addMultiple 50 = .ok (.iadd, 1) := by decide +kernel
theorem zd_W_addMultiple_51 : decode zc_W_addMultiple 51 = .ok (.lload 8, 2) := by decide +kernel
theorem zd_W_addMultiple_53 : decode zc_W_addMultiple 53 = .ok (.l2i, 1) := by decide +kernel
theorem zd_W_addMultiple_54 : decode zc_W_addMultiple 54 = .ok (.iastore, 1) := by decide +kernel
theorem zd_W_addMultiple_55 : decode zc_W_addMultiple 55 = .ok (.lload 8, 2) := by decide +kernel
theorem zd_W_addMultiple_57 : decode zc_W_addMultiple 57 = .ok (.bipush 32, 2) := by decide +kernel
theorem zd_W_addMultiple_59 : decode zc_W_addMultiple 59 = .ok (.lushr, 1) := by decide +kernel
theorem zd_W_addMultiple_60 : decode zc_W_addMultiple 60 = .ok (.lstore 5, 2) := by decide +kernel
theorem zd_W_addMultiple_62 : decode zc_W_addMultiple 62 = .ok (.iinc 7 (-1), 3) := by decide +kernel
theorem zd_W_addMultiple_65 : decode zc_W_addMultiple 65 = .ok (.goto (-58), 3) := by decide +kernel
theorem zd_W_addMultiple_68 : decode zc_W_addMultiple 68 = .ok (.lload 5, 2) := by decide +kernel
theorem zd_W_addMultiple_70 : decode zc_W_addMultiple 70 = .ok (.l2i, 1) := by decide +kernel
theorem zd_W_addMultiple_71 : decode zc_W_addMultiple 71 = .ok (.ireturn, 1) := by decide +kernel
theorem zd_W_leadingZeros_0 : decode zc_W_leadingZeros 0 = .ok (.iconst 0, 1) := by decide +kernel
theorem zd_W_leadingZeros_1 : decode zc_W_leadingZeros 1 = .ok (.istore_n 1, 1) := by decide +kernel
theorem zd_W_leadingZeros_2 : decode zc_W_leadingZeros 2 = .ok (.iload_n 1, 1) := by decide +kernel
theorem zd_W_leadingZeros_3 : decode zc_W_leadingZeros 3 = .ok (.sipush 256, 3) := by decide +kernel
theorem zd_W_leadingZeros_6 : decode zc_W_leadingZeros 6 = .ok (.if_icmp .ge 17, 3) := by decide +kernel
theorem zd_W_leadingZeros_9 : decode zc_W_leadingZeros 9 = .ok (.aload_n 0, 1) := by decide +kernel
theorem zd_W_leadingZeros_10 : decode zc_W_leadingZeros 10 = .ok (.iload_n 1, 1) := by decide +kernel
theorem zd_W_leadingZeros_11 : decode zc_W_leadingZeros 11 = .ok (.invokestatic 29, 3) := by decide +kernel
theorem zd_W_leadingZeros_14 : decode zc_W_leadingZeros 14 = .ok (.ifCond .ne 9, 3) := by decide +kernel
theorem zd_W_leadingZeros_17 : decode zc_W_leadingZeros 17 = .ok (.iinc 1 1, 3) := by decide +kernel
theorem zd_W_leadingZeros_20 : decode zc_W_leadingZeros 20 = .ok (.goto (-18), 3) := by decide +kernel
theorem zd_W_leadingZeros_23 : decode zc_W_leadingZeros 23 = .ok (.iload_n 1, 1) := by decide +kernel
theorem zd_W_leadingZeros_24 : decode zc_W_leadingZeros 24 = .ok (.ireturn, 1) := by decide +kernel
theorem zd_W_hasBit_0 : decode zc_W_hasBit 0 = .ok (.aload_n 0, 1) := by decide +kernel
theorem zd_W_hasBit_1 : decode zc_W_hasBit 1 = .ok (.iload_n 1, 1) := by decide +kernel
theorem zd_W_hasBit_2 : decode zc_W_hasBit 2 = .ok (.iconst 5, 1) := by decide +kernel
theorem zd_W_hasBit_3 : decode zc_W_hasBit 3 = .ok (.iushr, 1) := by decide +kernel
theorem zd_W_hasBit_4 : decode zc_W_hasBit 4 = .ok (.iaload, 1) := by decide +kernel
theorem zd_W_hasBit_5 : decode zc_W_hasBit 5 = .ok (.iload_n 1, 1) := by decide +kernel
theorem zd_W_hasBit_6 : decode zc_W_hasBit 6 = .ok (.bipush 31, 2) := by decide +kernel
theorem zd_W_hasBit_8 : decode zc_W_hasBit 8 = .ok (.iand, 1) := by decide +kernel
theorem zd_W_hasBit_9 : decode zc_W_hasBit 9 = .ok (.ishl, 1) := by decide +kernel
theorem zd_W_hasBit_10 : decode zc_W_hasBit 10 = .ok (.ifCond .ge 7, 3) := by decide +kernel
theorem zd_W_hasBit_13 : decode zc_W_hasBit 13 = .ok (.iconst 1, 1) := by decide +kernel
theorem zd_W_hasBit_14 : decode zc_W_hasBit 14 = .ok (.goto 4, 3) := by decide +kernel
theorem zd_W_hasBit_17 : decode zc_W_hasBit 17 = .ok (.iconst 0, 1) := by decide +kernel
theorem zd_W_hasBit_18 : decode zc_W_hasBit 18 = .ok (.ireturn, 1) := by decide +kernel
theorem zd_W_shiftLeft_0 : decode zc_W_shiftLeft 0 = .ok (.iload_n 1, 1) := by decide +kernel
theorem zd_W_shiftLeft_1 : decode zc_W_shiftLeft 1 = .ok (.iconst 5, 1) := by decide +kernel
theorem zd_W_shiftLeft_2 : decode zc_W_shiftLeft 2 = .ok (.iushr, 1) := by decide +kernel
theorem zd_W_shiftLeft_3 : decode zc_W_shiftLeft 3 = .ok (.istore_n 3, 1) := by decide +kernel
theorem zd_W_shiftLeft_4 : decode zc_W_shiftLeft 4 = .ok (.iconst 0, 1) := by decide +kernel
theorem zd_W_shiftLeft_5 : decode zc_W_shiftLeft 5 = .ok (.istore 4, 2) := by decide +kernel
theorem zd_W_shiftLeft_7 : decode zc_W_shiftLeft 7 = .ok (.iload 4, 2) := by decide +kernel
theorem zd_W_shiftLeft_9 : decode zc_W_shiftLeft 9 = .ok (.bipush 8, 2) := by decide +kernel
theorem zd_W_shiftLeft_11 : decode zc_W_shiftLeft 11 = .ok (.if_icmp .ge 48, 3) := by decide +kernel
theorem zd_W_shiftLeft_14 : decode zc_W_shiftLeft 14 = .ok (.aload_n 0, 1) := by decide +kernel
theorem zd_W_shiftLeft_15 : decode zc_W_shiftLeft 15 = .ok (.iload 4, 2) := by decide +kernel
theorem zd_W_shiftLeft_17 : decode zc_W_shiftLeft 17 = .ok (.iload_n 3, 1) := by decide +kernel
theorem zd_W_shiftLeft_18 : decode zc_W_shiftLeft 18 = .ok (.iadd, 1) := by decide +kernel
theorem zd_W_shiftLeft_19 : decode zc_W_shiftLeft 19 = .ok (.invokestatic 33, 3) := by decide +kernel
theorem zd_W_shiftLeft_22 : decode zc_W_shiftLeft 22 = .ok (.bipush 32, 2) := by decide +kernel
theorem zd_W_shiftLeft_24 : decode zc_W_shiftLeft 24 = .ok (.lshl, 1) := by decide +kernel
theorem zd_W_shiftLeft_25 : decode zc_W_shiftLeft 25 = .ok (.aload_n 0, 1) := by decide +kernel
theorem zd_W_shiftLeft_26 : decode zc_W_shiftLeft 26 = .ok (.iload 4, 2) := by decide +kernel
theorem zd_W_shiftLeft_28 : decode zc_W_shiftLeft 28 = .ok (.iload_n 3, 1) := by decide +kernel
theorem zd_W_shiftLeft_29 : decode zc_W_shiftLeft 29 = .ok (.iadd, 1) := by decide +kernel
theorem zd_W_shiftLeft_30 : decode zc_W_shiftLeft 30 = .ok (.iconst 1, 1) := by decide +kernel
theorem zd_W_shiftLeft_31 : decode zc_W_shiftLeft 31 = .ok (.iadd, 1) := by decide +kernel
theorem zd_W_shiftLeft_32 : decode zc_W_shiftLeft 32 = .ok (.invokestatic 33, 3) := by decide +kernel
theorem zd_W_shiftLeft_35 : decode zc_W_shiftLeft 35 = .ok (.lor, 1) := by decide +kernel
theorem zd_W_shiftLeft_36 : decode zc_W_shiftLeft 36 = .ok (.lstore 5, 2) := by decide +kernel
theorem zd_W_shiftLeft_38 : decode zc_W_shiftLeft 38 = .ok (.aload_n 2, 1) := by decide +kernel
theorem zd_W_shiftLeft_39 : decode zc_W_shiftLeft 39 = .ok (.iload 4, 2) := by decide +kernel
theorem zd_W_shiftLeft_41 : decode zc_W_shiftLeft 41 = .ok (.lload 5, 2) := by decide +kernel
theorem zd_W_shiftLeft_43 : decode zc_W_shiftLeft 43 = .ok (.iload_n 1, 1) := by decide +kernel
theorem zd_W_shiftLeft_44 : decode zc_W_shiftLeft 44 = .ok (.bipush 31, 2) := by decide +kernel
theorem zd_W_shiftLeft_46 : decode zc_W_shiftLeft 46 = .ok (.iand, 1) := by decide +kernel
theorem zd_W_shiftLeft_47 : decode zc_W_shiftLeft 47 = .ok (.lshl, 1) := by decide +kernel
theorem zd_W_shiftLeft_48 : decode zc_W_shiftLeft 48 = .ok (.bipush 32, 2) := by decide +kernel
theorem zd_W_shiftLeft_50 : decode zc_W_shiftLeft 50 = .ok (.lushr, 1) := by decide +kernel
theorem zd_W_shiftLeft_51 : decode zc_W_shiftLeft 51 = .ok (.l2i, 1) := by decide +kernel
theorem zd_W_shiftLeft_52 : decode zc_W_shiftLeft 52 = .ok (.iastore, 1) := by decide +kernel
theorem zd_W_shiftLeft_53 : decode zc_W_shiftLeft 53 = .ok (.iinc 4 1, 3) := by decide +kernel
theorem zd_W_shiftLeft_56 : decode zc_W_shiftLeft 56 = .ok (.goto (-49), 3) := by decide +kernel
theorem zd_W_shiftLeft_59 : decode zc_W_shiftLeft 59 = .ok (.return_, 1) := by decide +kernel
theorem zd_W_wordOrZero_0 : decode zc_W_wordOrZero 0 = .ok (.iload_n 1, 1) := by decide +kernel
theorem zd_W_wordOrZero_1 : decode zc_W_wordOrZero 1 = .ok (.ifCond .lt 20, 3) := by decide +kernel
theorem zd_W_wordOrZero_4 : decode zc_W_wordOrZero 4 = .ok (.iload_n 1, 1) := by decide +kernel
theorem zd_W_wordOrZero_5 : decode zc_W_wordOrZero 5 = .ok (.bipush 8, 2) := by decide +kernel
theorem zd_W_wordOrZero_7 : decode zc_W_wordOrZero 7 = .ok (.if_icmp .ge 14, 3) := by decide +kernel
theorem zd_W_wordOrZero_10 : decode zc_W_wordOrZero 10 = .ok (.aload_n 0, 1) := by decide +kernel
theorem zd_W_wordOrZero_11 : decode zc_W_wordOrZero 11 = .ok (.iload_n 1, 1) := by decide +kernel
theorem zd_W_wordOrZero_12 : decode zc_W_wordOrZero 12 = .ok (.iaload, 1) := by decide +kernel
theorem zd_W_wordOrZero_13 : decode zc_W_wordOrZero 13 = .ok (.i2l, 1) := by decide +kernel
theorem zd_W_wordOrZero_14 : decode zc_W_wordOrZero 14 = .ok (.ldc2_w 15, 3) := by decide +kernel
theorem zd_W_wordOrZero_17 : decode zc_W_wordOrZero 17 = .ok (.land, 1) := by decide +kernel
theorem zd_W_wordOrZero_18 : decode zc_W_wordOrZero 18 = .ok (.goto 4, 3) := by decide +kernel
theorem zd_W_wordOrZero_21 : decode zc_W_wordOrZero 21 = .ok (.lconst 0, 1) := by decide +kernel
theorem zd_W_wordOrZero_22 : decode zc_W_wordOrZero 22 = .ok (.lreturn, 1) := by decide +kernel
theorem zd_W_shiftRight_0 : decode zc_W_shiftRight 0 = .ok (.iload_n 1, 1) := by decide +kernel
theorem zd_W_shiftRight_1 : decode zc_W_shiftRight 1 = .ok (.iconst 5, 1) := by decide +kernel
theorem zd_W_shiftRight_2 : decode zc_W_shiftRight 2 = .ok (.iushr, 1) := by decide +kernel
theorem zd_W_shiftRight_3 : decode zc_W_shiftRight 3 = .ok (.istore_n 3, 1) := by decide +kernel
theorem zd_W_shiftRight_4 : decode zc_W_shiftRight 4 = .ok (.bipush 7, 2) := by decide +kernel
theorem zd_W_shiftRight_6 : decode zc_W_shiftRight 6 = .ok (.istore 4, 2) := by decide +kernel
theorem zd_W_shiftRight_8 : decode zc_W_shiftRight 8 = .ok (.iload 4, 2) := by decide +kernel
theorem zd_W_shiftRight_10 : decode zc_W_shiftRight 10 = .ok (.ifCond .lt 45, 3) := by decide +kernel
theorem zd_W_shiftRight_13 : decode zc_W_shiftRight 13 = .ok (.aload_n 0, 1) := by decide +kernel
theorem zd_W_shiftRight_14 : decode zc_W_shiftRight 14 = .ok (.iload 4, 2) := by decide +kernel
theorem zd_W_shiftRight_16 : decode zc_W_shiftRight 16 = .ok (.iload_n 3, 1) := by decide +kernel
theorem zd_W_shiftRight_17 : decode zc_W_shiftRight 17 = .ok (.isub, 1) := by decide +kernel
theorem zd_W_shiftRight_18 : decode zc_W_shiftRight 18 = .ok (.iconst 1, 1) := by decide +kernel
theorem zd_W_shiftRight_19 : decode zc_W_shiftRight 19 = .ok (.isub, 1) := by decide +kernel
theorem zd_W_shiftRight_20 : decode zc_W_shiftRight 20 = .ok (.invokestatic 33, 3) := by decide +kernel
theorem zd_W_shiftRight_23 : decode zc_W_shiftRight 23 = .ok (.bipush 32, 2) := by decide +kernel
theorem zd_W_shiftRight_25 : decode zc_W_shiftRight 25 = .ok (.lshl, 1) := by decide +kernel
theorem zd_W_shiftRight_26 : decode zc_W_shiftRight 26 = .ok (.aload_n 0, 1) := by decide +kernel
theorem zd_W_shiftRight_27 : decode zc_W_shiftRight 27 = .ok (.iload 4, 2) := by decide +kernel
theorem zd_W_shiftRight_29 : decode zc_W_shiftRight 29 = .ok (.iload_n 3, 1) := by decide +kernel
theorem zd_W_shiftRight_30 : decode zc_W_shiftRight 30 = .ok (.isub, 1) := by decide +kernel
theorem zd_W_shiftRight_31 : decode zc_W_shiftRight 31 = .ok (.invokestatic 33, 3) := by decide +kernel
theorem zd_W_shiftRight_34 : decode zc_W_shiftRight 34 = .ok (.lor, 1) := by decide +kernel
theorem zd_W_shiftRight_35 : decode zc_W_shiftRight 35 = .ok (.lstore 5, 2) := by decide +kernel
theorem zd_W_shiftRight_37 : decode zc_W_shiftRight 37 = .ok (.aload_n 2, 1) := by decide +kernel
theorem zd_W_shiftRight_38 : decode zc_W_shiftRight 38 = .ok (.iload 4, 2) := by decide +kernel
theorem zd_W_shiftRight_40 : decode zc_W_shiftRight 40 = .ok (.lload 5, 2) := by decide +kernel
theorem zd_W_shiftRight_42 : decode zc_W_shiftRight 42 = .ok (.iload_n 1, 1) := by decide +kernel
theorem zd_W_shiftRight_43 : decode zc_W_shiftRight 43 = .ok (.bipush 31, 2) := by decide +kernel
theorem zd_W_shiftRight_45 : decode zc_W_shiftRight 45 = .ok (.iand, 1) := by decide +kernel
theorem zd_W_shiftRight_46 : decode zc_W_shiftRight 46 = .ok (.lushr, 1) := by decide +kernel
theorem zd_W_shiftRight_47 : decode zc_W_shiftRight 47 = .ok (.l2i, 1) := by decide +kernel
theorem zd_W_shiftRight_48 : decode zc_W_shiftRight 48 = .ok (.iastore, 1) := by decide +kernel
theorem zd_W_shiftRight_49 : decode zc_W_shiftRight 49 = .ok (.iinc 4 (-1), 3) := by decide +kernel
theorem zd_W_shiftRight_52 : decode zc_W_shiftRight 52 = .ok (.goto (-44), 3) := by decide +kernel
theorem zd_W_shiftRight_55 : decode zc_W_shiftRight 55 = .ok (.return_, 1) := by decide +kernel
theorem zd_W_copy_0 : decode zc_W_copy 0 = .ok (.aload_n 0, 1) := by decide +kernel
theorem zd_W_copy_1 : decode zc_W_copy 1 = .ok (.iconst 0, 1) := by decide +kernel
theorem zd_W_copy_2 : decode zc_W_copy 2 = .ok (.aload_n 1, 1) := by decide +kernel
theorem zd_W_copy_3 : decode zc_W_copy 3 = .ok (.iconst 0, 1) := by decide +kernel
theorem zd_W_copy_4 : decode zc_W_copy 4 = .ok (.bipush 8, 2) := by decide +kernel
theorem zd_W_copy_6 : decode zc_W_copy 6 = .ok (.invokestatic 9, 3) := by decide +kernel
theorem zd_W_copy_9 : decode zc_W_copy 9 = .ok (.return_, 1) := by decide +kernel
end
section
set_option maxHeartbeats 4000000 in
set_option maxRecDepth 100000 in
/-- KeyMeeting$Words.compare([I[I)I -/
theorem c_Words_compare (l : Launch) (dC : Nat → ClassId) (dI : Nat → Nat → Nat) (cI cAA cB cL : ClassId) (a b : Nat) (ga : Nat → Int32) (gb : Nat → Int32) (sz : Nat) : Met l zy_W_compare zw_W_compare { frames := 0, cells := 0, slots := 0, locals := 0 } (kz_Pc (dC, dI) vwCl [(cI, .int), (cAA, .array .int), (cB, .byte), (cL, .long)] [] [] [.ref a, .ref b] [] [(a, .inl (cI, 8, .inl ga)), (b, .inl (cI, 8, .inl gb))] sz) (va_Qi (fun _ _ => True) (kz_B (dC, dI) vwCl (va_A [] sz) (fun u : Unit => [])) (va_A [] sz)) 0 0 (va_A [] sz) := by
  refine kz_met (Qc := fun A => va_Qi (fun _ _ => True) (kz_B (dC, dI) vwCl A (fun u : Unit => [])) A) (cc := zc_W_compare) (maxL := 3) (ret := some .int) (by decide) rfl (Nat.le_of_ble_eq_true rfl) ?_
  intro p e s m below meth c A ls F hA hdy hK hro hZ hN hl
  obtain ⟨hx, hb, hml, hr, hown, hlocks, hts, hnm⟩ := id F
  have hl : lv_has ls 3 [(0, .ref a), (1, .ref b)] := hl
  refine lv_iconst (v := (nI (0))) hx hb zd_W_compare_0 (by decide) ?_
  refine lv_istore_n (lv' := [(2, .int (nI (0))), (0, .ref a), (1, .ref b)]) hx hb zd_W_compare_1 rfl hl (by decide) rfl (fun ls hl => ?_)
  have lp2 : ∀ (n2 k2 : Nat) (H : Heap) (locs : List Loc) (ls : Array Slot), k2 ≤ 8 → 8 - k2 < n2 → kz_dy (dC, dI) vwCl A s.heap H locs [] → lv_has ls 3 [(2, .int (nI (k2))), (0, .ref a), (1, .ref b)] → W p l e { frames := 0, cells := 0, slots := 0, locals := 0 } s m ([.ref a, .ref b] : List Value).toArray below meth c H locs 0 0 (MQ below (va_Qi (fun _ _ => True) (kz_B (dC, dI) vwCl A (fun u : Unit => [])) A) ([.ref a, .ref b] : List Value).toArray s 0 0 A) (F0 m 2 ls []) := by
    intro n2
    induction n2 with
    | zero => intro k2; intros; omega
    | succ n2 ih2 =>
      intro k2 H locs ls hi2 hn2 hdy hl
      refine lv_iload_n hx hb zd_W_compare_2 rfl (lv_at hl 0 rfl) ?_
      refine lv_bipush (v := (nI (8))) hx hb zd_W_compare_3 (by decide) ?_
      refine lv_icmp_ge (tgt := 49) hx hb zd_W_compare_5 (by decide) (fun hc5 => ?_) (fun hc5 => ?_)
      · have hc5 : 8 ≤ k2 := (nI_leI (by omega) (by omega)).mp hc5
        refine lv_iconst (v := (nI (0))) hx hb zd_W_compare_49 (by decide) ?_
        exact kz_iret F () hdy (trivial) zd_W_compare_50
      · have hc5 : ¬ 8 ≤ k2 := fun h9 => hc5 ((nI_leI (by omega) (by omega)).mpr h9)
        refine lv_aload_n hx hb zd_W_compare_8 rfl (lv_at hl 1 rfl) ?_
        refine lv_iload_n hx hb zd_W_compare_9 rfl (lv_at hl 0 rfl) ?_
        refine va_iald hx hb hK (hro.at hdy.2.2) 0 0 rfl rfl (vp_in_nI (by omega) (by omega)) zd_W_compare_10 ?_
        refine lv_topi (fun x1 _ => ?_)
        refine lv_aload_n hx hb zd_W_compare_11 rfl (lv_at hl 2 rfl) ?_
        refine lv_iload_n hx hb zd_W_compare_12 rfl (lv_at hl 0 rfl) ?_
        refine va_iald hx hb hK (hro.at hdy.2.2) 1 0 rfl rfl (vp_in_nI (by omega) (by omega)) zd_W_compare_13 ?_
        refine lv_topi (fun x2 _ => ?_)
        refine lv_icmp_eq (tgt := 43) hx hb zd_W_compare_14 (by decide) (fun hc14 => ?_) (fun hc14 => ?_)
        · refine lv_iinc (v := (nI (k2 + 1))) (lv' := [(2, .int (nI (k2 + 1))), (0, .ref a), (1, .ref b)]) hx hb zd_W_compare_43 hl (k := 0) rfl (nI_1 _) (by decide) rfl (fun ls hl => ?_)
          refine lv_goto (tgt := 2) hx hb zd_W_compare_46 (by decide) ?_
          exact ih2 (k2 + 1) _ _ _ (by omega) (by omega) hdy (lv_sub hl [0, 1, 2] rfl)
        · refine lv_aload_n hx hb zd_W_compare_17 rfl (lv_at hl 1 rfl) ?_
          refine lv_iload_n hx hb zd_W_compare_18 rfl (lv_at hl 0 rfl) ?_
          refine va_iald hx hb hK (hro.at hdy.2.2) 0 0 rfl rfl (vp_in_nI (by omega) (by omega)) zd_W_compare_19 ?_
          refine lv_topi (fun x3 _ => ?_)
          refine lv_i2l hx hb zd_W_compare_20 rfl ?_
          refine lv_topl (fun y4 _ => ?_)
          refine lv_ldc2 (v := (4294967295)) hx hb hown (hts _ (kz_c mw_180)) zd_W_compare_21 ?_
          refine kz_mask hx hb zd_W_compare_24 (fun y5 hy5 => ?_)
          refine lv_aload_n hx hb zd_W_compare_25 rfl (lv_at hl 2 rfl) ?_
          refine lv_iload_n hx hb zd_W_compare_26 rfl (lv_at hl 0 rfl) ?_
          refine va_iald hx hb hK (hro.at hdy.2.2) 1 0 rfl rfl (vp_in_nI (by omega) (by omega)) zd_W_compare_27 ?_
          refine lv_topi (fun x6 _ => ?_)
          refine lv_i2l hx hb zd_W_compare_28 rfl ?_
          refine lv_topl (fun y7 _ => ?_)
          refine lv_ldc2 (v := (4294967295)) hx hb hown (hts _ (kz_c mw_180)) zd_W_compare_29 ?_
          refine kz_mask hx hb zd_W_compare_32 (fun y8 hy8 => ?_)
          refine kz_lge (tgt := 41) hx hb zd_W_compare_33 zd_W_compare_34 (by decide) (fun hc34 => ?_) (fun hc34 => ?_)
          · refine lv_iconst (v := (nI (1))) hx hb zd_W_compare_41 (by decide) ?_
            exact kz_iret F () hdy (trivial) zd_W_compare_42
          · refine lv_iconst (v := (-1)) hx hb zd_W_compare_37 (by decide) ?_
            refine lv_goto (tgt := 42) hx hb zd_W_compare_38 (by decide) ?_
            exact kz_iret F () hdy (trivial) zd_W_compare_42
  exact lp2 (8 - 0 + 1) 0 _ _ _ (by omega) (by omega) hdy (lv_sub hl [0, 1, 2] rfl)

set_option maxHeartbeats 4000000 in
set_option maxRecDepth 100000 in
/-- KeyMeeting$Words.atLeast([II)Z -/
theorem c_Words_atLeast (l : Launch) (dC : Nat → ClassId) (dI : Nat → Nat → Nat) (cI cAA cB cL : ClassId) (a : Nat) (ga : Nat → Int32) (v : Int32) (sz : Nat) : Met l zy_W_atLeast zw_W_atLeast { frames := 0, cells := 0, slots := 0, locals := 0 } (kz_Pc (dC, dI) vwCl [(cI, .int), (cAA, .array .int), (cB, .byte), (cL, .long)] [] [] [.ref a, .int v] [] [(a, .inl (cI, 8, .inl ga))] sz) (va_Qi (fun (r : Int32) (u : Unit) => (r = 0 ∨ r = 1) ∧ True) (kz_B (dC, dI) vwCl (va_A [] sz) (fun u : Unit => [])) (va_A [] sz)) 0 0 (va_A [] sz) := by
  refine kz_met (Qc := fun A => va_Qi (fun (r : Int32) (u : Unit) => (r = 0 ∨ r = 1) ∧ True) (kz_B (dC, dI) vwCl A (fun u : Unit => [])) A) (cc := zc_W_atLeast) (maxL := 3) (ret := some .boolean) (by decide) rfl (Nat.le_of_ble_eq_true rfl) ?_
  intro p e s m below meth c A ls F hA hdy hK hro hZ hN hl
  obtain ⟨hx, hb, hml, hr, hown, hlocks, hts, hnm⟩ := id F
  have hl : lv_has ls 3 [(0, .ref a), (1, .int v)] := hl
  refine lv_iconst (v := (nI (0))) hx hb zd_W_atLeast_0 (by decide) ?_
  refine lv_istore_n (lv' := [(2, .int (nI (0))), (0, .ref a), (1, .int v)]) hx hb zd_W_atLeast_1 rfl hl (by decide) rfl (fun ls hl => ?_)
  have lp2 : ∀ (n2 k2 : Nat) (H : Heap) (locs : List Loc) (ls : Array Slot), k2 ≤ 7 → 7 - k2 < n2 → kz_dy (dC, dI) vwCl A s.heap H locs [] → lv_has ls 3 [(2, .int (nI (k2))), (0, .ref a), (1, .int v)] → W p l e { frames := 0, cells := 0, slots := 0, locals := 0 } s m ([.ref a, .int v] : List Value).toArray below meth c H locs 0 0 (MQ below (va_Qi (fun (r : Int32) (u : Unit) => (r = 0 ∨ r = 1) ∧ True) (kz_B (dC, dI) vwCl A (fun u : Unit => [])) A) ([.ref a, .int v] : List Value).toArray s 0 0 A) (F0 m 2 ls []) := by
    intro n2
    induction n2 with
    | zero => intro k2; intros; omega
    | succ n2 ih2 =>
      intro k2 H locs ls hi2 hn2 hdy hl
      refine lv_iload_n hx hb zd_W_atLeast_2 rfl (lv_at hl 0 rfl) ?_
      refine lv_bipush (v := (nI (7))) hx hb zd_W_atLeast_3 (by decide) ?_
      refine lv_icmp_ge (tgt := 22) hx hb zd_W_atLeast_5 (by decide) (fun hc5 => ?_) (fun hc5 => ?_)
      · have hc5 : 7 ≤ k2 := (nI_leI (by omega) (by omega)).mp hc5
        refine lv_aload_n hx hb zd_W_atLeast_22 rfl (lv_at hl 1 rfl) ?_
        refine lv_bipush (v := (nI (7))) hx hb zd_W_atLeast_23 (by decide) ?_
        refine va_iald hx hb hK (hro.at hdy.2.2) 0 0 rfl rfl (vp_in_nI (by omega) (by omega)) zd_W_atLeast_25 ?_
        refine lv_topi (fun x1 _ => ?_)
        refine lv_i2l hx hb zd_W_atLeast_26 rfl ?_
        refine lv_topl (fun y2 _ => ?_)
        refine lv_ldc2 (v := (4294967295)) hx hb hown (hts _ (kz_c mw_180)) zd_W_atLeast_27 ?_
        refine kz_mask hx hb zd_W_atLeast_30 (fun y3 hy3 => ?_)
        refine lv_iload_n hx hb zd_W_atLeast_31 rfl (lv_at hl 2 rfl) ?_
        refine lv_i2l hx hb zd_W_atLeast_32 rfl ?_
        refine lv_topl (fun y4 _ => ?_)
        refine kz_llt (tgt := 41) hx hb zd_W_atLeast_33 zd_W_atLeast_34 (by decide) (fun hc34 => ?_) (fun hc34 => ?_)
        · refine lv_iconst (v := (nI (0))) hx hb zd_W_atLeast_41 (by decide) ?_
          exact kz_zret F () hdy (by first | exact Or.inl rfl | exact Or.inr rfl | assumption) (⟨by first | exact Or.inl rfl | exact Or.inr rfl | assumption, trivial⟩) zd_W_atLeast_42
        · refine lv_iconst (v := (nI (1))) hx hb zd_W_atLeast_37 (by decide) ?_
          refine lv_goto (tgt := 42) hx hb zd_W_atLeast_38 (by decide) ?_
          exact kz_zret F () hdy (by first | exact Or.inl rfl | exact Or.inr rfl | assumption) (⟨by first | exact Or.inl rfl | exact Or.inr rfl | assumption, trivial⟩) zd_W_atLeast_42
      · have hc5 : ¬ 7 ≤ k2 := fun h9 => hc5 ((nI_leI (by omega) (by omega)).mpr h9)
        refine lv_aload_n hx hb zd_W_atLeast_8 rfl (lv_at hl 1 rfl) ?_
        refine lv_iload_n hx hb zd_W_atLeast_9 rfl (lv_at hl 0 rfl) ?_
        refine va_iald hx hb hK (hro.at hdy.2.2) 0 0 rfl rfl (vp_in_nI (by omega) (by omega)) zd_W_atLeast_10 ?_
        refine lv_topi (fun x5 _ => ?_)
        refine lv_if_eq (tgt := 16) hx hb zd_W_atLeast_11 (by decide) (fun hc11 => ?_) (fun hc11 => ?_)
        · refine lv_iinc (v := (nI (k2 + 1))) (lv' := [(2, .int (nI (k2 + 1))), (0, .ref a), (1, .int v)]) hx hb zd_W_atLeast_16 hl (k := 0) rfl (nI_1 _) (by decide) rfl (fun ls hl => ?_)
          refine lv_goto (tgt := 2) hx hb zd_W_atLeast_19 (by decide) ?_
          exact ih2 (k2 + 1) _ _ _ (by omega) (by omega) hdy (lv_sub hl [0, 1, 2] rfl)
        · refine lv_iconst (v := (nI (1))) hx hb zd_W_atLeast_14 (by decide) ?_
          exact kz_zret F () hdy (by first | exact Or.inl rfl | exact Or.inr rfl | assumption) (⟨by first | exact Or.inl rfl | exact Or.inr rfl | assumption, trivial⟩) zd_W_atLeast_15
  exact lp2 (7 - 0 + 1) 0 _ _ _ (by omega) (by omega) hdy (lv_sub hl [0, 1, 2] rfl)

set_option maxHeartbeats 4000000 in
set_option maxRecDepth 100000 in
/-- KeyMeeting$Words.subtract([II[I)V -/
theorem c_Words_subtract (l : Launch) (dC : Nat → ClassId) (dI : Nat → Nat → Nat) (cI cAA cB cL : ClassId) (o a : Nat) (go : Nat → Int32) (ga : Nat → Int32) (v : Int32) (sz : Nat) : Met l zy_W_subtract zw_W_subtract { frames := 0, cells := 0, slots := 0, locals := 0 } (kz_Pc (dC, dI) vwCl [(cI, .int), (cAA, .array .int), (cB, .byte), (cL, .long)] [] [] [.ref a, .int v, .ref o] [(o, .inl (cI, 8, .inl go))] [(a, .inl (cI, 8, .inl ga))] sz) (va_Qv (fun _ => True) (kz_B (dC, dI) vwCl (va_A [(o, .inl (cI, 8, .inl go))] sz) (fun u : (Nat → Int32) => [(o, .inl (cI, 8, .inl u))])) (va_A [(o, .inl (cI, 8, .inl go))] sz)) 0 0 (va_A [(o, .inl (cI, 8, .inl go))] sz) := by
  refine kz_met (Qc := fun A => va_Qv (fun _ => True) (kz_B (dC, dI) vwCl A (fun u : (Nat → Int32) => [(o, .inl (cI, 8, .inl u))])) A) (cc := zc_W_subtract) (maxL := 8) (ret := none) (by decide) rfl (Nat.le_of_ble_eq_true rfl) ?_
  intro p e s m below meth c A ls F hA hdy hK hro hZ hN hl
  obtain ⟨hx, hb, hml, hr, hown, hlocks, hts, hnm⟩ := id F
  have hl : lv_has ls 8 [(0, .ref a), (1, .int v), (2, .ref o)] := hl
  refine lv_iload_n hx hb zd_W_subtract_0 rfl (lv_at hl 1 rfl) ?_
  refine lv_i2l hx hb zd_W_subtract_1 rfl ?_
  refine lv_topl (fun y1 _ => ?_)
  refine lv_lstore_n (lv' := [(3, .long y1), (0, .ref a), (1, .int v), (2, .ref o)]) hx hb zd_W_subtract_2 rfl hl (by decide) rfl (fun ls hl => ?_)
  refine lv_bipush (v := (nI (7))) hx hb zd_W_subtract_3 (by decide) ?_
  refine lv_istore (lv' := [(5, .int (nI (7))), (3, .long y1), (0, .ref a), (1, .int v), (2, .ref o)]) hx hb zd_W_subtract_5 hl (by decide) rfl (fun ls hl => ?_)
  have lp7 : ∀ (k7 : Nat) (y2 : Int64) (f3 : Nat → Int32) (H : Heap) (locs : List Loc) (ls : Array Slot), k7 ≤ 8 → kz_dy (dC, dI) vwCl A s.heap H locs [(o, .inl (cI, 8, .inl f3))] → lv_has ls 8 [(5, .int (nI k7 - 1)), (3, .long y2), (0, .ref a), (1, .int v), (2, .ref o)] → W p l e { frames := 0, cells := 0, slots := 0, locals := 0 } s m ([.ref a, .int v, .ref o] : List Value).toArray below meth c H locs 0 0 (MQ below (va_Qv (fun _ => True) (kz_B (dC, dI) vwCl A (fun u : (Nat → Int32) => [(o, .inl (cI, 8, .inl u))])) A) ([.ref a, .int v, .ref o] : List Value).toArray s 0 0 A) (F0 m 7 ls []) := by
    intro k7
    induction k7 with
    | zero =>
      intro y2 f3 H locs ls hi7 hdy hl
      refine lv_iload hx hb zd_W_subtract_7 (lv_at hl 0 rfl) ?_
      refine lv_if_lt (tgt := 51) hx hb zd_W_subtract_9 (by decide) (fun hc9 => ?_) (fun hc9 => ?_)
      · exact kz_vret F (f3) hdy (trivial) zd_W_subtract_51
      · exact absurd (by decide) hc9
    | succ k7 ih7 =>
      intro y2 f3 H locs ls hi7 hdy hl
      rw [nI_pred] at hl
      refine lv_iload hx hb zd_W_subtract_7 (lv_at hl 0 rfl) ?_
      refine lv_if_lt (tgt := 51) hx hb zd_W_subtract_9 (by decide) (fun hc9 => ?_) (fun hc9 => ?_)
      · exact absurd hc9 (nI_pos (by omega))
      · refine lv_aload_n hx hb zd_W_subtract_12 rfl (lv_at hl 2 rfl) ?_
        refine lv_iload hx hb zd_W_subtract_13 (lv_at hl 0 rfl) ?_
        refine va_iald hx hb hK (hro.at hdy.2.2) 0 0 rfl rfl (vp_in_nI (by omega) (by omega)) zd_W_subtract_15 ?_
        refine lv_topi (fun x4 _ => ?_)
        refine lv_i2l hx hb zd_W_subtract_16 rfl ?_
        refine lv_topl (fun y5 _ => ?_)
        refine lv_ldc2 (v := (4294967295)) hx hb hown (hts _ (kz_c mw_180)) zd_W_subtract_17 ?_
        refine kz_mask hx hb zd_W_subtract_20 (fun y6 hy6 => ?_)
        refine lv_lload_n hx hb zd_W_subtract_21 rfl (lv_at hl 1 rfl) ?_
        refine lv_lsub hx hb zd_W_subtract_22 ?_
        refine lv_topl (fun y7 _ => ?_)
        refine lv_lstore (lv' := [(6, .long y7), (5, .int (nI (k7))), (3, .long y2), (0, .ref a), (1, .int v), (2, .ref o)]) hx hb zd_W_subtract_23 hl (by decide) rfl (fun ls hl => ?_)
        refine lv_aload_n hx hb zd_W_subtract_25 rfl (lv_at hl 5 rfl) ?_
        refine lv_iload hx hb zd_W_subtract_26 (lv_at hl 1 rfl) ?_
        refine lv_lload hx hb zd_W_subtract_28 (lv_at hl 0 rfl) ?_
        refine lv_l2i hx hb zd_W_subtract_30 rfl ?_
        refine lv_topi (fun x8 _ => ?_)
        refine va_iast hx hb hK hdy.1 hdy.2.1 hdy.2.2 0 0 rfl rfl (vp_in_nI (by omega) (by omega)) zd_W_subtract_31 (fun H locs hP hD hS => ?_)
        obtain ⟨f9, hdy⟩ : ∃ f9 : Nat → Int32, kz_dy (dC, dI) vwCl A s.heap H locs [(o, .inl (cI, 8, .inl f9))] := ⟨_, hP, hD, hS⟩
        refine lv_lload hx hb zd_W_subtract_32 (lv_at hl 0 rfl) ?_
        refine lv_lconst (v := 0) hx hb zd_W_subtract_34 (by decide) ?_
        refine kz_lge (tgt := 43) hx hb zd_W_subtract_35 zd_W_subtract_36 (by decide) (fun hc36 => ?_) (fun hc36 => ?_)
        · refine lv_lconst (v := 0) hx hb zd_W_subtract_43 (by decide) ?_
          refine lv_lstore_n (lv' := [(3, .long 0), (6, .long y7), (5, .int (nI (k7))), (0, .ref a), (1, .int v), (2, .ref o)]) hx hb zd_W_subtract_44 rfl hl (by decide) rfl (fun ls hl => ?_)
          refine lv_iinc (v := (nI (k7) - 1)) (lv' := [(5, .int (nI (k7) - 1)), (3, .long 0), (6, .long y7), (0, .ref a), (1, .int v), (2, .ref o)]) hx hb zd_W_subtract_45 hl (k := 2) rfl (kz_m1 _) (by decide) rfl (fun ls hl => ?_)
          refine lv_goto (tgt := 7) hx hb zd_W_subtract_48 (by decide) ?_
          exact ih7 (0) f9 _ _ _ (by omega) hdy (lv_sub hl [0, 1, 3, 4, 5] rfl)
        · refine lv_lconst (v := 1) hx hb zd_W_subtract_39 (by decide) ?_
          refine lv_goto (tgt := 44) hx hb zd_W_subtract_40 (by decide) ?_
          refine lv_lstore_n (lv' := [(3, .long 1), (6, .long y7), (5, .int (nI (k7))), (0, .ref a), (1, .int v), (2, .ref o)]) hx hb zd_W_subtract_44 rfl hl (by decide) rfl (fun ls hl => ?_)
          refine lv_iinc (v := (nI (k7) - 1)) (lv' := [(5, .int (nI (k7) - 1)), (3, .long 1), (6, .long y7), (0, .ref a), (1, .int v), (2, .ref o)]) hx hb zd_W_subtract_45 hl (k := 2) rfl (kz_m1 _) (by decide) rfl (fun ls hl => ?_)
          refine lv_goto (tgt := 7) hx hb zd_W_subtract_48 (by decide) ?_
          exact ih7 (1) f9 _ _ _ (by omega) hdy (lv_sub hl [0, 1, 3, 4, 5] rfl)
  exact lp7 8 (y1) go _ _ _ (by omega) hdy (lv_sub hl [0, 1, 2, 3, 4] rfl)

set_option maxHeartbeats 4000000 in
set_option maxRecDepth 100000 in
/-- KeyMeeting$Words.subtract([II[I)V -/
theorem c_Words_subtract1 (l : Launch) (dC : Nat → ClassId) (dI : Nat → Nat → Nat) (cI cAA cB cL : ClassId) (o : Nat) (go : Nat → Int32) (v : Int32) (sz : Nat) : Met l zy_W_subtract zw_W_subtract { frames := 0, cells := 0, slots := 0, locals := 0 } (kz_Pc (dC, dI) vwCl [(cI, .int), (cAA, .array .int), (cB, .byte), (cL, .long)] [] [] [.ref o, .int v, .ref o] [(o, .inl (cI, 8, .inl go))] [] sz) (va_Qv (fun _ => True) (kz_B (dC, dI) vwCl (va_A [(o, .inl (cI, 8, .inl go))] sz) (fun u : (Nat → Int32) => [(o, .inl (cI, 8, .inl u))])) (va_A [(o, .inl (cI, 8, .inl go))] sz)) 0 0 (va_A [(o, .inl (cI, 8, .inl go))] sz) := by
  refine kz_met (Qc := fun A => va_Qv (fun _ => True) (kz_B (dC, dI) vwCl A (fun u : (Nat → Int32) => [(o, .inl (cI, 8, .inl u))])) A) (cc := zc_W_subtract) (maxL := 8) (ret := none) (by decide) rfl (Nat.le_of_ble_eq_true rfl) ?_
  intro p e s m below meth c A ls F hA hdy hK hro hZ hN hl
  obtain ⟨hx, hb, hml, hr, hown, hlocks, hts, hnm⟩ := id F
  have hl : lv_has ls 8 [(0, .ref o), (1, .int v), (2, .ref o)] := hl
  refine lv_iload_n hx hb zd_W_subtract_0 rfl (lv_at hl 1 rfl) ?_
  refine lv_i2l hx hb zd_W_subtract_1 rfl ?_
  refine lv_topl (fun y1 _ => ?_)
  refine lv_lstore_n (lv' := [(3, .long y1), (0, .ref o), (1, .int v), (2, .ref o)]) hx hb zd_W_subtract_2 rfl hl (by decide) rfl (fun ls hl => ?_)
  refine lv_bipush (v := (nI (7))) hx hb zd_W_subtract_3 (by decide) ?_
  refine lv_istore (lv' := [(5, .int (nI (7))), (3, .long y1), (0, .ref o), (1, .int v), (2, .ref o)]) hx hb zd_W_subtract_5 hl (by decide) rfl (fun ls hl => ?_)
  have lp7 : ∀ (k7 : Nat) (y2 : Int64) (f3 : Nat → Int32) (H : Heap) (locs : List Loc) (ls : Array Slot), k7 ≤ 8 → kz_dy (dC, dI) vwCl A s.heap H locs [(o, .inl (cI, 8, .inl f3))] → lv_has ls 8 [(5, .int (nI k7 - 1)), (3, .long y2), (0, .ref o), (1, .int v), (2, .ref o)] → W p l e { frames := 0, cells := 0, slots := 0, locals := 0 } s m ([.ref o, .int v, .ref o] : List Value).toArray below meth c H locs 0 0 (MQ below (va_Qv (fun _ => True) (kz_B (dC, dI) vwCl A (fun u : (Nat → Int32) => [(o, .inl (cI, 8, .inl u))])) A) ([.ref o, .int v, .ref o] : List Value).toArray s 0 0 A) (F0 m 7 ls []) := by
    intro k7
    induction k7 with
    | zero =>
      intro y2 f3 H locs ls hi7 hdy hl
      refine lv_iload hx hb zd_W_subtract_7 (lv_at hl 0 rfl) ?_
      refine lv_if_lt (tgt := 51) hx hb zd_W_subtract_9 (by decide) (fun hc9 => ?_) (fun hc9 => ?_)
      · exact kz_vret F (f3) hdy (trivial) zd_W_subtract_51
      · exact absurd (by decide) hc9
    | succ k7 ih7 =>
      intro y2 f3 H locs ls hi7 hdy hl
      rw [nI_pred] at hl
      refine lv_iload hx hb zd_W_subtract_7 (lv_at hl 0 rfl) ?_
      refine lv_if_lt (tgt := 51) hx hb zd_W_subtract_9 (by decide) (fun hc9 => ?_) (fun hc9 => ?_)
      · exact absurd hc9 (nI_pos (by omega))
      · refine lv_aload_n hx hb zd_W_subtract_12 rfl (lv_at hl 2 rfl) ?_
        refine lv_iload hx hb zd_W_subtract_13 (lv_at hl 0 rfl) ?_
        refine va_iald hx hb hK hdy.1 0 0 rfl rfl (vp_in_nI (by omega) (by omega)) zd_W_subtract_15 ?_
        refine lv_topi (fun x4 _ => ?_)
        refine lv_i2l hx hb zd_W_subtract_16 rfl ?_
        refine lv_topl (fun y5 _ => ?_)
        refine lv_ldc2 (v := (4294967295)) hx hb hown (hts _ (kz_c mw_180)) zd_W_subtract_17 ?_
        refine kz_mask hx hb zd_W_subtract_20 (fun y6 hy6 => ?_)
        refine lv_lload_n hx hb zd_W_subtract_21 rfl (lv_at hl 1 rfl) ?_
        refine lv_lsub hx hb zd_W_subtract_22 ?_
        refine lv_topl (fun y7 _ => ?_)
        refine lv_lstore (lv' := [(6, .long y7), (5, .int (nI (k7))), (3, .long y2), (0, .ref o), (1, .int v), (2, .ref o)]) hx hb zd_W_subtract_23 hl (by decide) rfl (fun ls hl => ?_)
        refine lv_aload_n hx hb zd_W_subtract_25 rfl (lv_at hl 5 rfl) ?_
        refine lv_iload hx hb zd_W_subtract_26 (lv_at hl 1 rfl) ?_
        refine lv_lload hx hb zd_W_subtract_28 (lv_at hl 0 rfl) ?_
        refine lv_l2i hx hb zd_W_subtract_30 rfl ?_
        refine lv_topi (fun x8 _ => ?_)
        refine va_iast hx hb hK hdy.1 hdy.2.1 hdy.2.2 0 0 rfl rfl (vp_in_nI (by omega) (by omega)) zd_W_subtract_31 (fun H locs hP hD hS => ?_)
        obtain ⟨f9, hdy⟩ : ∃ f9 : Nat → Int32, kz_dy (dC, dI) vwCl A s.heap H locs [(o, .inl (cI, 8, .inl f9))] := ⟨_, hP, hD, hS⟩
        refine lv_lload hx hb zd_W_subtract_32 (lv_at hl 0 rfl) ?_
        refine lv_lconst (v := 0) hx hb zd_W_subtract_34 (by decide) ?_
        refine kz_lge (tgt := 43) hx hb zd_W_subtract_35 zd_W_subtract_36 (by decide) (fun hc36 => ?_) (fun hc36 => ?_)
        · refine lv_lconst (v := 0) hx hb zd_W_subtract_43 (by decide) ?_
          refine lv_lstore_n (lv' := [(3, .long 0), (6, .long y7), (5, .int (nI (k7))), (0, .ref o), (1, .int v), (2, .ref o)]) hx hb zd_W_subtract_44 rfl hl (by decide) rfl (fun ls hl => ?_)
          refine lv_iinc (v := (nI (k7) - 1)) (lv' := [(5, .int (nI (k7) - 1)), (3, .long 0), (6, .long y7), (0, .ref o), (1, .int v), (2, .ref o)]) hx hb zd_W_subtract_45 hl (k := 2) rfl (kz_m1 _) (by decide) rfl (fun ls hl => ?_)
          refine lv_goto (tgt := 7) hx hb zd_W_subtract_48 (by decide) ?_
          exact ih7 (0) f9 _ _ _ (by omega) hdy (lv_sub hl [0, 1, 3, 4, 5] rfl)
        · refine lv_lconst (v := 1) hx hb zd_W_subtract_39 (by decide) ?_
          refine lv_goto (tgt := 44) hx hb zd_W_subtract_40 (by decide) ?_
          refine lv_lstore_n (lv' := [(3, .long 1), (6, .long y7), (5, .int (nI (k7))), (0, .ref o), (1, .int v), (2, .ref o)]) hx hb zd_W_subtract_44 rfl hl (by decide) rfl (fun ls hl => ?_)
          refine lv_iinc (v := (nI (k7) - 1)) (lv' := [(5, .int (nI (k7) - 1)), (3, .long 1), (6, .long y7), (0, .ref o), (1, .int v), (2, .ref o)]) hx hb zd_W_subtract_45 hl (k := 2) rfl (kz_m1 _) (by decide) rfl (fun ls hl => ?_)
          refine lv_goto (tgt := 7) hx hb zd_W_subtract_48 (by decide) ?_
          exact ih7 (1) f9 _ _ _ (by omega) hdy (lv_sub hl [0, 1, 3, 4, 5] rfl)
  exact lp7 8 (y1) go _ _ _ (by omega) hdy (lv_sub hl [0, 1, 2, 3, 4] rfl)

set_option maxHeartbeats 4000000 in
set_option maxRecDepth 100000 in
/-- KeyMeeting$Words.addMultiple(J[I[II)I -/
theorem c_Words_addMultiple (l : Launch) (dC : Nat → ClassId) (dI : Nat → Nat → Nat) (cI cAA cB cL : ClassId) (w b : Nat) (gw : Nat → Int32) (gb : Nat → Int32) (v : Int64) (at_ : Nat) (sz : Nat) (hat : at_ < 8) : Met l zy_W_addMultiple zw_W_addMultiple { frames := 0, cells := 0, slots := 0, locals := 0 } (kz_Pc (dC, dI) vwCl [(cI, .int), (cAA, .array .int), (cB, .byte), (cL, .long)] [] [] [.long v, .ref b, .ref w, .int (nI (at_))] [(w, .inl (cI, 16, .inl gw))] [(b, .inl (cI, 8, .inl gb))] sz) (va_Qi (fun _ _ => True) (kz_B (dC, dI) vwCl (va_A [(w, .inl (cI, 16, .inl gw))] sz) (fun u : (Nat → Int32) => [(w, .inl (cI, 16, .inl u))])) (va_A [(w, .inl (cI, 16, .inl gw))] sz)) 0 0 (va_A [(w, .inl (cI, 16, .inl gw))] sz) := by
  refine kz_met (Qc := fun A => va_Qi (fun _ _ => True) (kz_B (dC, dI) vwCl A (fun u : (Nat → Int32) => [(w, .inl (cI, 16, .inl u))])) A) (cc := zc_W_addMultiple) (maxL := 10) (ret := some .int) (by decide) rfl (Nat.le_of_ble_eq_true rfl) ?_
  intro p e s m below meth c A ls F hA hdy hK hro hZ hN hl
  obtain ⟨hx, hb, hml, hr, hown, hlocks, hts, hnm⟩ := id F
  have hl : lv_has ls 10 [(0, .long v), (2, .ref b), (3, .ref w), (4, .int (nI (at_)))] := hl
  refine lv_lconst (v := 0) hx hb zd_W_addMultiple_0 (by decide) ?_
  refine lv_lstore (lv' := [(5, .long 0), (0, .long v), (2, .ref b), (3, .ref w), (4, .int (nI (at_)))]) hx hb zd_W_addMultiple_1 hl (by decide) rfl (fun ls hl => ?_)
  refine lv_bipush (v := (nI (7))) hx hb zd_W_addMultiple_3 (by decide) ?_
  refine lv_istore (lv' := [(7, .int (nI (7))), (5, .long 0), (0, .long v), (2, .ref b), (3, .ref w), (4, .int (nI (at_)))]) hx hb zd_W_addMultiple_5 hl (by decide) rfl (fun ls hl => ?_)
  have lp7 : ∀ (k7 : Nat) (y1 : Int64) (f2 : Nat → Int32) (H : Heap) (locs : List Loc) (ls : Array Slot), k7 ≤ 8 → kz_dy (dC, dI) vwCl A s.heap H locs [(w, .inl (cI, 16, .inl f2))] → lv_has ls 10 [(7, .int (nI k7 - 1)), (5, .long y1), (0, .long v), (2, .ref b), (3, .ref w), (4, .int (nI (at_)))] → W p l e { frames := 0, cells := 0, slots := 0, locals := 0 } s m ([.long v, .ref b, .ref w, .int (nI (at_))] : List Value).toArray below meth c H locs 0 0 (MQ below (va_Qi (fun _ _ => True) (kz_B (dC, dI) vwCl A (fun u : (Nat → Int32) => [(w, .inl (cI, 16, .inl u))])) A) ([.long v, .ref b, .ref w, .int (nI (at_))] : List Value).toArray s 0 0 A) (F0 m 7 ls []) := by
    intro k7
    induction k7 with
    | zero =>
      intro y1 f2 H locs ls hi7 hdy hl
      refine lv_iload hx hb zd_W_addMultiple_7 (lv_at hl 0 rfl) ?_
      refine lv_if_lt (tgt := 68) hx hb zd_W_addMultiple_9 (by decide) (fun hc9 => ?_) (fun hc9 => ?_)
      · refine lv_lload hx hb zd_W_addMultiple_68 (lv_at hl 1 rfl) ?_
        refine lv_l2i hx hb zd_W_addMultiple_70 rfl ?_
        refine lv_topi (fun x3 _ => ?_)
        exact kz_iret F (f2) hdy (trivial) zd_W_addMultiple_71
      · exact absurd (by decide) hc9
    | succ k7 ih7 =>
      intro y1 f2 H locs ls hi7 hdy hl
      rw [nI_pred] at hl
      refine lv_iload hx hb zd_W_addMultiple_7 (lv_at hl 0 rfl) ?_
      refine lv_if_lt (tgt := 68) hx hb zd_W_addMultiple_9 (by decide) (fun hc9 => ?_) (fun hc9 => ?_)
      · exact absurd hc9 (nI_pos (by omega))
      · refine lv_lload_n hx hb zd_W_addMultiple_12 rfl (lv_at hl 2 rfl) ?_
        refine lv_aload_n hx hb zd_W_addMultiple_13 rfl (lv_at hl 3 rfl) ?_
        refine lv_iload hx hb zd_W_addMultiple_14 (lv_at hl 0 rfl) ?_
        refine va_iald hx hb hK (hro.at hdy.2.2) 0 0 rfl rfl (vp_in_nI (by omega) (by omega)) zd_W_addMultiple_16 ?_
        refine lv_topi (fun x4 _ => ?_)
        refine lv_i2l hx hb zd_W_addMultiple_17 rfl ?_
        refine lv_topl (fun y5 _ => ?_)
        refine lv_ldc2 (v := (4294967295)) hx hb hown (hts _ (kz_c mw_180)) zd_W_addMultiple_18 ?_
        refine kz_mask hx hb zd_W_addMultiple_21 (fun y6 hy6 => ?_)
        refine lv_lmul hx hb zd_W_addMultiple_22 ?_
        refine lv_topl (fun y7 _ => ?_)
        refine lv_aload_n hx hb zd_W_addMultiple_23 rfl (lv_at hl 4 rfl) ?_
        refine lv_iload hx hb zd_W_addMultiple_24 (lv_at hl 5 rfl) ?_
        refine lv_iconst (v := (nI (1))) hx hb zd_W_addMultiple_26 (by decide) ?_
        refine kz_iadd hx hb zd_W_addMultiple_27 (nI_add _ _) ?_
        refine lv_iload hx hb zd_W_addMultiple_28 (lv_at hl 0 rfl) ?_
        refine kz_iadd hx hb zd_W_addMultiple_30 (nI_add _ _) ?_
        refine va_iald hx hb hK hdy.1 0 0 rfl rfl (vp_in_nI (by omega) (by omega)) zd_W_addMultiple_31 ?_
        refine lv_topi (fun x8 _ => ?_)
        refine lv_i2l hx hb zd_W_addMultiple_32 rfl ?_
        refine lv_topl (fun y9 _ => ?_)
        refine lv_ldc2 (v := (4294967295)) hx hb hown (hts _ (kz_c mw_180)) zd_W_addMultiple_33 ?_
        refine kz_mask hx hb zd_W_addMultiple_36 (fun y10 hy10 => ?_)
        refine lv_ladd hx hb zd_W_addMultiple_37 ?_
        refine lv_topl (fun y11 _ => ?_)
        refine lv_lload hx hb zd_W_addMultiple_38 (lv_at hl 1 rfl) ?_
        refine lv_ladd hx hb zd_W_addMultiple_40 ?_
        refine lv_topl (fun y12 _ => ?_)
        refine lv_lstore (lv' := [(8, .long y12), (7, .int (nI (k7))), (5, .long y1), (0, .long v), (2, .ref b), (3, .ref w), (4, .int (nI (at_)))]) hx hb zd_W_addMultiple_41 hl (by decide) rfl (fun ls hl => ?_)
        refine lv_aload_n hx hb zd_W_addMultiple_43 rfl (lv_at hl 5 rfl) ?_
        refine lv_iload hx hb zd_W_addMultiple_44 (lv_at hl 6 rfl) ?_
        refine lv_iconst (v := (nI (1))) hx hb zd_W_addMultiple_46 (by decide) ?_
        refine kz_iadd hx hb zd_W_addMultiple_47 (nI_add _ _) ?_
        refine lv_iload hx hb zd_W_addMultiple_48 (lv_at hl 1 rfl) ?_
        refine kz_iadd hx hb zd_W_addMultiple_50 (nI_add _ _) ?_
        refine lv_lload hx hb zd_W_addMultiple_51 (lv_at hl 0 rfl) ?_
        refine lv_l2i hx hb zd_W_addMultiple_53 rfl ?_
        refine lv_topi (fun x13 _ => ?_)
        refine va_iast hx hb hK hdy.1 hdy.2.1 hdy.2.2 0 0 rfl rfl (vp_in_nI (by omega) (by omega)) zd_W_addMultiple_54 (fun H locs hP hD hS => ?_)
        obtain ⟨f14, hdy⟩ : ∃ f14 : Nat → Int32, kz_dy (dC, dI) vwCl A s.heap H locs [(w, .inl (cI, 16, .inl f14))] := ⟨_, hP, hD, hS⟩
        refine lv_lload hx hb zd_W_addMultiple_55 (lv_at hl 0 rfl) ?_
        refine lv_bipush (v := (nI (32))) hx hb zd_W_addMultiple_57 (by decide) ?_
        refine lv_lushr hx hb zd_W_addMultiple_59 rfl ?_
        refine lv_topl (fun y15 _ => ?_)
        refine lv_lstore (lv' := [(5, .long y15), (8, .long y12), (7, .int (nI (k7))), (0, .long v), (2, .ref b), (3, .ref w), (4, .int (nI (at_)))]) hx hb zd_W_addMultiple_60 hl (by decide) rfl (fun ls hl => ?_)
        refine lv_iinc (v := (nI (k7) - 1)) (lv' := [(7, .int (nI (k7) - 1)), (5, .long y15), (8, .long y12), (0, .long v), (2, .ref b), (3, .ref w), (4, .int (nI (at_)))]) hx hb zd_W_addMultiple_62 hl (k := 2) rfl (kz_m1 _) (by decide) rfl (fun ls hl => ?_)
        refine lv_goto (tgt := 7) hx hb zd_W_addMultiple_65 (by decide) ?_
        exact ih7 (y15) f14 _ _ _ (by omega) hdy (lv_sub hl [0, 1, 3, 4, 5, 6] rfl)
  exact lp7 8 (0) gw _ _ _ (by omega) hdy (lv_sub hl [0, 1, 2, 3, 4, 5] rfl)

set_option maxHeartbeats 4000000 in
set_option maxRecDepth 100000 in
/-- KeyMeeting$Words.hasBit([II)Z -/
theorem c_Words_hasBit (l : Launch) (dC : Nat → ClassId) (dI : Nat → Nat → Nat) (cI cAA cB cL : ClassId) (a : Nat) (ga : Nat → Int32) (b : Nat) (sz : Nat) (hb8 : b < 256) : Met l zy_W_hasBit zw_W_hasBit { frames := 0, cells := 0, slots := 0, locals := 0 } (kz_Pc (dC, dI) vwCl [(cI, .int), (cAA, .array .int), (cB, .byte), (cL, .long)] [] [] [.ref a, .int (nI (b))] [] [(a, .inl (cI, 8, .inl ga))] sz) (va_Qi (fun (r : Int32) (u : Unit) => (r = 0 ∨ r = 1) ∧ True) (kz_B (dC, dI) vwCl (va_A [] sz) (fun u : Unit => [])) (va_A [] sz)) 0 0 (va_A [] sz) := by
  refine kz_met (Qc := fun A => va_Qi (fun (r : Int32) (u : Unit) => (r = 0 ∨ r = 1) ∧ True) (kz_B (dC, dI) vwCl A (fun u : Unit => [])) A) (cc := zc_W_hasBit) (maxL := 2) (ret := some .boolean) (by decide) rfl (Nat.le_of_ble_eq_true rfl) ?_
  intro p e s m below meth c A ls F hA hdy hK hro hZ hN hl
  obtain ⟨hx, hb, hml, hr, hown, hlocks, hts, hnm⟩ := id F
  have hl : lv_has ls 2 [(0, .ref a), (1, .int (nI (b)))] := hl
  refine lv_aload_n hx hb zd_W_hasBit_0 rfl (lv_at hl 0 rfl) ?_
  refine lv_iload_n hx hb zd_W_hasBit_1 rfl (lv_at hl 1 rfl) ?_
  refine lv_iconst (v := (nI (5))) hx hb zd_W_hasBit_2 (by decide) ?_
  refine lv_iushr (v := nI (b / 2 ^ 5)) hx hb zd_W_hasBit_3 (pk_ushrN (by omega) _ 5 (by decide)) ?_
  refine va_iald hx hb hK (hro.at hdy.2.2) 0 0 rfl rfl (vp_in_nI (by omega) (by omega)) zd_W_hasBit_4 ?_
  refine lv_topi (fun x1 _ => ?_)
  refine lv_iload_n hx hb zd_W_hasBit_5 rfl (lv_at hl 1 rfl) ?_
  refine lv_bipush (v := (nI (31))) hx hb zd_W_hasBit_6 (by decide) ?_
  refine lv_iand hx hb zd_W_hasBit_8 ?_
  refine lv_topi (fun x2 _ => ?_)
  refine lv_ishl hx hb zd_W_hasBit_9 ?_
  refine lv_topi (fun x3 _ => ?_)
  refine lv_if_ge (tgt := 17) hx hb zd_W_hasBit_10 (by decide) (fun hc10 => ?_) (fun hc10 => ?_)
  · refine lv_iconst (v := (nI (0))) hx hb zd_W_hasBit_17 (by decide) ?_
    exact kz_zret F () hdy (by first | exact Or.inl rfl | exact Or.inr rfl | assumption) (⟨by first | exact Or.inl rfl | exact Or.inr rfl | assumption, trivial⟩) zd_W_hasBit_18
  · refine lv_iconst (v := (nI (1))) hx hb zd_W_hasBit_13 (by decide) ?_
    refine lv_goto (tgt := 18) hx hb zd_W_hasBit_14 (by decide) ?_
    exact kz_zret F () hdy (by first | exact Or.inl rfl | exact Or.inr rfl | assumption) (⟨by first | exact Or.inl rfl | exact Or.inr rfl | assumption, trivial⟩) zd_W_hasBit_18

set_option maxHeartbeats 4000000 in
set_option maxRecDepth 100000 in
/-- KeyMeeting$Words.wordOrZero([II)J -/
theorem c_Words_wordOrZero (l : Launch) (dC : Nat → ClassId) (dI : Nat → Nat → Nat) (cI cAA cB cL : ClassId) (a : Nat) (ga : Nat → Int32) (v : Int32) (sz : Nat) : Met l zy_W_wordOrZero zw_W_wordOrZero { frames := 0, cells := 0, slots := 0, locals := 0 } (kz_Pc (dC, dI) vwCl [(cI, .int), (cAA, .array .int), (cB, .byte), (cL, .long)] [] [] [.ref a, .int v] [] [(a, .inl (cI, 8, .inl ga))] sz) (va_Ql (fun _ _ => True) (kz_B (dC, dI) vwCl (va_A [] sz) (fun u : Unit => [])) (va_A [] sz)) 0 0 (va_A [] sz) := by
  refine kz_met (Qc := fun A => va_Ql (fun _ _ => True) (kz_B (dC, dI) vwCl A (fun u : Unit => [])) A) (cc := zc_W_wordOrZero) (maxL := 2) (ret := some .long) (by decide) rfl (Nat.le_of_ble_eq_true rfl) ?_
  intro p e s m below meth c A ls F hA hdy hK hro hZ hN hl
  obtain ⟨hx, hb, hml, hr, hown, hlocks, hts, hnm⟩ := id F
  have hl : lv_has ls 2 [(0, .ref a), (1, .int v)] := hl
  refine lv_iload_n hx hb zd_W_wordOrZero_0 rfl (lv_at hl 1 rfl) ?_
  refine lv_if_lt (tgt := 21) hx hb zd_W_wordOrZero_1 (by decide) (fun hc1 => ?_) (fun hc1 => ?_)
  · refine lv_lconst (v := 0) hx hb zd_W_wordOrZero_21 (by decide) ?_
    exact kz_lret F () hdy (trivial) zd_W_wordOrZero_22
  · refine lv_iload_n hx hb zd_W_wordOrZero_4 rfl (lv_at hl 1 rfl) ?_
    refine lv_bipush (v := (nI (8))) hx hb zd_W_wordOrZero_5 (by decide) ?_
    refine lv_icmp_ge (tgt := 21) hx hb zd_W_wordOrZero_7 (by decide) (fun hc7 => ?_) (fun hc7 => ?_)
    · refine lv_lconst (v := 0) hx hb zd_W_wordOrZero_21 (by decide) ?_
      exact kz_lret F () hdy (trivial) zd_W_wordOrZero_22
    · refine lv_aload_n hx hb zd_W_wordOrZero_10 rfl (lv_at hl 0 rfl) ?_
      refine lv_iload_n hx hb zd_W_wordOrZero_11 rfl (lv_at hl 1 rfl) ?_
      refine va_iald hx hb hK (hro.at hdy.2.2) 0 0 rfl rfl (kz_in (by assumption) (by assumption) (by decide)) zd_W_wordOrZero_12 ?_
      refine lv_topi (fun x1 _ => ?_)
      refine lv_i2l hx hb zd_W_wordOrZero_13 rfl ?_
      refine lv_topl (fun y2 _ => ?_)
      refine lv_ldc2 (v := (4294967295)) hx hb hown (hts _ (kz_c mw_180)) zd_W_wordOrZero_14 ?_
      refine kz_mask hx hb zd_W_wordOrZero_17 (fun y3 hy3 => ?_)
      refine lv_goto (tgt := 22) hx hb zd_W_wordOrZero_18 (by decide) ?_
      exact kz_lret F () hdy (trivial) zd_W_wordOrZero_22

set_option maxHeartbeats 4000000 in
set_option maxRecDepth 100000 in
/-- KeyMeeting$Words.shiftLeft([II[I)V -/
theorem c_Words_shiftLeft (l : Launch) (dC : Nat → ClassId) (dI : Nat → Nat → Nat) (cI cAA cB cL : ClassId) (o a : Nat) (go : Nat → Int32) (ga : Nat → Int32) (v : Int32) (sz : Nat) : Met l zy_W_shiftLeft zw_W_shiftLeft { frames := 1, cells := 0, slots := 0, locals := 21 } (kz_Pc (dC, dI) vwCl [(cI, .int), (cAA, .array .int), (cB, .byte), (cL, .long)] [] [] [.ref a, .int v, .ref o] [(o, .inl (cI, 8, .inl go))] [(a, .inl (cI, 8, .inl ga))] sz) (va_Qv (fun _ => True) (kz_B (dC, dI) vwCl (va_A [(o, .inl (cI, 8, .inl go))] sz) (fun u : (Nat → Int32) => [(o, .inl (cI, 8, .inl u))])) (va_A [(o, .inl (cI, 8, .inl go))] sz)) 0 0 (va_A [(o, .inl (cI, 8, .inl go))] sz) := by
  refine kz_met (Qc := fun A => va_Qv (fun _ => True) (kz_B (dC, dI) vwCl A (fun u : (Nat → Int32) => [(o, .inl (cI, 8, .inl u))])) A) (cc := zc_W_shiftLeft) (maxL := 7) (ret := none) (by decide) rfl (Nat.le_of_ble_eq_true rfl) ?_
  intro p e s m below meth c A ls F hA hdy hK hro hZ hN hl
  obtain ⟨hx, hb, hml, hr, hown, hlocks, hts, hnm⟩ := id F
  have hl : lv_has ls 7 [(0, .ref a), (1, .int v), (2, .ref o)] := hl
  refine lv_iload_n hx hb zd_W_shiftLeft_0 rfl (lv_at hl 1 rfl) ?_
  refine lv_iconst (v := (nI (5))) hx hb zd_W_shiftLeft_1 (by decide) ?_
  refine lv_iushr hx hb zd_W_shiftLeft_2 rfl ?_
  refine lv_topi (fun x1 _ => ?_)
  refine lv_istore_n (lv' := [(3, .int x1), (0, .ref a), (1, .int v), (2, .ref o)]) hx hb zd_W_shiftLeft_3 rfl hl (by decide) rfl (fun ls hl => ?_)
  refine lv_iconst (v := (nI (0))) hx hb zd_W_shiftLeft_4 (by decide) ?_
  refine lv_istore (lv' := [(4, .int (nI (0))), (3, .int x1), (0, .ref a), (1, .int v), (2, .ref o)]) hx hb zd_W_shiftLeft_5 hl (by decide) rfl (fun ls hl => ?_)
  have lp7 : ∀ (n7 k7 : Nat) (f2 : Nat → Int32) (H : Heap) (locs : List Loc) (ls : Array Slot), k7 ≤ 8 → 8 - k7 < n7 → kz_dy (dC, dI) vwCl A s.heap H locs [(o, .inl (cI, 8, .inl f2))] → lv_has ls 7 [(4, .int (nI (k7))), (3, .int x1), (0, .ref a), (1, .int v), (2, .ref o)] → W p l e { frames := 1, cells := 0, slots := 0, locals := 21 } s m ([.ref a, .int v, .ref o] : List Value).toArray below meth c H locs 0 0 (MQ below (va_Qv (fun _ => True) (kz_B (dC, dI) vwCl A (fun u : (Nat → Int32) => [(o, .inl (cI, 8, .inl u))])) A) ([.ref a, .int v, .ref o] : List Value).toArray s 0 0 A) (F0 m 7 ls []) := by
    intro n7
    induction n7 with
    | zero => intro k7; intros; omega
    | succ n7 ih7 =>
      intro k7 f2 H locs ls hi7 hn7 hdy hl
      refine lv_iload hx hb zd_W_shiftLeft_7 (lv_at hl 0 rfl) ?_
      refine lv_bipush (v := (nI (8))) hx hb zd_W_shiftLeft_9 (by decide) ?_
      refine lv_icmp_ge (tgt := 59) hx hb zd_W_shiftLeft_11 (by decide) (fun hc11 => ?_) (fun hc11 => ?_)
      · have hc11 : 8 ≤ k7 := (nI_leI (by omega) (by omega)).mp hc11
        exact kz_vret F (f2) hdy (trivial) zd_W_shiftLeft_59
      · have hc11 : ¬ 8 ≤ k7 := fun h9 => hc11 ((nI_leI (by omega) (by omega)).mpr h9)
        refine lv_aload_n hx hb zd_W_shiftLeft_14 rfl (lv_at hl 2 rfl) ?_
        refine lv_iload hx hb zd_W_shiftLeft_15 (lv_at hl 0 rfl) ?_
        refine lv_iload_n hx hb zd_W_shiftLeft_17 rfl (lv_at hl 1 rfl) ?_
        refine lv_iadd hx hb zd_W_shiftLeft_18 ?_
        refine lv_topi (fun x3 _ => ?_)
        refine kz_calll (wk := [(o, .inl (cI, 8, .inl f2))]) (va_runS (As := [.ref a, .int x3]) (rest := []) ⟨hx, hb, hml, hown, hts⟩ (c_Words_wordOrZero l dC dI cI cAA cB cL a ga (x3) _) (va_cwS 2 hts (kz_g (kz_mc mw_246 (kz_mc mw_247 (kz_mc mw_50 kz_mn))) mw_248) rfl rfl rfl (by decide +kernel) ⟨Nat.le_of_ble_eq_true rfl, Nat.le_of_ble_eq_true rfl⟩) (kz_preS hdy hA hK hro hZ hN [] (by decide) rfl [(true, 0)] rfl (by decide) [0, 1, 2, 3] rfl (fun _ h => by cases h) (fun _ h => by cases h) rfl) rfl rfl hl.1 rfl (lv_room (Nat.le_of_ble_eq_true rfl)) zd_W_shiftLeft_19 ⟨Nat.le_of_ble_eq_true rfl, Nat.le_of_ble_eq_true rfl⟩) hdy hA [] [0] rfl rfl (by decide) (by decide) (fun r u H locs hw hdy => ?_)
        obtain ⟨y4, rfl⟩ : ∃ z, z = r := ⟨_, rfl⟩
        have hdy : kz_dy (dC, dI) vwCl A s.heap H locs [(o, .inl (cI, 8, .inl f2))] := hdy.sub [0] (by decide) rfl
        refine lv_bipush (v := (nI (32))) hx hb zd_W_shiftLeft_22 (by decide) ?_
        refine lv_lshl hx hb zd_W_shiftLeft_24 rfl ?_
        refine lv_topl (fun y5 _ => ?_)
        refine lv_aload_n hx hb zd_W_shiftLeft_25 rfl (lv_at hl 2 rfl) ?_
        refine lv_iload hx hb zd_W_shiftLeft_26 (lv_at hl 0 rfl) ?_
        refine lv_iload_n hx hb zd_W_shiftLeft_28 rfl (lv_at hl 1 rfl) ?_
        refine lv_iadd hx hb zd_W_shiftLeft_29 ?_
        refine lv_topi (fun x6 _ => ?_)
        refine lv_iconst (v := (nI (1))) hx hb zd_W_shiftLeft_30 (by decide) ?_
        refine lv_iadd hx hb zd_W_shiftLeft_31 ?_
        refine lv_topi (fun x7 _ => ?_)
        refine kz_calll (wk := [(o, .inl (cI, 8, .inl f2))]) (va_runS (As := [.ref a, .int x7]) (rest := [.long y5]) ⟨hx, hb, hml, hown, hts⟩ (c_Words_wordOrZero l dC dI cI cAA cB cL a ga (x7) _) (va_cwS 2 hts (kz_g (kz_mc mw_246 (kz_mc mw_247 (kz_mc mw_50 kz_mn))) mw_248) rfl rfl rfl (by decide +kernel) ⟨Nat.le_of_ble_eq_true rfl, Nat.le_of_ble_eq_true rfl⟩) (kz_preS hdy hA hK hro hZ hN [] (by decide) rfl [(true, 0)] rfl (by decide) [0, 1, 2, 3] rfl (fun _ h => by cases h) (fun _ h => by cases h) rfl) rfl rfl hl.1 rfl (lv_room (Nat.le_of_ble_eq_true rfl)) zd_W_shiftLeft_32 ⟨Nat.le_of_ble_eq_true rfl, Nat.le_of_ble_eq_true rfl⟩) hdy hA [] [0] rfl rfl (by decide) (by decide) (fun r u H locs hw hdy => ?_)
        obtain ⟨y8, rfl⟩ : ∃ z, z = r := ⟨_, rfl⟩
        have hdy : kz_dy (dC, dI) vwCl A s.heap H locs [(o, .inl (cI, 8, .inl f2))] := hdy.sub [0] (by decide) rfl
        refine lv_lor hx hb zd_W_shiftLeft_35 ?_
        refine lv_topl (fun y9 _ => ?_)
        refine lv_lstore (lv' := [(5, .long y9), (4, .int (nI (k7))), (3, .int x1), (0, .ref a), (1, .int v), (2, .ref o)]) hx hb zd_W_shiftLeft_36 hl (by decide) rfl (fun ls hl => ?_)
        refine lv_aload_n hx hb zd_W_shiftLeft_38 rfl (lv_at hl 5 rfl) ?_
        refine lv_iload hx hb zd_W_shiftLeft_39 (lv_at hl 1 rfl) ?_
        refine lv_lload hx hb zd_W_shiftLeft_41 (lv_at hl 0 rfl) ?_
        refine lv_iload_n hx hb zd_W_shiftLeft_43 rfl (lv_at hl 4 rfl) ?_
        refine lv_bipush (v := (nI (31))) hx hb zd_W_shiftLeft_44 (by decide) ?_
        refine lv_iand hx hb zd_W_shiftLeft_46 ?_
        refine lv_topi (fun x10 _ => ?_)
        refine lv_lshl hx hb zd_W_shiftLeft_47 rfl ?_
        refine lv_topl (fun y11 _ => ?_)
        refine lv_bipush (v := (nI (32))) hx hb zd_W_shiftLeft_48 (by decide) ?_
        refine lv_lushr hx hb zd_W_shiftLeft_50 rfl ?_
        refine lv_topl (fun y12 _ => ?_)
        refine lv_l2i hx hb zd_W_shiftLeft_51 rfl ?_
        refine lv_topi (fun x13 _ => ?_)
        refine va_iast hx hb hK hdy.1 hdy.2.1 hdy.2.2 0 0 rfl rfl (vp_in_nI (by omega) (by omega)) zd_W_shiftLeft_52 (fun H locs hP hD hS => ?_)
        obtain ⟨f14, hdy⟩ : ∃ f14 : Nat → Int32, kz_dy (dC, dI) vwCl A s.heap H locs [(o, .inl (cI, 8, .inl f14))] := ⟨_, hP, hD, hS⟩
        refine lv_iinc (v := (nI (k7 + 1))) (lv' := [(4, .int (nI (k7 + 1))), (5, .long y9), (3, .int x1), (0, .ref a), (1, .int v), (2, .ref o)]) hx hb zd_W_shiftLeft_53 hl (k := 1) rfl (nI_1 _) (by decide) rfl (fun ls hl => ?_)
        refine lv_goto (tgt := 7) hx hb zd_W_shiftLeft_56 (by decide) ?_
        exact ih7 (k7 + 1) f14 _ _ _ (by omega) (by omega) hdy (lv_sub hl [0, 2, 3, 4, 5] rfl)
  exact lp7 (8 - 0 + 1) 0 go _ _ _ (by omega) (by omega) hdy (lv_sub hl [0, 1, 2, 3, 4] rfl)

set_option maxHeartbeats 4000000 in
set_option maxRecDepth 100000 in
/-- KeyMeeting$Words.shiftRight([II[I)V -/
theorem c_Words_shiftRight (l : Launch) (dC : Nat → ClassId) (dI : Nat → Nat → Nat) (cI cAA cB cL : ClassId) (o a : Nat) (go : Nat → Int32) (ga : Nat → Int32) (v : Int32) (sz : Nat) : Met l zy_W_shiftRight zw_W_shiftRight { frames := 1, cells := 0, slots := 0, locals := 21 } (kz_Pc (dC, dI) vwCl [(cI, .int), (cAA, .array .int), (cB, .byte), (cL, .long)] [] [] [.ref a, .int v, .ref o] [(o, .inl (cI, 8, .inl go))] [(a, .inl (cI, 8, .inl ga))] sz) (va_Qv (fun _ => True) (kz_B (dC, dI) vwCl (va_A [(o, .inl (cI, 8, .inl go))] sz) (fun u : (Nat → Int32) => [(o, .inl (cI, 8, .inl u))])) (va_A [(o, .inl (cI, 8, .inl go))] sz)) 0 0 (va_A [(o, .inl (cI, 8, .inl go))] sz) := by
  refine kz_met (Qc := fun A => va_Qv (fun _ => True) (kz_B (dC, dI) vwCl A (fun u : (Nat → Int32) => [(o, .inl (cI, 8, .inl u))])) A) (cc := zc_W_shiftRight) (maxL := 7) (ret := none) (by decide) rfl (Nat.le_of_ble_eq_true rfl) ?_
  intro p e s m below meth c A ls F hA hdy hK hro hZ hN hl
  obtain ⟨hx, hb, hml, hr, hown, hlocks, hts, hnm⟩ := id F
  have hl : lv_has ls 7 [(0, .ref a), (1, .int v), (2, .ref o)] := hl
  refine lv_iload_n hx hb zd_W_shiftRight_0 rfl (lv_at hl 1 rfl) ?_
  refine lv_iconst (v := (nI (5))) hx hb zd_W_shiftRight_1 (by decide) ?_
  refine lv_iushr hx hb zd_W_shiftRight_2 rfl ?_
  refine lv_topi (fun x1 _ => ?_)
  refine lv_istore_n (lv' := [(3, .int x1), (0, .ref a), (1, .int v), (2, .ref o)]) hx hb zd_W_shiftRight_3 rfl hl (by decide) rfl (fun ls hl => ?_)
  refine lv_bipush (v := (nI (7))) hx hb zd_W_shiftRight_4 (by decide) ?_
  refine lv_istore (lv' := [(4, .int (nI (7))), (3, .int x1), (0, .ref a), (1, .int v), (2, .ref o)]) hx hb zd_W_shiftRight_6 hl (by decide) rfl (fun ls hl => ?_)
  have lp8 : ∀ (k8 : Nat) (f2 : Nat → Int32) (H : Heap) (locs : List Loc) (ls : Array Slot), k8 ≤ 8 → kz_dy (dC, dI) vwCl A s.heap H locs [(o, .inl (cI, 8, .inl f2))] → lv_has ls 7 [(4, .int (nI k8 - 1)), (3, .int x1), (0, .ref a), (1, .int v), (2, .ref o)] → W p l e { frames := 1, cells := 0, slots := 0, locals := 21 } s m ([.ref a, .int v, .ref o] : List Value).toArray below meth c H locs 0 0 (MQ below (va_Qv (fun _ => True) (kz_B (dC, dI) vwCl A (fun u : (Nat → Int32) => [(o, .inl (cI, 8, .inl u))])) A) ([.ref a, .int v, .ref o] : List Value).toArray s 0 0 A) (F0 m 8 ls []) := by
    intro k8
    induction k8 with
    | zero =>
      intro f2 H locs ls hi8 hdy hl
      refine lv_iload hx hb zd_W_shiftRight_8 (lv_at hl 0 rfl) ?_
      refine lv_if_lt (tgt := 55) hx hb zd_W_shiftRight_10 (by decide) (fun hc10 => ?_) (fun hc10 => ?_)
      · exact kz_vret F (f2) hdy (trivial) zd_W_shiftRight_55
      · exact absurd (by decide) hc10
    | succ k8 ih8 =>
      intro f2 H locs ls hi8 hdy hl
      rw [nI_pred] at hl
      refine lv_iload hx hb zd_W_shiftRight_8 (lv_at hl 0 rfl) ?_
      refine lv_if_lt (tgt := 55) hx hb zd_W_shiftRight_10 (by decide) (fun hc10 => ?_) (fun hc10 => ?_)
      · exact absurd hc10 (nI_pos (by omega))
      · refine lv_aload_n hx hb zd_W_shiftRight_13 rfl (lv_at hl 2 rfl) ?_
        refine lv_iload hx hb zd_W_shiftRight_14 (lv_at hl 0 rfl) ?_
        refine lv_iload_n hx hb zd_W_shiftRight_16 rfl (lv_at hl 1 rfl) ?_
        refine lv_isub hx hb zd_W_shiftRight_17 ?_
        refine lv_topi (fun x3 _ => ?_)
        refine lv_iconst (v := (nI (1))) hx hb zd_W_shiftRight_18 (by decide) ?_
        refine lv_isub hx hb zd_W_shiftRight_19 ?_
        refine lv_topi (fun x4 _ => ?_)
        refine kz_calll (wk := [(o, .inl (cI, 8, .inl f2))]) (va_runS (As := [.ref a, .int x4]) (rest := []) ⟨hx, hb, hml, hown, hts⟩ (c_Words_wordOrZero l dC dI cI cAA cB cL a ga (x4) _) (va_cwS 2 hts (kz_g (kz_mc mw_246 (kz_mc mw_247 (kz_mc mw_50 kz_mn))) mw_248) rfl rfl rfl (by decide +kernel) ⟨Nat.le_of_ble_eq_true rfl, Nat.le_of_ble_eq_true rfl⟩) (kz_preS hdy hA hK hro hZ hN [] (by decide) rfl [(true, 0)] rfl (by decide) [0, 1, 2, 3] rfl (fun _ h => by cases h) (fun _ h => by cases h) rfl) rfl rfl hl.1 rfl (lv_room (Nat.le_of_ble_eq_true rfl)) zd_W_shiftRight_20 ⟨Nat.le_of_ble_eq_true rfl, Nat.le_of_ble_eq_true rfl⟩) hdy hA [] [0] rfl rfl (by decide) (by decide) (fun r u H locs hw hdy => ?_)
        obtain ⟨y5, rfl⟩ : ∃ z, z = r := ⟨_, rfl⟩
        have hdy : kz_dy (dC, dI) vwCl A s.heap H locs [(o, .inl (cI, 8, .inl f2))] := hdy.sub [0] (by decide) rfl
        refine lv_bipush (v := (nI (32))) hx hb zd_W_shiftRight_23 (by decide) ?_
        refine lv_lshl hx hb zd_W_shiftRight_25 rfl ?_
        refine lv_topl (fun y6 _ => ?_)
        refine lv_aload_n hx hb zd_W_shiftRight_26 rfl (lv_at hl 2 rfl) ?_
        refine lv_iload hx hb zd_W_shiftRight_27 (lv_at hl 0 rfl) ?_
        refine lv_iload_n hx hb zd_W_shiftRight_29 rfl (lv_at hl 1 rfl) ?_
        refine lv_isub hx hb zd_W_shiftRight_30 ?_
        refine lv_topi (fun x7 _ => ?_)
        refine kz_calll (wk := [(o, .inl (cI, 8, .inl f2))]) (va_runS (As := [.ref a, .int x7]) (rest := [.long y6]) ⟨hx, hb, hml, hown, hts⟩ (c_Words_wordOrZero l dC dI cI cAA cB cL a ga (x7) _) (va_cwS 2 hts (kz_g (kz_mc mw_246 (kz_mc mw_247 (kz_mc mw_50 kz_mn))) mw_248) rfl rfl rfl (by decide +kernel) ⟨Nat.le_of_ble_eq_true rfl, Nat.le_of_ble_eq_true rfl⟩) (kz_preS hdy hA hK hro hZ hN [] (by decide) rfl [(true, 0)] rfl (by decide) [0, 1, 2, 3] rfl (fun _ h => by cases h) (fun _ h => by cases h) rfl) rfl rfl hl.1 rfl (lv_room (Nat.le_of_ble_eq_true rfl)) zd_W_shiftRight_31 ⟨Nat.le_of_ble_eq_true rfl, Nat.le_of_ble_eq_true rfl⟩) hdy hA [] [0] rfl rfl (by decide) (by decide) (fun r u H locs hw hdy => ?_)
        obtain ⟨y8, rfl⟩ : ∃ z, z = r := ⟨_, rfl⟩
        have hdy : kz_dy (dC, dI) vwCl A s.heap H locs [(o, .inl (cI, 8, .inl f2))] := hdy.sub [0] (by decide) rfl
        refine lv_lor hx hb zd_W_shiftRight_34 ?_
        refine lv_topl (fun y9 _ => ?_)
        refine lv_lstore (lv' := [(5, .long y9), (4, .int (nI (k8))), (3, .int x1), (0, .ref a), (1, .int v), (2, .ref o)]) hx hb zd_W_shiftRight_35 hl (by decide) rfl (fun ls hl => ?_)
        refine lv_aload_n hx hb zd_W_shiftRight_37 rfl (lv_at hl 5 rfl) ?_
        refine lv_iload hx hb zd_W_shiftRight_38 (lv_at hl 1 rfl) ?_
        refine lv_lload hx hb zd_W_shiftRight_40 (lv_at hl 0 rfl) ?_
        refine lv_iload_n hx hb zd_W_shiftRight_42 rfl (lv_at hl 4 rfl) ?_
        refine lv_bipush (v := (nI (31))) hx hb zd_W_shiftRight_43 (by decide) ?_
        refine lv_iand hx hb zd_W_shiftRight_45 ?_
        refine lv_topi (fun x10 _ => ?_)
        refine lv_lushr hx hb zd_W_shiftRight_46 rfl ?_
        refine lv_topl (fun y11 _ => ?_)
        refine lv_l2i hx hb zd_W_shiftRight_47 rfl ?_
        refine lv_topi (fun x12 _ => ?_)
        refine va_iast hx hb hK hdy.1 hdy.2.1 hdy.2.2 0 0 rfl rfl (vp_in_nI (by omega) (by omega)) zd_W_shiftRight_48 (fun H locs hP hD hS => ?_)
        obtain ⟨f13, hdy⟩ : ∃ f13 : Nat → Int32, kz_dy (dC, dI) vwCl A s.heap H locs [(o, .inl (cI, 8, .inl f13))] := ⟨_, hP, hD, hS⟩
        refine lv_iinc (v := (nI (k8) - 1)) (lv' := [(4, .int (nI (k8) - 1)), (5, .long y9), (3, .int x1), (0, .ref a), (1, .int v), (2, .ref o)]) hx hb zd_W_shiftRight_49 hl (k := 1) rfl (kz_m1 _) (by decide) rfl (fun ls hl => ?_)
        refine lv_goto (tgt := 8) hx hb zd_W_shiftRight_52 (by decide) ?_
        exact ih8 f13 _ _ _ (by omega) hdy (lv_sub hl [0, 2, 3, 4, 5] rfl)
  exact lp8 8 go _ _ _ (by omega) hdy (lv_sub hl [0, 1, 2, 3, 4] rfl)

set_option maxHeartbeats 4000000 in
set_option maxRecDepth 100000 in
/-- KeyMeeting$Words.leadingZeros([I)I -/
theorem c_Words_leadingZeros (l : Launch) (dC : Nat → ClassId) (dI : Nat → Nat → Nat) (cI cAA cB cL : ClassId) (a : Nat) (ga : Nat → Int32) (sz : Nat) : Met l zy_W_leadingZeros zw_W_leadingZeros { frames := 1, cells := 0, slots := 0, locals := 21 } (kz_Pc (dC, dI) vwCl [(cI, .int), (cAA, .array .int), (cB, .byte), (cL, .long)] [] [] [.ref a] [] [(a, .inl (cI, 8, .inl ga))] sz) (va_Qi (fun (r : Int32) (u : Unit) => (∃ b : Nat, b ≤ 256 ∧ r = nI b) ∧ True) (kz_B (dC, dI) vwCl (va_A [] sz) (fun u : Unit => [])) (va_A [] sz)) 0 0 (va_A [] sz) := by
  refine kz_met (Qc := fun A => va_Qi (fun (r : Int32) (u : Unit) => (∃ b : Nat, b ≤ 256 ∧ r = nI b) ∧ True) (kz_B (dC, dI) vwCl A (fun u : Unit => [])) A) (cc := zc_W_leadingZeros) (maxL := 2) (ret := some .int) (by decide) rfl (Nat.le_of_ble_eq_true rfl) ?_
  intro p e s m below meth c A ls F hA hdy hK hro hZ hN hl
  obtain ⟨hx, hb, hml, hr, hown, hlocks, hts, hnm⟩ := id F
  have hl : lv_has ls 2 [(0, .ref a)] := hl
  refine lv_iconst (v := (nI (0))) hx hb zd_W_leadingZeros_0 (by decide) ?_
  refine lv_istore_n (lv' := [(1, .int (nI (0))), (0, .ref a)]) hx hb zd_W_leadingZeros_1 rfl hl (by decide) rfl (fun ls hl => ?_)
  have lp2 : ∀ (n2 k2 : Nat) (H : Heap) (locs : List Loc) (ls : Array Slot), k2 ≤ 256 → 256 - k2 < n2 → kz_dy (dC, dI) vwCl A s.heap H locs [] → lv_has ls 2 [(1, .int (nI (k2))), (0, .ref a)] → W p l e { frames := 1, cells := 0, slots := 0, locals := 21 } s m ([.ref a] : List Value).toArray below meth c H locs 0 0 (MQ below (va_Qi (fun (r : Int32) (u : Unit) => (∃ b : Nat, b ≤ 256 ∧ r = nI b) ∧ True) (kz_B (dC, dI) vwCl A (fun u : Unit => [])) A) ([.ref a] : List Value).toArray s 0 0 A) (F0 m 2 ls []) := by
    intro n2
    induction n2 with
    | zero => intro k2; intros; omega
    | succ n2 ih2 =>
      intro k2 H locs ls hi2 hn2 hdy hl
      refine lv_iload_n hx hb zd_W_leadingZeros_2 rfl (lv_at hl 0 rfl) ?_
      refine lv_sipush (v := (nI (256))) hx hb zd_W_leadingZeros_3 (by decide) ?_
      refine lv_icmp_ge (tgt := 23) hx hb zd_W_leadingZeros_6 (by decide) (fun hc6 => ?_) (fun hc6 => ?_)
      · have hc6 : 256 ≤ k2 := (nI_leI (by omega) (by omega)).mp hc6
        refine lv_iload_n hx hb zd_W_leadingZeros_23 rfl (lv_at hl 0 rfl) ?_
        exact kz_iret F () hdy (⟨⟨_, by first | assumption | omega, rfl⟩, trivial⟩) zd_W_leadingZeros_24
      · have hc6 : ¬ 256 ≤ k2 := fun h9 => hc6 ((nI_leI (by omega) (by omega)).mpr h9)
        refine lv_aload_n hx hb zd_W_leadingZeros_9 rfl (lv_at hl 1 rfl) ?_
        refine lv_iload_n hx hb zd_W_leadingZeros_10 rfl (lv_at hl 0 rfl) ?_
        refine kz_calli (wk := []) (va_runS (As := [.ref a, .int (nI (k2))]) (rest := []) ⟨hx, hb, hml, hown, hts⟩ (c_Words_hasBit l dC dI cI cAA cB cL a ga k2 _ (by first | omega | assumption)) (va_cwS 2 hts (kz_g (kz_mc mw_240 (kz_mc mw_241 (kz_mc mw_50 kz_mn))) mw_242) rfl rfl rfl (by decide +kernel) ⟨Nat.le_of_ble_eq_true rfl, Nat.le_of_ble_eq_true rfl⟩) (kz_preS hdy hA hK hro hZ hN [] (by decide) rfl [(true, 0)] rfl (by decide) [0, 1, 2, 3] rfl (fun _ h => by cases h) (fun _ h => by cases h) rfl) rfl rfl hl.1 rfl (lv_room (Nat.le_of_ble_eq_true rfl)) zd_W_leadingZeros_11 ⟨Nat.le_of_ble_eq_true rfl, Nat.le_of_ble_eq_true rfl⟩) hdy hA [] [] rfl rfl (by decide) (by decide) (fun r u H locs hw hdy => ?_)
        obtain ⟨r1, rfl⟩ : ∃ z, z = r := ⟨_, rfl⟩
        try dsimp only at hw
        obtain ⟨hzr1, -⟩ := hw
        have hdy : kz_dy (dC, dI) vwCl A s.heap H locs [] := hdy.sub [] (by decide) rfl
        refine lv_if_ne (tgt := 23) hx hb zd_W_leadingZeros_14 (by decide) (fun hc14 => ?_) (fun hc14 => ?_)
        · refine lv_iload_n hx hb zd_W_leadingZeros_23 rfl (lv_at hl 0 rfl) ?_
          exact kz_iret F () hdy (⟨⟨_, by first | assumption | omega, rfl⟩, trivial⟩) zd_W_leadingZeros_24
        · refine lv_iinc (v := (nI (k2 + 1))) (lv' := [(1, .int (nI (k2 + 1))), (0, .ref a)]) hx hb zd_W_leadingZeros_17 hl (k := 0) rfl (nI_1 _) (by decide) rfl (fun ls hl => ?_)
          refine lv_goto (tgt := 2) hx hb zd_W_leadingZeros_20 (by decide) ?_
          exact ih2 (k2 + 1) _ _ _ (by omega) (by omega) hdy (lv_sub hl [0, 1] rfl)
  exact lp2 (256 - 0 + 1) 0 _ _ _ (by omega) (by omega) hdy (lv_sub hl [0, 1] rfl)

set_option maxHeartbeats 4000000 in
set_option maxRecDepth 100000 in
/-- KeyMeeting$Words.copy([I[I)V -/
theorem c_Words_copy (l : Launch) (dC : Nat → ClassId) (dI : Nat → Nat → Nat) (cI cAA cB cL : ClassId) (o a : Nat) (go : Nat → Int32) (ga : Nat → Int32) (sz : Nat) : Met l zy_W_copy zw_W_copy { frames := 1, cells := 0, slots := 0, locals := 40 } (kz_Pc (dC, dI) vwCl [(cI, .int), (cAA, .array .int), (cB, .byte), (cL, .long)] [] [] [.ref a, .ref o] [(o, .inl (cI, 8, .inl go))] [(a, .inl (cI, 8, .inl ga))] sz) (va_Qv (fun _ => True) (kz_B (dC, dI) vwCl (va_A [(o, .inl (cI, 8, .inl go))] sz) (fun u : (Nat → Int32) => [(o, .inl (cI, 8, .inl u))])) (va_A [(o, .inl (cI, 8, .inl go))] sz)) 0 0 (va_A [(o, .inl (cI, 8, .inl go))] sz) := by
  refine kz_met (Qc := fun A => va_Qv (fun _ => True) (kz_B (dC, dI) vwCl A (fun u : (Nat → Int32) => [(o, .inl (cI, 8, .inl u))])) A) (cc := zc_W_copy) (maxL := 2) (ret := none) (by decide) rfl (Nat.le_of_ble_eq_true rfl) ?_
  intro p e s m below meth c A ls F hA hdy hK hro hZ hN hl
  obtain ⟨hx, hb, hml, hr, hown, hlocks, hts, hnm⟩ := id F
  have hl : lv_has ls 2 [(0, .ref a), (1, .ref o)] := hl
  refine lv_aload_n hx hb zd_W_copy_0 rfl (lv_at hl 0 rfl) ?_
  refine lv_iconst (v := (nI (0))) hx hb zd_W_copy_1 (by decide) ?_
  refine lv_aload_n hx hb zd_W_copy_2 rfl (lv_at hl 1 rfl) ?_
  refine lv_iconst (v := (nI (0))) hx hb zd_W_copy_3 (by decide) ?_
  refine lv_bipush (v := (nI (8))) hx hb zd_W_copy_4 (by decide) ?_
  refine kz_copyr hx hb (hml.trans hl.1.symm) hown (hts _ (kz_c mw_285)) (hts _ (kz_c mw_214)) (hts _ (kz_c mw_213)) (hts _ (kz_c mw_51)) hK hdy.1 hdy.2.1 hdy.2.2 hro 0 0 0 0 rfl rfl rfl rfl rfl (nI_pos (by omega)) (nI_pos (by omega)) (nI_pos (by omega)) (by (repeat rw [nI_clamp (by omega)]) <;> omega) (by (repeat rw [nI_clamp (by omega)]) <;> omega) (fun _ _ => rfl) (Nat.le_of_ble_eq_true rfl) (Nat.le_of_ble_eq_true rfl) zd_W_copy_6 (fun H locs hP hD hS => ?_)
  obtain ⟨f1, hdy⟩ : ∃ f1 : Nat → Int32, kz_dy (dC, dI) vwCl A s.heap H locs [(o, .inl (cI, 8, .inl f1))] := ⟨_, hP, hD, hS⟩
  exact kz_vret F (f1) hdy (trivial) zd_W_copy_9

set_option maxHeartbeats 4000000 in
set_option maxRecDepth 100000 in
/-- Arrays.fill([II)V -/
theorem c_Arrays_fill (l : Launch) (dC : Nat → ClassId) (dI : Nat → Nat → Nat) (cI cAA cB cL : ClassId) (o : Nat) (go : Nat → Int32) (v : Int32) (sz : Nat) : Met l zy_A_fill zw_A_fill { frames := 0, cells := 0, slots := 0, locals := 0 } (kz_Pc (dC, dI) vwCl [(cI, .int), (cAA, .array .int), (cB, .byte), (cL, .long)] [] [] [.ref o, .int v] [(o, .inl (cI, 8, .inl go))] [] sz) (va_Qv (fun _ => True) (kz_B (dC, dI) vwCl (va_A [(o, .inl (cI, 8, .inl go))] sz) (fun u : (Nat → Int32) => [(o, .inl (cI, 8, .inl u))])) (va_A [(o, .inl (cI, 8, .inl go))] sz)) 0 0 (va_A [(o, .inl (cI, 8, .inl go))] sz) := by
  refine kz_met (Qc := fun A => va_Qv (fun _ => True) (kz_B (dC, dI) vwCl A (fun u : (Nat → Int32) => [(o, .inl (cI, 8, .inl u))])) A) (cc := zc_A_fill) (maxL := 4) (ret := none) (by decide) rfl (Nat.le_of_ble_eq_true rfl) ?_
  intro p e s m below meth c A ls F hA hdy hK hro hZ hN hl
  obtain ⟨hx, hb, hml, hr, hown, hlocks, hts, hnm⟩ := id F
  have hl : lv_has ls 4 [(0, .ref o), (1, .int v)] := hl
  refine lv_iconst (v := (nI (0))) hx hb zd_A_fill_0 (by decide) ?_
  refine lv_istore_n (lv' := [(2, .int (nI (0))), (0, .ref o), (1, .int v)]) hx hb zd_A_fill_1 rfl hl (by decide) rfl (fun ls hl => ?_)
  refine lv_aload_n hx hb zd_A_fill_2 rfl (lv_at hl 1 rfl) ?_
  refine va_alen (v := nI 8) hx hb hK hdy.1 0 0 rfl rfl rfl zd_A_fill_3 ?_
  refine lv_istore_n (lv' := [(3, .int (nI (8))), (2, .int (nI (0))), (0, .ref o), (1, .int v)]) hx hb zd_A_fill_4 rfl hl (by decide) rfl (fun ls hl => ?_)
  have lp5 : ∀ (n5 k5 : Nat) (f1 : Nat → Int32) (H : Heap) (locs : List Loc) (ls : Array Slot), k5 ≤ 8 → 8 - k5 < n5 → kz_dy (dC, dI) vwCl A s.heap H locs [(o, .inl (cI, 8, .inl f1))] → lv_has ls 4 [(3, .int (nI (8))), (2, .int (nI (k5))), (0, .ref o), (1, .int v)] → W p l e { frames := 0, cells := 0, slots := 0, locals := 0 } s m ([.ref o, .int v] : List Value).toArray below meth c H locs 0 0 (MQ below (va_Qv (fun _ => True) (kz_B (dC, dI) vwCl A (fun u : (Nat → Int32) => [(o, .inl (cI, 8, .inl u))])) A) ([.ref o, .int v] : List Value).toArray s 0 0 A) (F0 m 5 ls []) := by
    intro n5
    induction n5 with
    | zero => intro k5; intros; omega
    | succ n5 ih5 =>
      intro k5 f1 H locs ls hi5 hn5 hdy hl
      refine lv_iload_n hx hb zd_A_fill_5 rfl (lv_at hl 1 rfl) ?_
      refine lv_iload_n hx hb zd_A_fill_6 rfl (lv_at hl 0 rfl) ?_
      refine lv_icmp_ge (tgt := 20) hx hb zd_A_fill_7 (by decide) (fun hc7 => ?_) (fun hc7 => ?_)
      · have hc7 : 8 ≤ k5 := (nI_leI (by omega) (by omega)).mp hc7
        exact kz_vret F (f1) hdy (trivial) zd_A_fill_20
      · have hc7 : ¬ 8 ≤ k5 := fun h9 => hc7 ((nI_leI (by omega) (by omega)).mpr h9)
        refine lv_aload_n hx hb zd_A_fill_10 rfl (lv_at hl 2 rfl) ?_
        refine lv_iload_n hx hb zd_A_fill_11 rfl (lv_at hl 1 rfl) ?_
        refine lv_iload_n hx hb zd_A_fill_12 rfl (lv_at hl 3 rfl) ?_
        refine va_iast hx hb hK hdy.1 hdy.2.1 hdy.2.2 0 0 rfl rfl (vp_in_nI (by omega) (by omega)) zd_A_fill_13 (fun H locs hP hD hS => ?_)
        obtain ⟨f2, hdy⟩ : ∃ f2 : Nat → Int32, kz_dy (dC, dI) vwCl A s.heap H locs [(o, .inl (cI, 8, .inl f2))] := ⟨_, hP, hD, hS⟩
        refine lv_iinc (v := (nI (k5 + 1))) (lv' := [(2, .int (nI (k5 + 1))), (3, .int (nI (8))), (0, .ref o), (1, .int v)]) hx hb zd_A_fill_14 hl (k := 1) rfl (nI_1 _) (by decide) rfl (fun ls hl => ?_)
        refine lv_goto (tgt := 5) hx hb zd_A_fill_17 (by decide) ?_
        exact ih5 (k5 + 1) f2 _ _ _ (by omega) (by omega) hdy (lv_sub hl [1, 0, 2, 3] rfl)
  exact lp5 (8 - 0 + 1) 0 go _ _ _ (by omega) (by omega) hdy (lv_sub hl [0, 1, 2, 3] rfl)

set_option maxHeartbeats 4000000 in
set_option maxRecDepth 100000 in
/-- Arrays.fill([II)V -/
theorem c_Arrays_fill16 (l : Launch) (dC : Nat → ClassId) (dI : Nat → Nat → Nat) (cI cAA cB cL : ClassId) (o : Nat) (go : Nat → Int32) (v : Int32) (sz : Nat) : Met l zy_A_fill zw_A_fill { frames := 0, cells := 0, slots := 0, locals := 0 } (kz_Pc (dC, dI) vwCl [(cI, .int), (cAA, .array .int), (cB, .byte), (cL, .long)] [] [] [.ref o, .int v] [(o, .inl (cI, 16, .inl go))] [] sz) (va_Qv (fun _ => True) (kz_B (dC, dI) vwCl (va_A [(o, .inl (cI, 16, .inl go))] sz) (fun u : (Nat → Int32) => [(o, .inl (cI, 16, .inl u))])) (va_A [(o, .inl (cI, 16, .inl go))] sz)) 0 0 (va_A [(o, .inl (cI, 16, .inl go))] sz) := by
  refine kz_met (Qc := fun A => va_Qv (fun _ => True) (kz_B (dC, dI) vwCl A (fun u : (Nat → Int32) => [(o, .inl (cI, 16, .inl u))])) A) (cc := zc_A_fill) (maxL := 4) (ret := none) (by decide) rfl (Nat.le_of_ble_eq_true rfl) ?_
  intro p e s m below meth c A ls F hA hdy hK hro hZ hN hl
  obtain ⟨hx, hb, hml, hr, hown, hlocks, hts, hnm⟩ := id F
  have hl : lv_has ls 4 [(0, .ref o), (1, .int v)] := hl
  refine lv_iconst (v := (nI (0))) hx hb zd_A_fill_0 (by decide) ?_
  refine lv_istore_n (lv' := [(2, .int (nI (0))), (0, .ref o), (1, .int v)]) hx hb zd_A_fill_1 rfl hl (by decide) rfl (fun ls hl => ?_)
  refine lv_aload_n hx hb zd_A_fill_2 rfl (lv_at hl 1 rfl) ?_
  refine va_alen (v := nI 16) hx hb hK hdy.1 0 0 rfl rfl rfl zd_A_fill_3 ?_
  refine lv_istore_n (lv' := [(3, .int (nI (16))), (2, .int (nI (0))), (0, .ref o), (1, .int v)]) hx hb zd_A_fill_4 rfl hl (by decide) rfl (fun ls hl => ?_)
  have lp5 : ∀ (n5 k5 : Nat) (f1 : Nat → Int32) (H : Heap) (locs : List Loc) (ls : Array Slot), k5 ≤ 16 → 16 - k5 < n5 → kz_dy (dC, dI) vwCl A s.heap H locs [(o, .inl (cI, 16, .inl f1))] → lv_has ls 4 [(3, .int (nI (16))), (2, .int (nI (k5))), (0, .ref o), (1, .int v)] → W p l e { frames := 0, cells := 0, slots := 0, locals := 0 } s m ([.ref o, .int v] : List Value).toArray below meth c H locs 0 0 (MQ below (va_Qv (fun _ => True) (kz_B (dC, dI) vwCl A (fun u : (Nat → Int32) => [(o, .inl (cI, 16, .inl u))])) A) ([.ref o, .int v] : List Value).toArray s 0 0 A) (F0 m 5 ls []) := by
    intro n5
    induction n5 with
    | zero => intro k5; intros; omega
    | succ n5 ih5 =>
      intro k5 f1 H locs ls hi5 hn5 hdy hl
      refine lv_iload_n hx hb zd_A_fill_5 rfl (lv_at hl 1 rfl) ?_
      refine lv_iload_n hx hb zd_A_fill_6 rfl (lv_at hl 0 rfl) ?_
      refine lv_icmp_ge (tgt := 20) hx hb zd_A_fill_7 (by decide) (fun hc7 => ?_) (fun hc7 => ?_)
      · have hc7 : 16 ≤ k5 := (nI_leI (by omega) (by omega)).mp hc7
        exact kz_vret F (f1) hdy (trivial) zd_A_fill_20
      · have hc7 : ¬ 16 ≤ k5 := fun h9 => hc7 ((nI_leI (by omega) (by omega)).mpr h9)
        refine lv_aload_n hx hb zd_A_fill_10 rfl (lv_at hl 2 rfl) ?_
        refine lv_iload_n hx hb zd_A_fill_11 rfl (lv_at hl 1 rfl) ?_
        refine lv_iload_n hx hb zd_A_fill_12 rfl (lv_at hl 3 rfl) ?_
        refine va_iast hx hb hK hdy.1 hdy.2.1 hdy.2.2 0 0 rfl rfl (vp_in_nI (by omega) (by omega)) zd_A_fill_13 (fun H locs hP hD hS => ?_)
        obtain ⟨f2, hdy⟩ : ∃ f2 : Nat → Int32, kz_dy (dC, dI) vwCl A s.heap H locs [(o, .inl (cI, 16, .inl f2))] := ⟨_, hP, hD, hS⟩
        refine lv_iinc (v := (nI (k5 + 1))) (lv' := [(2, .int (nI (k5 + 1))), (3, .int (nI (16))), (0, .ref o), (1, .int v)]) hx hb zd_A_fill_14 hl (k := 1) rfl (nI_1 _) (by decide) rfl (fun ls hl => ?_)
        refine lv_goto (tgt := 5) hx hb zd_A_fill_17 (by decide) ?_
        exact ih5 (k5 + 1) f2 _ _ _ (by omega) (by omega) hdy (lv_sub hl [1, 0, 2, 3] rfl)
  exact lp5 (16 - 0 + 1) 0 go _ _ _ (by omega) (by omega) hdy (lv_sub hl [0, 1, 2, 3] rfl)

set_option maxHeartbeats 4000000 in
set_option maxRecDepth 100000 in
/-- KeyMeeting$Words.multiply([I[I[I)V -/
theorem c_Words_multiply (l : Launch) (dC : Nat → ClassId) (dI : Nat → Nat → Nat) (cI cAA cB cL : ClassId) (w a b : Nat) (gw : Nat → Int32) (ga : Nat → Int32) (gb : Nat → Int32) (sz : Nat) : Met l zy_W_multiply zw_W_multiply { frames := 1, cells := 0, slots := 0, locals := 29 } (kz_Pc (dC, dI) vwCl [(cI, .int), (cAA, .array .int), (cB, .byte), (cL, .long)] [] [] [.ref a, .ref b, .ref w] [(w, .inl (cI, 16, .inl gw))] [(a, .inl (cI, 8, .inl ga)), (b, .inl (cI, 8, .inl gb))] sz) (va_Qv (fun _ => True) (kz_B (dC, dI) vwCl (va_A [(w, .inl (cI, 16, .inl gw))] sz) (fun u : (Nat → Int32) => [(w, .inl (cI, 16, .inl u))])) (va_A [(w, .inl (cI, 16, .inl gw))] sz)) 0 0 (va_A [(w, .inl (cI, 16, .inl gw))] sz) := by
  refine kz_met (Qc := fun A => va_Qv (fun _ => True) (kz_B (dC, dI) vwCl A (fun u : (Nat → Int32) => [(w, .inl (cI, 16, .inl u))])) A) (cc := zc_W_multiply) (maxL := 4) (ret := none) (by decide) rfl (Nat.le_of_ble_eq_true rfl) ?_
  intro p e s m below meth c A ls F hA hdy hK hro hZ hN hl
  obtain ⟨hx, hb, hml, hr, hown, hlocks, hts, hnm⟩ := id F
  have hl : lv_has ls 4 [(0, .ref a), (1, .ref b), (2, .ref w)] := hl
  refine lv_aload_n hx hb zd_W_multiply_0 rfl (lv_at hl 2 rfl) ?_
  refine lv_iconst (v := (nI (0))) hx hb zd_W_multiply_1 (by decide) ?_
  refine kz_callv (wk := []) (va_runS (As := [.ref w, .int (nI (0))]) (rest := []) ⟨hx, hb, hml, hown, hts⟩ (c_Arrays_fill16 l dC dI cI cAA cB cL w gw ((nI (0))) _) (va_cwS 2 hts (kz_g (kz_mc mw_206 (kz_mc mw_207 (kz_mc mw_49 kz_mn))) mw_208) rfl rfl rfl (by decide +kernel) ⟨Nat.le_of_ble_eq_true rfl, Nat.le_of_ble_eq_true rfl⟩) (kz_preS hdy hA hK hro hZ hN [0] (by decide) rfl [] rfl (by decide) [0, 1, 2, 3] rfl (fun _ h => by cases h) (fun _ h => by cases h) rfl) rfl rfl hl.1 rfl (lv_room (Nat.le_of_ble_eq_true rfl)) zd_W_multiply_2 ⟨Nat.le_of_ble_eq_true rfl, Nat.le_of_ble_eq_true rfl⟩) hdy hA [0] [] rfl rfl (by decide) (by decide) (fun u H locs hw hdy => ?_)
  obtain ⟨f1, rfl⟩ : ∃ z, z = u := ⟨_, rfl⟩
  have hdy : kz_dy (dC, dI) vwCl A s.heap H locs [(w, .inl (cI, 16, .inl f1))] := hdy.sub [0] (by decide) rfl
  refine lv_bipush (v := (nI (7))) hx hb zd_W_multiply_5 (by decide) ?_
  refine lv_istore_n (lv' := [(3, .int (nI (7))), (0, .ref a), (1, .ref b), (2, .ref w)]) hx hb zd_W_multiply_7 rfl hl (by decide) rfl (fun ls hl => ?_)
  have lp8 : ∀ (k8 : Nat) (f2 : Nat → Int32) (H : Heap) (locs : List Loc) (ls : Array Slot), k8 ≤ 8 → kz_dy (dC, dI) vwCl A s.heap H locs [(w, .inl (cI, 16, .inl f2))] → lv_has ls 4 [(3, .int (nI k8 - 1)), (0, .ref a), (1, .ref b), (2, .ref w)] → W p l e { frames := 1, cells := 0, slots := 0, locals := 29 } s m ([.ref a, .ref b, .ref w] : List Value).toArray below meth c H locs 0 0 (MQ below (va_Qv (fun _ => True) (kz_B (dC, dI) vwCl A (fun u : (Nat → Int32) => [(w, .inl (cI, 16, .inl u))])) A) ([.ref a, .ref b, .ref w] : List Value).toArray s 0 0 A) (F0 m 8 ls []) := by
    intro k8
    induction k8 with
    | zero =>
      intro f2 H locs ls hi8 hdy hl
      refine lv_iload_n hx hb zd_W_multiply_8 rfl (lv_at hl 0 rfl) ?_
      refine lv_if_lt (tgt := 41) hx hb zd_W_multiply_9 (by decide) (fun hc9 => ?_) (fun hc9 => ?_)
      · exact kz_vret F (f2) hdy (trivial) zd_W_multiply_41
      · exact absurd (by decide) hc9
    | succ k8 ih8 =>
      intro f2 H locs ls hi8 hdy hl
      rw [nI_pred] at hl
      refine lv_iload_n hx hb zd_W_multiply_8 rfl (lv_at hl 0 rfl) ?_
      refine lv_if_lt (tgt := 41) hx hb zd_W_multiply_9 (by decide) (fun hc9 => ?_) (fun hc9 => ?_)
      · exact absurd hc9 (nI_pos (by omega))
      · refine lv_aload_n hx hb zd_W_multiply_12 rfl (lv_at hl 1 rfl) ?_
        refine lv_iload_n hx hb zd_W_multiply_13 rfl (lv_at hl 0 rfl) ?_
        refine va_iald hx hb hK (hro.at hdy.2.2) 0 0 rfl rfl (vp_in_nI (by omega) (by omega)) zd_W_multiply_14 ?_
        refine lv_topi (fun x3 _ => ?_)
        refine lv_if_eq (tgt := 35) hx hb zd_W_multiply_15 (by decide) (fun hc15 => ?_) (fun hc15 => ?_)
        · refine lv_iinc (v := (nI (k8) - 1)) (lv' := [(3, .int (nI (k8) - 1)), (0, .ref a), (1, .ref b), (2, .ref w)]) hx hb zd_W_multiply_35 hl (k := 0) rfl (kz_m1 _) (by decide) rfl (fun ls hl => ?_)
          refine lv_goto (tgt := 8) hx hb zd_W_multiply_38 (by decide) ?_
          exact ih8 f2 _ _ _ (by omega) hdy (lv_sub hl [0, 1, 2, 3] rfl)
        · refine lv_aload_n hx hb zd_W_multiply_18 rfl (lv_at hl 3 rfl) ?_
          refine lv_iload_n hx hb zd_W_multiply_19 rfl (lv_at hl 0 rfl) ?_
          refine lv_aload_n hx hb zd_W_multiply_20 rfl (lv_at hl 1 rfl) ?_
          refine lv_iload_n hx hb zd_W_multiply_21 rfl (lv_at hl 0 rfl) ?_
          refine va_iald hx hb hK (hro.at hdy.2.2) 0 0 rfl rfl (vp_in_nI (by omega) (by omega)) zd_W_multiply_22 ?_
          refine lv_topi (fun x4 _ => ?_)
          refine lv_i2l hx hb zd_W_multiply_23 rfl ?_
          refine lv_topl (fun y5 _ => ?_)
          refine lv_ldc2 (v := (4294967295)) hx hb hown (hts _ (kz_c mw_180)) zd_W_multiply_24 ?_
          refine kz_mask hx hb zd_W_multiply_27 (fun y6 hy6 => ?_)
          refine lv_aload_n hx hb zd_W_multiply_28 rfl (lv_at hl 2 rfl) ?_
          refine lv_aload_n hx hb zd_W_multiply_29 rfl (lv_at hl 3 rfl) ?_
          refine lv_iload_n hx hb zd_W_multiply_30 rfl (lv_at hl 0 rfl) ?_
          refine kz_calli (wk := []) (va_runS (As := [.long (lN y6), .ref b, .ref w, .int (nI (k8))]) (rest := [.int (nI (k8)), .ref w]) ⟨hx, hb, hml, hown, hts⟩ (c_Words_addMultiple l dC dI cI cAA cB cL w b f2 gb ((lN y6)) k8 _ (by first | omega | assumption)) (va_cwS 4 hts (kz_g (kz_mc mw_209 (kz_mc mw_210 (kz_mc mw_50 kz_mn))) mw_211) rfl rfl rfl (by decide +kernel) ⟨Nat.le_of_ble_eq_true rfl, Nat.le_of_ble_eq_true rfl⟩) (kz_preS hdy hA hK hro hZ hN [0] (by decide) rfl [(true, 1)] rfl (by decide) [0, 1, 2, 3] rfl (fun _ h => by cases h) (fun _ h => by cases h) rfl) rfl rfl hl.1 rfl (lv_room (Nat.le_of_ble_eq_true rfl)) zd_W_multiply_31 ⟨Nat.le_of_ble_eq_true rfl, Nat.le_of_ble_eq_true rfl⟩) hdy hA [0] [] rfl rfl (by decide) (by decide) (fun r u H locs hw hdy => ?_)
          obtain ⟨r8, rfl⟩ : ∃ z, z = r := ⟨_, rfl⟩
          obtain ⟨f7, rfl⟩ : ∃ z, z = u := ⟨_, rfl⟩
          have hdy : kz_dy (dC, dI) vwCl A s.heap H locs [(w, .inl (cI, 16, .inl f7))] := hdy.sub [0] (by decide) rfl
          refine va_iast hx hb hK hdy.1 hdy.2.1 hdy.2.2 0 0 rfl rfl (vp_in_nI (by omega) (by omega)) zd_W_multiply_34 (fun H locs hP hD hS => ?_)
          obtain ⟨f9, hdy⟩ : ∃ f9 : Nat → Int32, kz_dy (dC, dI) vwCl A s.heap H locs [(w, .inl (cI, 16, .inl f9))] := ⟨_, hP, hD, hS⟩
          refine lv_iinc (v := (nI (k8) - 1)) (lv' := [(3, .int (nI (k8) - 1)), (0, .ref a), (1, .ref b), (2, .ref w)]) hx hb zd_W_multiply_35 hl (k := 0) rfl (kz_m1 _) (by decide) rfl (fun ls hl => ?_)
          refine lv_goto (tgt := 8) hx hb zd_W_multiply_38 (by decide) ?_
          exact ih8 f9 _ _ _ (by omega) hdy (lv_sub hl [0, 1, 2, 3] rfl)
  exact lp8 8 f1 _ _ _ (by omega) hdy (lv_sub hl [0, 1, 2, 3] rfl)
end
section
/-! DECODE rows (by wip/names.py) -/
theorem zd_M_init_0 : decode zc_M_init 0 = .ok (.aload_n 0, 1) := by decide +kernel
theorem zd_M_init_1 : decode zc_M_init 1 = .ok (.invokespecial 3, 3) := by decide +kernel
theorem zd_M_init_4 : decode zc_M_init 4 = .ok (.aload_n 0, 1) := by decide +kernel
theorem zd_M_init_5 : decode zc_M_init 5 = .ok (.bipush 8, 2) := by decide +kernel
theorem zd_M_init_7 : decode zc_M_init 7 = .ok (.newarray .int, 2) := by decide +kernel
theorem zd_M_init_9 : decode zc_M_init 9 = .ok (.putfield 9, 3) := by decide +kernel
theorem zd_M_init_12 : decode zc_M_init 12 = .ok (.aload_n 0, 1) := by decide +kernel
theorem zd_M_init_13 : decode zc_M_init 13 = .ok (.bipush 8, 2) := by decide +kernel
theorem zd_M_init_15 : decode zc_M_init 15 = .ok (.newarray .int, 2) := by decide +kernel
theorem zd_M_init_17 : decode zc_M_init 17 = .ok (.putfield 15, 3) := by decide +kernel
theorem zd_M_init_20 : decode zc_M_init 20 = .ok (.aload_n 0, 1) := by decide +kernel
theorem zd_M_init_21 : decode zc_M_init 21 = .ok (.bipush 16, 2) := by decide +kernel
theorem zd_M_init_23 : decode zc_M_init 23 = .ok (.newarray .int, 2) := by decide +kernel
theorem zd_M_init_25 : decode zc_M_init 25 = .ok (.putfield 18, 3) := by decide +kernel
theorem zd_M_init_28 : decode zc_M_init 28 = .ok (.aload_n 0, 1) := by decide +kernel
theorem zd_M_init_29 : decode zc_M_init 29 = .ok (.bipush 8, 2) := by decide +kernel
theorem zd_M_init_31 : decode zc_M_init 31 = .ok (.newarray .int, 2) := by decide +kernel
theorem zd_M_init_33 : decode zc_M_init 33 = .ok (.putfield 21, 3) := by decide +kernel
theorem zd_M_init_36 : decode zc_M_init 36 = .ok (.aload_n 0, 1) := by decide +kernel
theorem zd_M_init_37 : decode zc_M_init 37 = .ok (.bipush 8, 2) := by decide +kernel
theorem zd_M_init_39 : decode zc_M_init 39 = .ok (.newarray .int, 2) := by decide +kernel
theorem zd_M_init_41 : decode zc_M_init 41 = .ok (.putfield 24, 3) := by decide +kernel
theorem zd_M_init_44 : decode zc_M_init 44 = .ok (.return_, 1) := by decide +kernel
theorem zd_M_take_0 : decode zc_M_take 0 = .ok (.aload_n 0, 1) := by decide +kernel
theorem zd_M_take_1 : decode zc_M_take 1 = .ok (.aload_n 1, 1) := by decide +kernel
theorem zd_M_take_2 : decode zc_M_take 2 = .ok (.invokestatic 27, 3) := by decide +kernel
theorem zd_M_take_5 : decode zc_M_take 5 = .ok (.putfield 33, 3) := by decide +kernel
theorem zd_M_take_8 : decode zc_M_take 8 = .ok (.aload_n 1, 1) := by decide +kernel
theorem zd_M_take_9 : decode zc_M_take 9 = .ok (.aload_n 0, 1) := by decide +kernel
theorem zd_M_take_10 : decode zc_M_take 10 = .ok (.getfield 33, 3) := by decide +kernel
theorem zd_M_take_13 : decode zc_M_take 13 = .ok (.aload_n 0, 1) := by decide +kernel
theorem zd_M_take_14 : decode zc_M_take 14 = .ok (.getfield 9, 3) := by decide +kernel
theorem zd_M_take_17 : decode zc_M_take 17 = .ok (.invokestatic 37, 3) := by decide +kernel
theorem zd_M_take_20 : decode zc_M_take 20 = .ok (.return_, 1) := by decide +kernel
theorem zd_M_power_0 : decode zc_M_power 0 = .ok (.aload_n 0, 1) := by decide +kernel
theorem zd_M_power_1 : decode zc_M_power 1 = .ok (.getstatic 41, 3) := by decide +kernel
theorem zd_M_power_4 : decode zc_M_power 4 = .ok (.getstatic 41, 3) := by decide +kernel
theorem zd_M_power_7 : decode zc_M_power 7 = .ok (.aload_n 0, 1) := by decide +kernel
theorem zd_M_power_8 : decode zc_M_power 8 = .ok (.getfield 24, 3) := by decide +kernel
theorem zd_M_power_11 : decode zc_M_power 11 = .ok (.invokevirtual 44, 3) := by decide +kernel
theorem zd_M_power_14 : decode zc_M_power 14 = .ok (.aload_n 2, 1) := by decide +kernel
theorem zd_M_power_15 : decode zc_M_power 15 = .ok (.invokestatic 27, 3) := by decide +kernel
theorem zd_M_power_18 : decode zc_M_power 18 = .ok (.istore 4, 2) := by decide +kernel
theorem zd_M_power_20 : decode zc_M_power 20 = .ok (.iload 4, 2) := by decide +kernel
theorem zd_M_power_22 : decode zc_M_power 22 = .ok (.sipush 256, 3) := by decide +kernel
theorem zd_M_power_25 : decode zc_M_power 25 = .ok (.if_icmp .ge 47, 3) := by decide +kernel
theorem zd_M_power_28 : decode zc_M_power 28 = .ok (.aload_n 0, 1) := by decide +kernel
theorem zd_M_power_29 : decode zc_M_power 29 = .ok (.aload_n 0, 1) := by decide +kernel
theorem zd_M_power_30 : decode zc_M_power 30 = .ok (.getfield 24, 3) := by decide +kernel
theorem zd_M_power_33 : decode zc_M_power 33 = .ok (.aload_n 0, 1) := by decide +kernel
theorem zd_M_power_34 : decode zc_M_power 34 = .ok (.getfield 24, 3) := by decide +kernel
theorem zd_M_power_37 : decode zc_M_power 37 = .ok (.aload_n 0, 1) := by decide +kernel
theorem zd_M_power_38 : decode zc_M_power 38 = .ok (.getfield 24, 3) := by decide +kernel
theorem zd_M_power_41 : decode zc_M_power 41 = .ok (.invokevirtual 44, 3) := by decide +kernel
theorem zd_M_power_44 : decode zc_M_power 44 = .ok (.aload_n 2, 1) := by decide +kernel
theorem zd_M_power_45 : decode zc_M_power 45 = .ok (.iload 4, 2) := by decide +kernel
theorem zd_M_power_47 : decode zc_M_power 47 = .ok (.invokestatic 48, 3) := by decide +kernel
theorem zd_M_power_50 : decode zc_M_power 50 = .ok (.ifCond .eq 16, 3) := by decide +kernel
theorem zd_M_power_53 : decode zc_M_power 53 = .ok (.aload_n 0, 1) := by decide +kernel
theorem zd_M_power_54 : decode zc_M_power 54 = .ok (.aload_n 0, 1) := by decide +kernel
theorem zd_M_power_55 : decode zc_M_power 55 = .ok (.getfield 24, 3) := by decide +kernel
theorem zd_M_power_58 : decode zc_M_power 58 = .ok (.aload_n 1, 1) := by decide +kernel
theorem zd_M_power_59 : decode zc_M_power 59 = .ok (.aload_n 0, 1) := by decide +kernel
theorem zd_M_power_60 : decode zc_M_power 60 = .ok (.getfield 24, 3) := by decide +kernel
theorem zd_M_power_63 : decode zc_M_power 63 = .ok (.invokevirtual 44, 3) := by decide +kernel
theorem zd_M_power_66 : decode zc_M_power 66 = .ok (.iinc 4 1, 3) := by decide +kernel
theorem zd_M_power_69 : decode zc_M_power 69 = .ok (.goto (-49), 3) := by decide +kernel
theorem zd_M_power_72 : decode zc_M_power 72 = .ok (.aload_n 0, 1) := by decide +kernel
theorem zd_M_power_73 : decode zc_M_power 73 = .ok (.getfield 24, 3) := by decide +kernel
theorem zd_M_power_76 : decode zc_M_power 76 = .ok (.aload_n 3, 1) := by decide +kernel
theorem zd_M_power_77 : decode zc_M_power 77 = .ok (.invokestatic 52, 3) := by decide +kernel
theorem zd_M_power_80 : decode zc_M_power 80 = .ok (.return_, 1) := by decide +kernel
theorem zd_M_multiply_0 : decode zc_M_multiply 0 = .ok (.aload_n 2, 1) := by decide +kernel
theorem zd_M_multiply_1 : decode zc_M_multiply 1 = .ok (.aload_n 0, 1) := by decide +kernel
theorem zd_M_multiply_2 : decode zc_M_multiply 2 = .ok (.getfield 33, 3) := by decide +kernel
theorem zd_M_multiply_5 : decode zc_M_multiply 5 = .ok (.aload_n 0, 1) := by decide +kernel
theorem zd_M_multiply_6 : decode zc_M_multiply 6 = .ok (.getfield 15, 3) := by decide +kernel
theorem zd_M_multiply_9 : decode zc_M_multiply 9 = .ok (.invokestatic 37, 3) := by decide +kernel
theorem zd_M_multiply_12 : decode zc_M_multiply 12 = .ok (.aload_n 1, 1) := by decide +kernel
theorem zd_M_multiply_13 : decode zc_M_multiply 13 = .ok (.aload_n 0, 1) := by decide +kernel
theorem zd_M_multiply_14 : decode zc_M_multiply 14 = .ok (.getfield 15, 3) := by decide +kernel
theorem zd_M_multiply_17 : decode zc_M_multiply 17 = .ok (.aload_n 0, 1) := by decide +kernel
theorem zd_M_multiply_18 : decode zc_M_multiply 18 = .ok (.getfield 18, 3) := by decide +kernel
theorem zd_M_multiply_21 : decode zc_M_multiply 21 = .ok (.invokestatic 56, 3) := by decide +kernel
theorem zd_M_multiply_24 : decode zc_M_multiply 24 = .ok (.aload_n 0, 1) := by decide +kernel
theorem zd_M_multiply_25 : decode zc_M_multiply 25 = .ok (.invokevirtual 57, 3) := by decide +kernel
theorem zd_M_multiply_28 : decode zc_M_multiply 28 = .ok (.aload_n 0, 1) := by decide +kernel
theorem zd_M_multiply_29 : decode zc_M_multiply 29 = .ok (.getfield 18, 3) := by decide +kernel
theorem zd_M_multiply_32 : decode zc_M_multiply 32 = .ok (.bipush 8, 2) := by decide +kernel
theorem zd_M_multiply_34 : decode zc_M_multiply 34 = .ok (.aload_n 0, 1) := by decide +kernel
theorem zd_M_multiply_35 : decode zc_M_multiply 35 = .ok (.getfield 21, 3) := by decide +kernel
theorem zd_M_multiply_38 : decode zc_M_multiply 38 = .ok (.iconst 0, 1) := by decide +kernel
theorem zd_M_multiply_39 : decode zc_M_multiply 39 = .ok (.bipush 8, 2) := by decide +kernel
theorem zd_M_multiply_41 : decode zc_M_multiply 41 = .ok (.invokestatic 60, 3) := by decide +kernel
theorem zd_M_multiply_44 : decode zc_M_multiply 44 = .ok (.aload_n 0, 1) := by decide +kernel
theorem zd_M_multiply_45 : decode zc_M_multiply 45 = .ok (.getfield 21, 3) := by decide +kernel
theorem zd_M_multiply_48 : decode zc_M_multiply 48 = .ok (.aload_n 0, 1) := by decide +kernel
theorem zd_M_multiply_49 : decode zc_M_multiply 49 = .ok (.getfield 33, 3) := by decide +kernel
theorem zd_M_multiply_52 : decode zc_M_multiply 52 = .ok (.aload_n 3, 1) := by decide +kernel
theorem zd_M_multiply_53 : decode zc_M_multiply 53 = .ok (.invokestatic 66, 3) := by decide +kernel
theorem zd_M_multiply_56 : decode zc_M_multiply 56 = .ok (.return_, 1) := by decide +kernel
theorem zd_M_reduce_0 : decode zc_M_reduce 0 = .ok (.iconst 0, 1) := by decide +kernel
theorem zd_M_reduce_1 : decode zc_M_reduce 1 = .ok (.istore_n 1, 1) := by decide +kernel
theorem zd_M_reduce_2 : decode zc_M_reduce 2 = .ok (.iload_n 1, 1) := by decide +kernel
theorem zd_M_reduce_3 : decode zc_M_reduce 3 = .ok (.bipush 8, 2) := by decide +kernel
theorem zd_M_reduce_5 : decode zc_M_reduce 5 = .ok (.if_icmp .ge 27, 3) := by decide +kernel
theorem zd_M_reduce_8 : decode zc_M_reduce 8 = .ok (.aload_n 0, 1) := by decide +kernel
theorem zd_M_reduce_9 : decode zc_M_reduce 9 = .ok (.iload_n 1, 1) := by decide +kernel
theorem zd_M_reduce_10 : decode zc_M_reduce 10 = .ok (.invokevirtual 69, 3) := by decide +kernel
theorem zd_M_reduce_13 : decode zc_M_reduce 13 = .ok (.lstore_n 2, 1) := by decide +kernel
theorem zd_M_reduce_14 : decode zc_M_reduce 14 = .ok (.lload_n 2, 1) := by decide +kernel
theorem zd_M_reduce_15 : decode zc_M_reduce 15 = .ok (.lconst 0, 1) := by decide +kernel
theorem zd_M_reduce_16 : decode zc_M_reduce 16 = .ok (.lcmp, 1) := by decide +kernel
theorem zd_M_reduce_17 : decode zc_M_reduce 17 = .ok (.ifCond .eq 9, 3) := by decide +kernel
theorem zd_M_reduce_20 : decode zc_M_reduce 20 = .ok (.aload_n 0, 1) := by decide +kernel
theorem zd_M_reduce_21 : decode zc_M_reduce 21 = .ok (.lload_n 2, 1) := by decide +kernel
theorem zd_M_reduce_22 : decode zc_M_reduce 22 = .ok (.iload_n 1, 1) := by decide +kernel
theorem zd_M_reduce_23 : decode zc_M_reduce 23 = .ok (.invokevirtual 73, 3) := by decide +kernel
theorem zd_M_reduce_26 : decode zc_M_reduce 26 = .ok (.iinc 1 1, 3) := by decide +kernel
theorem zd_M_reduce_29 : decode zc_M_reduce 29 = .ok (.goto (-27), 3) := by decide +kernel
theorem zd_M_reduce_32 : decode zc_M_reduce 32 = .ok (.return_, 1) := by decide +kernel
theorem zd_M_guessDigit_0 : decode zc_M_guessDigit 0 = .ok (.aload_n 0, 1) := by decide +kernel
theorem zd_M_guessDigit_1 : decode zc_M_guessDigit 1 = .ok (.getfield 18, 3) := by decide +kernel
theorem zd_M_guessDigit_4 : decode zc_M_guessDigit 4 = .ok (.iload_n 1, 1) := by decide +kernel
theorem zd_M_guessDigit_5 : decode zc_M_guessDigit 5 = .ok (.iaload, 1) := by decide +kernel
theorem zd_M_guessDigit_6 : decode zc_M_guessDigit 6 = .ok (.i2l, 1) := by decide +kernel
theorem zd_M_guessDigit_7 : decode zc_M_guessDigit 7 = .ok (.ldc2_w 77, 3) := by decide +kernel
theorem zd_M_guessDigit_10 : decode zc_M_guessDigit 10 = .ok (.land, 1) := by decide +kernel
theorem zd_M_guessDigit_11 : decode zc_M_guessDigit 11 = .ok (.lstore_n 2, 1) := by decide +kernel
theorem zd_M_guessDigit_12 : decode zc_M_guessDigit 12 = .ok (.aload_n 0, 1) := by decide +kernel
theorem zd_M_guessDigit_13 : decode zc_M_guessDigit 13 = .ok (.getfield 9, 3) := by decide +kernel
theorem zd_M_guessDigit_16 : decode zc_M_guessDigit 16 = .ok (.iconst 0, 1) := by decide +kernel
theorem zd_M_guessDigit_17 : decode zc_M_guessDigit 17 = .ok (.iaload, 1) := by decide +kernel
theorem zd_M_guessDigit_18 : decode zc_M_guessDigit 18 = .ok (.i2l, 1) := by decide +kernel
theorem zd_M_guessDigit_19 : decode zc_M_guessDigit 19 = .ok (.ldc2_w 77, 3) := by decide +kernel
theorem zd_M_guessDigit_22 : decode zc_M_guessDigit 22 = .ok (.land, 1) := by decide +kernel
theorem zd_M_guessDigit_23 : decode zc_M_guessDigit 23 = .ok (.lstore 4, 2) := by decide +kernel
theorem zd_M_guessDigit_25 : decode zc_M_guessDigit 25 = .ok (.lload_n 2, 1) := by decide +kernel
theorem zd_M_guessDigit_26 : decode zc_M_guessDigit 26 = .ok (.lload 4, 2) := by decide +kernel
theorem zd_M_guessDigit_28 : decode zc_M_guessDigit 28 = .ok (.lcmp, 1) := by decide +kernel
theorem zd_M_guessDigit_29 : decode zc_M_guessDigit 29 = .ok (.ifCond .lt 7, 3) := by decide +kernel
theorem zd_M_guessDigit_32 : decode zc_M_guessDigit 32 = .ok (.ldc2_w 77, 3) := by decide +kernel
theorem zd_M_guessDigit_35 : decode zc_M_guessDigit 35 = .ok (.lreturn, 1) := by decide +kernel
theorem zd_M_guessDigit_36 : decode zc_M_guessDigit 36 = .ok (.lload_n 2, 1) := by decide +kernel
theorem zd_M_guessDigit_37 : decode zc_M_guessDigit 37 = .ok (.bipush 32, 2) := by decide +kernel
theorem zd_M_guessDigit_39 : decode zc_M_guessDigit 39 = .ok (.lshl, 1) := by decide +kernel
theorem zd_M_guessDigit_40 : decode zc_M_guessDigit 40 = .ok (.aload_n 0, 1) := by decide +kernel
theorem zd_M_guessDigit_41 : decode zc_M_guessDigit 41 = .ok (.getfield 18, 3) := by decide +kernel
theorem zd_M_guessDigit_44 : decode zc_M_guessDigit 44 = .ok (.iload_n 1, 1) := by decide +kernel
theorem zd_M_guessDigit_45 : decode zc_M_guessDigit 45 = .ok (.iconst 1, 1) := by decide +kernel
theorem zd_M_guessDigit_46 : decode zc_M_guessDigit 46 = .ok (.iadd, 1) := by decide +kernel
theorem zd_M_guessDigit_47 : decode zc_M_guessDigit 47 = .ok (.iaload, 1) := by decide +kernel
theorem zd_M_guessDigit_48 : decode zc_M_guessDigit 48 = .ok (.i2l, 1) := by decide +kernel
theorem zd_M_guessDigit_49 : decode zc_M_guessDigit 49 = .ok (.ldc2_w 77, 3) := by decide +kernel
theorem zd_M_guessDigit_52 : decode zc_M_guessDigit 52 = .ok (.land, 1) := by decide +kernel
theorem zd_M_guessDigit_53 : decode zc_M_guessDigit 53 = .ok (.lor, 1) := by decide +kernel
theorem zd_M_guessDigit_54 : decode zc_M_guessDigit 54 = .ok (.lstore 6, 2) := by decide +kernel
theorem zd_M_guessDigit_56 : decode zc_M_guessDigit 56 = .ok (.lload 6, 2) := by decide +kernel
theorem zd_M_guessDigit_58 : decode zc_M_guessDigit 58 = .ok (.iconst 1, 1) := by decide +kernel
theorem zd_M_guessDigit_59 : decode zc_M_guessDigit 59 = .ok (.lushr, 1) := by decide +kernel
theorem zd_M_guessDigit_60 : decode zc_M_guessDigit 60 = .ok (.lload 4, 2) := by decide +kernel
theorem zd_M_guessDigit_62 : decode zc_M_guessDigit 62 = .ok (.ldiv, 1) := by decide +kernel
theorem zd_M_guessDigit_63 : decode zc_M_guessDigit 63 = .ok (.iconst 1, 1) := by decide +kernel
theorem zd_M_guessDigit_64 : decode zc_M_guessDigit 64 = .ok (.lshl, 1) := by decide +kernel
theorem zd_M_guessDigit_65 : decode zc_M_guessDigit 65 = .ok (.lstore 8, 2) := by decide +kernel
theorem zd_M_guessDigit_67 : decode zc_M_guessDigit 67 = .ok (.lload 6, 2) := by decide +kernel
theorem zd_M_guessDigit_69 : decode zc_M_guessDigit 69 = .ok (.lload 8, 2) := by decide +kernel
theorem zd_M_guessDigit_71 : decode zc_M_guessDigit 71 = .ok (.lload 4, 2) := by decide +kernel
theorem zd_M_guessDigit_73 : decode zc_M_guessDigit 73 = .ok (.lmul, 1) := by decide +kernel
theorem zd_M_guessDigit_74 : decode zc_M_guessDigit 74 = .ok (.lsub, 1) := by decide +kernel
theorem zd_M_guessDigit_75 : decode zc_M_guessDigit 75 = .ok (.lload 4, 2) := by decide +kernel
theorem zd_M_guessDigit_77 : decode zc_M_guessDigit 77 = .ok (.lcmp, 1) := by decide +kernel
theorem zd_M_guessDigit_78 : decode zc_M_guessDigit 78 = .ok (.ifCond .lt 10, 3) := by decide +kernel
theorem zd_M_guessDigit_81 : decode zc_M_guessDigit 81 = .ok (.lload 8, 2) := by decide +kernel
theorem zd_M_guessDigit_83 : decode zc_M_guessDigit 83 = .ok (.lconst 1, 1) := by decide +kernel
theorem zd_M_guessDigit_84 : decode zc_M_guessDigit 84 = .ok (.ladd, 1) := by decide +kernel
theorem zd_M_guessDigit_85 : decode zc_M_guessDigit 85 = .ok (.goto 5, 3) := by decide +kernel
theorem zd_M_guessDigit_88 : decode zc_M_guessDigit 88 = .ok (.lload 8, 2) := by decide +kernel
theorem zd_M_guessDigit_90 : decode zc_M_guessDigit 90 = .ok (.lreturn, 1) := by decide +kernel
theorem zd_M_takeAway_0 : decode zc_M_takeAway 0 = .ok (.lconst 0, 1) := by decide +kernel
theorem zd_M_takeAway_1 : decode zc_M_takeAway 1 = .ok (.lstore 4, 2) := by decide +kernel
theorem zd_M_takeAway_3 : decode zc_M_takeAway 3 = .ok (.bipush 7, 2) := by decide +kernel
theorem zd_M_takeAway_5 : decode zc_M_takeAway 5 = .ok (.istore 6, 2) := by decide +kernel
theorem zd_M_takeAway_7 : decode zc_M_takeAway 7 = .ok (.iload 6, 2) := by decide +kernel
theorem zd_M_takeAway_9 : decode zc_M_takeAway 9 = .ok (.ifCond .lt 88, 3) := by decide +kernel
theorem zd_M_takeAway_12 : decode zc_M_takeAway 12 = .ok (.lload_n 1, 1) := by decide +kernel
theorem zd_M_takeAway_13 : decode zc_M_takeAway 13 = .ok (.aload_n 0, 1) := by decide +kernel
theorem zd_M_takeAway_14 : decode zc_M_takeAway 14 = .ok (.getfield 9, 3) := by decide +kernel
theorem zd_M_takeAway_17 : decode zc_M_takeAway 17 = .ok (.iload 6, 2) := by decide +kernel
theorem zd_M_takeAway_19 : decode zc_M_takeAway 19 = .ok (.iaload, 1) := by decide +kernel
theorem zd_M_takeAway_20 : decode zc_M_takeAway 20 = .ok (.i2l, 1) := by decide +kernel
theorem zd_M_takeAway_21 : decode zc_M_takeAway 21 = .ok (.ldc2_w 77, 3) := by decide +kernel
theorem zd_M_takeAway_24 : decode zc_M_takeAway 24 = .ok (.land, 1) := by decide +kernel
theorem zd_M_takeAway_25 : decode zc_M_takeAway 25 = .ok (.lmul, 1) := by decide +kernel
theorem zd_M_takeAway_26 : decode zc_M_takeAway 26 = .ok (.lload 4, 2) := by decide +kernel
theorem zd_M_takeAway_28 : decode zc_M_takeAway 28 = .ok (.ladd, 1) := by decide +kernel
theorem zd_M_takeAway_29 : decode zc_M_takeAway 29 = .ok (.lstore 7, 2) := by decide +kernel
theorem zd_M_takeAway_31 : decode zc_M_takeAway 31 = .ok (.aload_n 0, 1) := by decide +kernel
theorem zd_M_takeAway_32 : decode zc_M_takeAway 32 = .ok (.getfield 18, 3) := by decide +kernel
theorem zd_M_takeAway_35 : decode zc_M_takeAway 35 = .ok (.iload_n 3, 1) := by decide +kernel
theorem zd_M_takeAway_36 : decode zc_M_takeAway 36 = .ok (.iconst 1, 1) := by decide +kernel
theorem zd_M_takeAway_37 : decode zc_M_takeAway 37 = .ok (.iadd, 1) := by decide +kernel
theorem zd_M_takeAway_38 : decode zc_M_takeAway 38 = .ok (.iload 6, 2) := by decide +kernel
theorem zd_M_takeAway_40 : decode zc_M_takeAway 40 = .ok (.iadd, 1) := by decide +kernel
theorem zd_M_takeAway_41 : decode zc_M_takeAway 41 = .ok (.iaload, 1) := by decide +kernel
theorem zd_M_takeAway_42 : decode zc_M_takeAway 42 = .ok (.i2l, 1) := by decide +kernel
theorem zd_M_takeAway_43 : decode zc_M_takeAway 43 = .ok (.ldc2_w 77, 3) := by decide +kernel
theorem zd_M_takeAway_46 : decode zc_M_takeAway 46 = .ok (.land, 1) := by decide +kernel
theorem zd_M_takeAway_47 : decode zc_M_takeAway 47 = .ok (.lload 7, 2) := by decide +kernel
theorem zd_M_takeAway_49 : decode zc_M_takeAway 49 = .ok (.ldc2_w 77, 3) := by decide +kernel
theorem zd_M_takeAway_52 : decode zc_M_takeAway 52 = .ok (.land, 1) := by decide +kernel
theorem zd_M_takeAway_53 : decode zc_M_takeAway 53 = .ok (.lsub, 1) := by decide +kernel
theorem zd_M_takeAway_54 : decode zc_M_takeAway 54 = .ok (.lstore 9, 2) := by decide +kernel
theorem zd_M_takeAway_56 : decode zc_M_takeAway 56 = .ok (.aload_n 0, 1) := by decide +kernel
theorem zd_M_takeAway_57 : decode zc_M_takeAway 57 = .ok (.getfield 18, 3) := by decide +kernel
theorem zd_M_takeAway_60 : decode zc_M_takeAway 60 = .ok (.iload_n 3, 1) := by decide +kernel
theorem zd_M_takeAway_61 : decode zc_M_takeAway 61 = .ok (.iconst 1, 1) := by decide +kernel
theorem zd_M_takeAway_62 : decode zc_M_takeAway 62 = .ok (.iadd, 1) := by decide +kernel
theorem zd_M_takeAway_63 : decode zc_M_takeAway 63 = .ok (.iload 6, 2) := by decide +kernel
theorem zd_M_takeAway_65 : decode zc_M_takeAway 65 = .ok (.iadd, 1) := by decide +kernel
theorem zd_M_takeAway_66 : decode zc_M_takeAway 66 = .ok (.lload 9, 2) := by decide +kernel
theorem zd_M_takeAway_68 : decode zc_M_takeAway 68 = .ok (.l2i, 1) := by decide +kernel
theorem zd_M_takeAway_69 : decode zc_M_takeAway 69 = .ok (.iastore, 1) := by decide +kernel
theorem zd_M_takeAway_70 : decode zc_M_takeAway 70 = .ok (.lload 7, 2) := by decide +kernel
theorem zd_M_takeAway_72 : decode zc_M_takeAway 72 = .ok (.bipush 32, 2) := by decide +kernel
theorem zd_M_takeAway_74 : decode zc_M_takeAway 74 = .ok (.lushr, 1) := by decide +kernel
theorem zd_M_takeAway_75 : decode zc_M_takeAway 75 = .ok (.lload 9, 2) := by decide +kernel
theorem zd_M_takeAway_77 : decode zc_M_takeAway 77 = .ok (.lconst 0, 1) := by decide +kernel
theorem zd_M_takeAway_78 : decode zc_M_takeAway 78 = .ok (.lcmp, 1) := by decide +kernel
theorem zd_M_takeAway_79 : decode zc_M_takeAway 79 = .ok (.ifCond .ge 7, 3) := by decide +kernel
theorem zd_M_takeAway_82 : decode zc_M_takeAway 82 = .ok (.iconst 1, 1) := by decide +kernel
theorem zd_M_takeAway_83 : decode zc_M_takeAway 83 = .ok (.goto 4, 3) := by decide +kernel
theorem zd_M_takeAway_86 : decode zc_M_takeAway 86 = .ok (.iconst 0, 1) := by decide +kernel
theorem zd_M_takeAway_87 : decode zc_M_takeAway 87 = .ok (.i2l, 1) := by decide +kernel
theorem zd_M_takeAway_88 : decode zc_M_takeAway 88 = .ok (.ladd, 1) := by decide +kernel
theorem zd_M_takeAway_89 : decode zc_M_takeAway 89 = .ok (.lstore 4, 2) := by decide +kernel
theorem zd_M_takeAway_91 : decode zc_M_takeAway 91 = .ok (.iinc 6 (-1), 3) := by decide +kernel
theorem zd_M_takeAway_94 : decode zc_M_takeAway 94 = .ok (.goto (-87), 3) := by decide +kernel
theorem zd_M_takeAway_97 : decode zc_M_takeAway 97 = .ok (.aload_n 0, 1) := by decide +kernel
theorem zd_M_takeAway_98 : decode zc_M_takeAway 98 = .ok (.getfield 18, 3) := by decide +kernel
theorem zd_M_takeAway_101 : decode zc_M_takeAway 101 = .ok (.iload_n 3, 1) := by decide +kernel
theorem zd_M_takeAway_102 : decode zc_M_takeAway 102 = .ok (.iaload, 1) := by decide +kernel
theorem zd_M_takeAway_103 : decode zc_M_takeAway 103 = .ok (.i2l, 1) := by decide +kernel
theorem zd_M_takeAway_104 : decode zc_M_takeAway 104 = .ok (.ldc2_w 77, 3) := by decide +kernel
theorem zd_M_takeAway_107 : decode zc_M_takeAway 107 = .ok (.land, 1) := by decide +kernel
theorem zd_M_takeAway_108 : decode zc_M_takeAway 108 = .ok (.lload 4, 2) := by decide +kernel
theorem zd_M_takeAway_110 : decode zc_M_takeAway 110 = .ok (.lsub, 1) := by decide +kernel
theorem zd_M_takeAway_111 : decode zc_M_takeAway 111 = .ok (.lstore 6, 2) := by decide +kernel
theorem zd_M_takeAway_113 : decode zc_M_takeAway 113 = .ok (.iconst 0, 1) := by decide +kernel
theorem zd_M_takeAway_114 : decode zc_M_takeAway 114 = .ok (.istore 8, 2) := by decide +kernel
theorem zd_M_takeAway_116 : decode zc_M_takeAway 116 = .ok (.iload 8, 2) := by decide +kernel
theorem zd_M_takeAway_118 : decode zc_M_takeAway 118 = .ok (.iconst 2, 1) := by decide +kernel
theorem zd_M_takeAway_119 : decode zc_M_takeAway 119 = .ok (.if_icmp .ge 26, 3) := by decide +kernel
theorem zd_M_takeAway_122 : decode zc_M_takeAway 122 = .ok (.lload 6, 2) := by decide +kernel
theorem zd_M_takeAway_124 : decode zc_M_takeAway 124 = .ok (.lconst 0, 1) := by decide +kernel
theorem zd_M_takeAway_125 : decode zc_M_takeAway 125 = .ok (.lcmp, 1) := by decide +kernel
theorem zd_M_takeAway_126 : decode zc_M_takeAway 126 = .ok (.ifCond .ge 19, 3) := by decide +kernel
theorem zd_M_takeAway_129 : decode zc_M_takeAway 129 = .ok (.lload 6, 2) := by decide +kernel
theorem zd_M_takeAway_131 : decode zc_M_takeAway 131 = .ok (.aload_n 0, 1) := by decide +kernel
theorem zd_M_takeAway_132 : decode zc_M_takeAway 132 = .ok (.iload_n 3, 1) := by decide +kernel
theorem zd_M_takeAway_133 : decode zc_M_takeAway 133 = .ok (.invokevirtual 79, 3) := by decide +kernel
theorem zd_M_takeAway_136 : decode zc_M_takeAway 136 = .ok (.ladd, 1) := by decide +kernel
theorem zd_M_takeAway_137 : decode zc_M_takeAway 137 = .ok (.lstore 6, 2) := by decide +kernel
theorem zd_M_takeAway_139 : decode zc_M_takeAway 139 = .ok (.iinc 8 1, 3) := by decide +kernel
theorem zd_M_takeAway_142 : decode zc_M_takeAway 142 = .ok (.goto (-26), 3) := by decide +kernel
theorem zd_M_takeAway_145 : decode zc_M_takeAway 145 = .ok (.return_, 1) := by decide +kernel
theorem zd_M_giveBack_0 : decode zc_M_giveBack 0 = .ok (.lconst 0, 1) := by decide +kernel
theorem zd_M_giveBack_1 : decode zc_M_giveBack 1 = .ok (.lstore_n 2, 1) := by decide +kernel
theorem zd_M_giveBack_2 : decode zc_M_giveBack 2 = .ok (.bipush 7, 2) := by decide +kernel
theorem zd_M_giveBack_4 : decode zc_M_giveBack 4 = .ok (.istore 4, 2) := by decide +kernel
theorem zd_M_giveBack_6 : decode zc_M_giveBack 6 = .ok (.iload 4, 2) := by decide +kernel
theorem zd_M_giveBack_8 : decode zc_M_giveBack 8 = .ok (.ifCond .lt 62, 3) := by decide +kernel
theorem zd_M_giveBack_11 : decode zc_M_giveBack 11 = .ok (.aload_n 0, 1) := by decide +kernel
theorem zd_M_giveBack_12 : decode zc_M_giveBack 12 = .ok (.getfield 18, 3) := by decide +kernel
theorem zd_M_giveBack_15 : decode zc_M_giveBack 15 = .ok (.iload_n 1, 1) := by decide +kernel
theorem zd_M_giveBack_16 : decode zc_M_giveBack 16 = .ok (.iconst 1, 1) := by decide +kernel
theorem zd_M_giveBack_17 : decode zc_M_giveBack 17 = .ok (.iadd, 1) := by decide +kernel
theorem zd_M_giveBack_18 : decode zc_M_giveBack 18 = .ok (.iload 4, 2) := by decide +kernel
theorem zd_M_giveBack_20 : decode zc_M_giveBack 20 = .ok (.iadd, 1) := by decide +kernel
theorem zd_M_giveBack_21 : decode zc_M_giveBack 21 = .ok (.iaload, 1) := by decide +kernel
theorem zd_M_giveBack_22 : decode zc_M_giveBack 22 = .ok (.i2l, 1) := by decide +kernel
theorem zd_M_giveBack_23 : decode zc_M_giveBack 23 = .ok (.ldc2_w 77, 3) := by decide +kernel
theorem zd_M_giveBack_26 : decode zc_M_giveBack 26 = .ok (.land, 1) := by decide +kernel
theorem zd_M_giveBack_27 : decode zc_M_giveBack 27 = .ok (.aload_n 0, 1) := by decide +kernel
theorem zd_M_giveBack_28 : decode zc_M_giveBack 28 = .ok (.getfield 9, 3) := by decide +kernel
theorem zd_M_giveBack_31 : decode zc_M_giveBack 31 = .ok (.iload 4, 2) := by decide +kernel
theorem zd_M_giveBack_33 : decode zc_M_giveBack 33 = .ok (.iaload, 1) := by decide +kernel
theorem zd_M_giveBack_34 : decode zc_M_giveBack 34 = .ok (.i2l, 1) := by decide +kernel
theorem zd_M_giveBack_35 : decode zc_M_giveBack 35 = .ok (.ldc2_w 77, 3) := by decide +kernel
theorem zd_M_giveBack_38 : decode zc_M_giveBack 38 = .ok (.land, 1) := by decide +kernel
theorem zd_M_giveBack_39 : decode zc_M_giveBack 39 = .ok (.ladd, 1) := by decide +kernel
theorem zd_M_giveBack_40 : decode zc_M_giveBack 40 = .ok (.lload_n 2, 1) := by decide +kernel
theorem zd_M_giveBack_41 : decode zc_M_giveBack 41 = .ok (.ladd, 1) := by decide +kernel
theorem zd_M_giveBack_42 : decode zc_M_giveBack 42 = .ok (.lstore 5, 2) := by decide +kernel
theorem zd_M_giveBack_44 : decode zc_M_giveBack 44 = .ok (.aload_n 0, 1) := by decide +kernel
theorem zd_M_giveBack_45 : decode zc_M_giveBack 45 = .ok (.getfield 18, 3) := by decide +kernel
theorem zd_M_giveBack_48 : decode zc_M_giveBack 48 = .ok (.iload_n 1, 1) := by decide +kernel
theorem zd_M_giveBack_49 : decode zc_M_giveBack 49 = .ok (.iconst 1, 1) := by decide +kernel
theorem zd_M_giveBack_50 : decode zc_M_giveBack 50 = .ok (.iadd, 1) := by decide +kernel
theorem zd_M_giveBack_51 : decode zc_M_giveBack 51 = .ok (.iload 4, 2) := by decide +kernel
theorem zd_M_giveBack_53 : decode zc_M_giveBack 53 = .ok (.iadd, 1) := by decide +kernel
theorem zd_M_giveBack_54 : decode zc_M_giveBack 54 = .ok (.lload 5, 2) := by decide +kernel
theorem zd_M_giveBack_56 : decode zc_M_giveBack 56 = .ok (.l2i, 1) := by decide +kernel
theorem zd_M_giveBack_57 : decode zc_M_giveBack 57 = .ok (.iastore, 1) := by decide +kernel
theorem zd_M_giveBack_58 : decode zc_M_giveBack 58 = .ok (.lload 5, 2) := by decide +kernel
theorem zd_M_giveBack_60 : decode zc_M_giveBack 60 = .ok (.bipush 32, 2) := by decide +kernel
theorem zd_M_giveBack_62 : decode zc_M_giveBack 62 = .ok (.lushr, 1) := by decide +kernel
theorem zd_M_giveBack_63 : decode zc_M_giveBack 63 = .ok (.lstore_n 2, 1) := by decide +kernel
theorem zd_M_giveBack_64 : decode zc_M_giveBack 64 = .ok (.iinc 4 (-1), 3) := by decide +kernel
theorem zd_M_giveBack_67 : decode zc_M_giveBack 67 = .ok (.goto (-61), 3) := by decide +kernel
theorem zd_M_giveBack_70 : decode zc_M_giveBack 70 = .ok (.lload_n 2, 1) := by decide +kernel
theorem zd_M_giveBack_71 : decode zc_M_giveBack 71 = .ok (.lreturn, 1) := by decide +kernel
theorem zd_M_rest_0 : decode zc_M_rest 0 = .ok (.aload_n 0, 1) := by decide +kernel
theorem zd_M_rest_1 : decode zc_M_rest 1 = .ok (.aload_n 1, 1) := by decide +kernel
theorem zd_M_rest_2 : decode zc_M_rest 2 = .ok (.getstatic 41, 3) := by decide +kernel
theorem zd_M_rest_5 : decode zc_M_rest 5 = .ok (.aload_n 2, 1) := by decide +kernel
theorem zd_M_rest_6 : decode zc_M_rest 6 = .ok (.invokevirtual 44, 3) := by decide +kernel
theorem zd_M_rest_9 : decode zc_M_rest 9 = .ok (.return_, 1) := by decide +kernel
theorem zd_H_init_0 : decode zc_H_init 0 = .ok (.aload_n 0, 1) := by decide +kernel
theorem zd_H_init_1 : decode zc_H_init 1 = .ok (.invokespecial 3, 3) := by decide +kernel
theorem zd_H_init_4 : decode zc_H_init 4 = .ok (.aload_n 0, 1) := by decide +kernel
theorem zd_H_init_5 : decode zc_H_init 5 = .ok (.bipush 8, 2) := by decide +kernel
theorem zd_H_init_7 : decode zc_H_init 7 = .ok (.newarray .int, 2) := by decide +kernel
theorem zd_H_init_9 : decode zc_H_init 9 = .ok (.putfield 9, 3) := by decide +kernel
theorem zd_H_init_12 : decode zc_H_init 12 = .ok (.aload_n 0, 1) := by decide +kernel
theorem zd_H_init_13 : decode zc_H_init 13 = .ok (.bipush 8, 2) := by decide +kernel
theorem zd_H_init_15 : decode zc_H_init 15 = .ok (.newarray .int, 2) := by decide +kernel
theorem zd_H_init_17 : decode zc_H_init 17 = .ok (.putfield 15, 3) := by decide +kernel
theorem zd_H_init_20 : decode zc_H_init 20 = .ok (.aload_n 0, 1) := by decide +kernel
theorem zd_H_init_21 : decode zc_H_init 21 = .ok (.bipush 8, 2) := by decide +kernel
theorem zd_H_init_23 : decode zc_H_init 23 = .ok (.newarray .int, 2) := by decide +kernel
theorem zd_H_init_25 : decode zc_H_init 25 = .ok (.putfield 18, 3) := by decide +kernel
theorem zd_H_init_28 : decode zc_H_init 28 = .ok (.aload_n 0, 1) := by decide +kernel
theorem zd_H_init_29 : decode zc_H_init 29 = .ok (.bipush 8, 2) := by decide +kernel
theorem zd_H_init_31 : decode zc_H_init 31 = .ok (.newarray .int, 2) := by decide +kernel
theorem zd_H_init_33 : decode zc_H_init 33 = .ok (.putfield 21, 3) := by decide +kernel
theorem zd_H_init_36 : decode zc_H_init 36 = .ok (.aload_n 0, 1) := by decide +kernel
theorem zd_H_init_37 : decode zc_H_init 37 = .ok (.bipush 16, 2) := by decide +kernel
theorem zd_H_init_39 : decode zc_H_init 39 = .ok (.newarray .int, 2) := by decide +kernel
theorem zd_H_init_41 : decode zc_H_init 41 = .ok (.putfield 24, 3) := by decide +kernel
theorem zd_H_init_44 : decode zc_H_init 44 = .ok (.return_, 1) := by decide +kernel
theorem zd_H_take_0 : decode zc_H_take 0 = .ok (.aload_n 1, 1) := by decide +kernel
theorem zd_H_take_1 : decode zc_H_take 1 = .ok (.aload_n 0, 1) := by decide +kernel
theorem zd_H_take_2 : decode zc_H_take 2 = .ok (.getfield 18, 3) := by decide +kernel
theorem zd_H_take_5 : decode zc_H_take 5 = .ok (.invokestatic 27, 3) := by decide +kernel
theorem zd_H_take_8 : decode zc_H_take 8 = .ok (.aload_n 2, 1) := by decide +kernel
theorem zd_H_take_9 : decode zc_H_take 9 = .ok (.aload_n 0, 1) := by decide +kernel
theorem zd_H_take_10 : decode zc_H_take 10 = .ok (.getfield 21, 3) := by decide +kernel
theorem zd_H_take_13 : decode zc_H_take 13 = .ok (.invokestatic 27, 3) := by decide +kernel
theorem zd_H_take_16 : decode zc_H_take 16 = .ok (.aload_n 0, 1) := by decide +kernel
theorem zd_H_take_17 : decode zc_H_take 17 = .ok (.getfield 18, 3) := by decide +kernel
theorem zd_H_take_20 : decode zc_H_take 20 = .ok (.iconst 3, 1) := by decide +kernel
theorem zd_H_take_21 : decode zc_H_take 21 = .ok (.invokestatic 31, 3) := by decide +kernel
theorem zd_H_take_24 : decode zc_H_take 24 = .ok (.ifCond .eq 14, 3) := by decide +kernel
theorem zd_H_take_27 : decode zc_H_take 27 = .ok (.aload_n 0, 1) := by decide +kernel
theorem zd_H_take_28 : decode zc_H_take 28 = .ok (.getfield 21, 3) := by decide +kernel
theorem zd_H_take_31 : decode zc_H_take 31 = .ok (.iconst 3, 1) := by decide +kernel
theorem zd_H_take_32 : decode zc_H_take 32 = .ok (.invokestatic 31, 3) := by decide +kernel
theorem zd_H_take_35 : decode zc_H_take 35 = .ok (.ifCond .ne 5, 3) := by decide +kernel
theorem zd_H_take_38 : decode zc_H_take 38 = .ok (.iconst 0, 1) := by decide +kernel
theorem zd_H_take_39 : decode zc_H_take 39 = .ok (.ireturn, 1) := by decide +kernel
theorem zd_H_take_40 : decode zc_H_take 40 = .ok (.aload_n 0, 1) := by decide +kernel
theorem zd_H_take_41 : decode zc_H_take 41 = .ok (.aload_n 0, 1) := by decide +kernel
theorem zd_H_take_42 : decode zc_H_take 42 = .ok (.getfield 9, 3) := by decide +kernel
theorem zd_H_take_45 : decode zc_H_take 45 = .ok (.invokevirtual 37, 3) := by decide +kernel
theorem zd_H_take_48 : decode zc_H_take 48 = .ok (.aload_n 0, 1) := by decide +kernel
theorem zd_H_take_49 : decode zc_H_take 49 = .ok (.getfield 18, 3) := by decide +kernel
theorem zd_H_take_52 : decode zc_H_take 52 = .ok (.iconst 1, 1) := by decide +kernel
theorem zd_H_take_53 : decode zc_H_take 53 = .ok (.aload_n 0, 1) := by decide +kernel
theorem zd_H_take_54 : decode zc_H_take 54 = .ok (.getfield 18, 3) := by decide +kernel
theorem zd_H_take_57 : decode zc_H_take 57 = .ok (.invokestatic 41, 3) := by decide +kernel
theorem zd_H_take_60 : decode zc_H_take 60 = .ok (.aload_n 0, 1) := by decide +kernel
theorem zd_H_take_61 : decode zc_H_take 61 = .ok (.getfield 21, 3) := by decide +kernel
theorem zd_H_take_64 : decode zc_H_take 64 = .ok (.iconst 1, 1) := by decide +kernel
theorem zd_H_take_65 : decode zc_H_take 65 = .ok (.aload_n 0, 1) := by decide +kernel
theorem zd_H_take_66 : decode zc_H_take 66 = .ok (.getfield 21, 3) := by decide +kernel
theorem zd_H_take_69 : decode zc_H_take 69 = .ok (.invokestatic 41, 3) := by decide +kernel
theorem zd_H_take_72 : decode zc_H_take 72 = .ok (.aload_n 0, 1) := by decide +kernel
theorem zd_H_take_73 : decode zc_H_take 73 = .ok (.aload_n 0, 1) := by decide +kernel
theorem zd_H_take_74 : decode zc_H_take 74 = .ok (.getfield 15, 3) := by decide +kernel
theorem zd_H_take_77 : decode zc_H_take 77 = .ok (.invokevirtual 37, 3) := by decide +kernel
theorem zd_H_take_80 : decode zc_H_take 80 = .ok (.aload_n 0, 1) := by decide +kernel
theorem zd_H_take_81 : decode zc_H_take 81 = .ok (.invokevirtual 45, 3) := by decide +kernel
theorem zd_H_take_84 : decode zc_H_take 84 = .ok (.ireturn, 1) := by decide +kernel
theorem zd_H_takeLowHalf_0 : decode zc_H_takeLowHalf 0 = .ok (.iconst 4, 1) := by decide +kernel
theorem zd_H_takeLowHalf_1 : decode zc_H_takeLowHalf 1 = .ok (.istore_n 2, 1) := by decide +kernel
theorem zd_H_takeLowHalf_2 : decode zc_H_takeLowHalf 2 = .ok (.iload_n 2, 1) := by decide +kernel
theorem zd_H_takeLowHalf_3 : decode zc_H_takeLowHalf 3 = .ok (.bipush 8, 2) := by decide +kernel
theorem zd_H_takeLowHalf_5 : decode zc_H_takeLowHalf 5 = .ok (.if_icmp .ge 15, 3) := by decide +kernel
theorem zd_H_takeLowHalf_8 : decode zc_H_takeLowHalf 8 = .ok (.aload_n 1, 1) := by decide +kernel
theorem zd_H_takeLowHalf_9 : decode zc_H_takeLowHalf 9 = .ok (.iload_n 2, 1) := by decide +kernel
theorem zd_H_takeLowHalf_10 : decode zc_H_takeLowHalf 10 = .ok (.aload_n 0, 1) := by decide +kernel
theorem zd_H_takeLowHalf_11 : decode zc_H_takeLowHalf 11 = .ok (.iload_n 2, 1) := by decide +kernel
theorem zd_H_takeLowHalf_12 : decode zc_H_takeLowHalf 12 = .ok (.iaload, 1) := by decide +kernel
theorem zd_H_takeLowHalf_13 : decode zc_H_takeLowHalf 13 = .ok (.iastore, 1) := by decide +kernel
theorem zd_H_takeLowHalf_14 : decode zc_H_takeLowHalf 14 = .ok (.iinc 2 1, 3) := by decide +kernel
theorem zd_H_takeLowHalf_17 : decode zc_H_takeLowHalf 17 = .ok (.goto (-15), 3) := by decide +kernel
theorem zd_H_takeLowHalf_20 : decode zc_H_takeLowHalf 20 = .ok (.return_, 1) := by decide +kernel
theorem zd_H_multiplyBoth_0 : decode zc_H_multiplyBoth 0 = .ok (.aload_n 0, 1) := by decide +kernel
theorem zd_H_multiplyBoth_1 : decode zc_H_multiplyBoth 1 = .ok (.getfield 18, 3) := by decide +kernel
theorem zd_H_multiplyBoth_4 : decode zc_H_multiplyBoth 4 = .ok (.aload_n 0, 1) := by decide +kernel
theorem zd_H_multiplyBoth_5 : decode zc_H_multiplyBoth 5 = .ok (.getfield 21, 3) := by decide +kernel
theorem zd_H_multiplyBoth_8 : decode zc_H_multiplyBoth 8 = .ok (.aload_n 0, 1) := by decide +kernel
theorem zd_H_multiplyBoth_9 : decode zc_H_multiplyBoth 9 = .ok (.getfield 24, 3) := by decide +kernel
theorem zd_H_multiplyBoth_12 : decode zc_H_multiplyBoth 12 = .ok (.invokestatic 49, 3) := by decide +kernel
theorem zd_H_multiplyBoth_15 : decode zc_H_multiplyBoth 15 = .ok (.aload_n 0, 1) := by decide +kernel
theorem zd_H_multiplyBoth_16 : decode zc_H_multiplyBoth 16 = .ok (.getfield 24, 3) := by decide +kernel
theorem zd_H_multiplyBoth_19 : decode zc_H_multiplyBoth 19 = .ok (.bipush 8, 2) := by decide +kernel
theorem zd_H_multiplyBoth_21 : decode zc_H_multiplyBoth 21 = .ok (.aload_n 1, 1) := by decide +kernel
theorem zd_H_multiplyBoth_22 : decode zc_H_multiplyBoth 22 = .ok (.iconst 0, 1) := by decide +kernel
theorem zd_H_multiplyBoth_23 : decode zc_H_multiplyBoth 23 = .ok (.bipush 8, 2) := by decide +kernel
theorem zd_H_multiplyBoth_25 : decode zc_H_multiplyBoth 25 = .ok (.invokestatic 53, 3) := by decide +kernel
theorem zd_H_multiplyBoth_28 : decode zc_H_multiplyBoth 28 = .ok (.return_, 1) := by decide +kernel
theorem zd_H_invert_0 : decode zc_H_invert 0 = .ok (.aload_n 0, 1) := by decide +kernel
theorem zd_H_invert_1 : decode zc_H_invert 1 = .ok (.invokevirtual 59, 3) := by decide +kernel
theorem zd_H_invert_4 : decode zc_H_invert 4 = .ok (.lstore_n 1, 1) := by decide +kernel
theorem zd_H_invert_5 : decode zc_H_invert 5 = .ok (.lload_n 1, 1) := by decide +kernel
theorem zd_H_invert_6 : decode zc_H_invert 6 = .ok (.lconst 0, 1) := by decide +kernel
theorem zd_H_invert_7 : decode zc_H_invert 7 = .ok (.lcmp, 1) := by decide +kernel
theorem zd_H_invert_8 : decode zc_H_invert 8 = .ok (.ifCond .ne 5, 3) := by decide +kernel
theorem zd_H_invert_11 : decode zc_H_invert 11 = .ok (.iconst 0, 1) := by decide +kernel
theorem zd_H_invert_12 : decode zc_H_invert 12 = .ok (.ireturn, 1) := by decide +kernel
theorem zd_H_invert_13 : decode zc_H_invert 13 = .ok (.ldc2_w 63, 3) := by decide +kernel
theorem zd_H_invert_16 : decode zc_H_invert 16 = .ok (.lload_n 1, 1) := by decide +kernel
theorem zd_H_invert_17 : decode zc_H_invert 17 = .ok (.invokestatic 65, 3) := by decide +kernel
theorem zd_H_invert_20 : decode zc_H_invert 20 = .ok (.lsub, 1) := by decide +kernel
theorem zd_H_invert_21 : decode zc_H_invert 21 = .ok (.lstore_n 3, 1) := by decide +kernel
theorem zd_H_invert_22 : decode zc_H_invert 22 = .ok (.lconst 1, 1) := by decide +kernel
theorem zd_H_invert_23 : decode zc_H_invert 23 = .ok (.lstore 5, 2) := by decide +kernel
theorem zd_H_invert_25 : decode zc_H_invert 25 = .ok (.bipush 7, 2) := by decide +kernel
theorem zd_H_invert_27 : decode zc_H_invert 27 = .ok (.istore 7, 2) := by decide +kernel
theorem zd_H_invert_29 : decode zc_H_invert 29 = .ok (.iload 7, 2) := by decide +kernel
theorem zd_H_invert_31 : decode zc_H_invert 31 = .ok (.ifCond .lt 45, 3) := by decide +kernel
theorem zd_H_invert_34 : decode zc_H_invert 34 = .ok (.lload_n 3, 1) := by decide +kernel
theorem zd_H_invert_35 : decode zc_H_invert 35 = .ok (.aload_n 0, 1) := by decide +kernel
theorem zd_H_invert_36 : decode zc_H_invert 36 = .ok (.getfield 15, 3) := by decide +kernel
theorem zd_H_invert_39 : decode zc_H_invert 39 = .ok (.iload 7, 2) := by decide +kernel
theorem zd_H_invert_41 : decode zc_H_invert 41 = .ok (.iaload, 1) := by decide +kernel
theorem zd_H_invert_42 : decode zc_H_invert 42 = .ok (.i2l, 1) := by decide +kernel
theorem zd_H_invert_43 : decode zc_H_invert 43 = .ok (.ldc2_w 69, 3) := by decide +kernel
theorem zd_H_invert_46 : decode zc_H_invert 46 = .ok (.land, 1) := by decide +kernel
theorem zd_H_invert_47 : decode zc_H_invert 47 = .ok (.lmul, 1) := by decide +kernel
theorem zd_H_invert_48 : decode zc_H_invert 48 = .ok (.lload 5, 2) := by decide +kernel
theorem zd_H_invert_50 : decode zc_H_invert 50 = .ok (.ladd, 1) := by decide +kernel
theorem zd_H_invert_51 : decode zc_H_invert 51 = .ok (.lstore 8, 2) := by decide +kernel
theorem zd_H_invert_53 : decode zc_H_invert 53 = .ok (.aload_n 0, 1) := by decide +kernel
theorem zd_H_invert_54 : decode zc_H_invert 54 = .ok (.getfield 15, 3) := by decide +kernel
theorem zd_H_invert_57 : decode zc_H_invert 57 = .ok (.iload 7, 2) := by decide +kernel
theorem zd_H_invert_59 : decode zc_H_invert 59 = .ok (.lload 8, 2) := by decide +kernel
theorem zd_H_invert_61 : decode zc_H_invert 61 = .ok (.l2i, 1) := by decide +kernel
theorem zd_H_invert_62 : decode zc_H_invert 62 = .ok (.iastore, 1) := by decide +kernel
theorem zd_H_invert_63 : decode zc_H_invert 63 = .ok (.lload 8, 2) := by decide +kernel
theorem zd_H_invert_65 : decode zc_H_invert 65 = .ok (.bipush 32, 2) := by decide +kernel
theorem zd_H_invert_67 : decode zc_H_invert 67 = .ok (.lushr, 1) := by decide +kernel
theorem zd_H_invert_68 : decode zc_H_invert 68 = .ok (.lstore 5, 2) := by decide +kernel
theorem zd_H_invert_70 : decode zc_H_invert 70 = .ok (.iinc 7 (-1), 3) := by decide +kernel
theorem zd_H_invert_73 : decode zc_H_invert 73 = .ok (.goto (-44), 3) := by decide +kernel
theorem zd_H_invert_76 : decode zc_H_invert 76 = .ok (.aload_n 0, 1) := by decide +kernel
theorem zd_H_invert_77 : decode zc_H_invert 77 = .ok (.lload 5, 2) := by decide +kernel
theorem zd_H_invert_79 : decode zc_H_invert 79 = .ok (.invokevirtual 71, 3) := by decide +kernel
theorem zd_H_invert_82 : decode zc_H_invert 82 = .ok (.iconst 1, 1) := by decide +kernel
theorem zd_H_invert_83 : decode zc_H_invert 83 = .ok (.ireturn, 1) := by decide +kernel
theorem zd_H_restOfInverse_0 : decode zc_H_restOfInverse 0 = .ok (.lconst 0, 1) := by decide +kernel
theorem zd_H_restOfInverse_1 : decode zc_H_restOfInverse 1 = .ok (.lstore_n 1, 1) := by decide +kernel
theorem zd_H_restOfInverse_2 : decode zc_H_restOfInverse 2 = .ok (.iconst 0, 1) := by decide +kernel
theorem zd_H_restOfInverse_3 : decode zc_H_restOfInverse 3 = .ok (.istore_n 3, 1) := by decide +kernel
theorem zd_H_restOfInverse_4 : decode zc_H_restOfInverse 4 = .ok (.iload_n 3, 1) := by decide +kernel
theorem zd_H_restOfInverse_5 : decode zc_H_restOfInverse 5 = .ok (.bipush 8, 2) := by decide +kernel
theorem zd_H_restOfInverse_7 : decode zc_H_restOfInverse 7 = .ok (.if_icmp .ge 30, 3) := by decide +kernel
theorem zd_H_restOfInverse_10 : decode zc_H_restOfInverse 10 = .ok (.lload_n 1, 1) := by decide +kernel
theorem zd_H_restOfInverse_11 : decode zc_H_restOfInverse 11 = .ok (.bipush 32, 2) := by decide +kernel
theorem zd_H_restOfInverse_13 : decode zc_H_restOfInverse 13 = .ok (.lshl, 1) := by decide +kernel
theorem zd_H_restOfInverse_14 : decode zc_H_restOfInverse 14 = .ok (.aload_n 0, 1) := by decide +kernel
theorem zd_H_restOfInverse_15 : decode zc_H_restOfInverse 15 = .ok (.getfield 15, 3) := by decide +kernel
theorem zd_H_restOfInverse_18 : decode zc_H_restOfInverse 18 = .ok (.iload_n 3, 1) := by decide +kernel
theorem zd_H_restOfInverse_19 : decode zc_H_restOfInverse 19 = .ok (.iaload, 1) := by decide +kernel
theorem zd_H_restOfInverse_20 : decode zc_H_restOfInverse 20 = .ok (.i2l, 1) := by decide +kernel
theorem zd_H_restOfInverse_21 : decode zc_H_restOfInverse 21 = .ok (.ldc2_w 69, 3) := by decide +kernel
theorem zd_H_restOfInverse_24 : decode zc_H_restOfInverse 24 = .ok (.land, 1) := by decide +kernel
theorem zd_H_restOfInverse_25 : decode zc_H_restOfInverse 25 = .ok (.lor, 1) := by decide +kernel
theorem zd_H_restOfInverse_26 : decode zc_H_restOfInverse 26 = .ok (.ldc2_w 63, 3) := by decide +kernel
theorem zd_H_restOfInverse_29 : decode zc_H_restOfInverse 29 = .ok (.lrem, 1) := by decide +kernel
theorem zd_H_restOfInverse_30 : decode zc_H_restOfInverse 30 = .ok (.lstore_n 1, 1) := by decide +kernel
theorem zd_H_restOfInverse_31 : decode zc_H_restOfInverse 31 = .ok (.iinc 3 1, 3) := by decide +kernel
theorem zd_H_restOfInverse_34 : decode zc_H_restOfInverse 34 = .ok (.goto (-30), 3) := by decide +kernel
theorem zd_H_restOfInverse_37 : decode zc_H_restOfInverse 37 = .ok (.lload_n 1, 1) := by decide +kernel
theorem zd_H_restOfInverse_38 : decode zc_H_restOfInverse 38 = .ok (.lreturn, 1) := by decide +kernel
theorem zd_H_inverseOfSmall_0 : decode zc_H_inverseOfSmall 0 = .ok (.lconst 1, 1) := by decide +kernel
theorem zd_H_inverseOfSmall_1 : decode zc_H_inverseOfSmall 1 = .ok (.lstore_n 2, 1) := by decide +kernel
theorem zd_H_inverseOfSmall_2 : decode zc_H_inverseOfSmall 2 = .ok (.iconst 0, 1) := by decide +kernel
theorem zd_H_inverseOfSmall_3 : decode zc_H_inverseOfSmall 3 = .ok (.istore 4, 2) := by decide +kernel
theorem zd_H_inverseOfSmall_5 : decode zc_H_inverseOfSmall 5 = .ok (.iload 4, 2) := by decide +kernel
theorem zd_H_inverseOfSmall_7 : decode zc_H_inverseOfSmall 7 = .ok (.bipush 16, 2) := by decide +kernel
theorem zd_H_inverseOfSmall_9 : decode zc_H_inverseOfSmall 9 = .ok (.if_icmp .ge 23, 3) := by decide +kernel
theorem zd_H_inverseOfSmall_12 : decode zc_H_inverseOfSmall 12 = .ok (.lload_n 2, 1) := by decide +kernel
theorem zd_H_inverseOfSmall_13 : decode zc_H_inverseOfSmall 13 = .ok (.lload_n 2, 1) := by decide +kernel
theorem zd_H_inverseOfSmall_14 : decode zc_H_inverseOfSmall 14 = .ok (.lmul, 1) := by decide +kernel
theorem zd_H_inverseOfSmall_15 : decode zc_H_inverseOfSmall 15 = .ok (.ldc2_w 63, 3) := by decide +kernel
theorem zd_H_inverseOfSmall_18 : decode zc_H_inverseOfSmall 18 = .ok (.lrem, 1) := by decide +kernel
theorem zd_H_inverseOfSmall_19 : decode zc_H_inverseOfSmall 19 = .ok (.lload_n 0, 1) := by decide +kernel
theorem zd_H_inverseOfSmall_20 : decode zc_H_inverseOfSmall 20 = .ok (.lmul, 1) := by decide +kernel
theorem zd_H_inverseOfSmall_21 : decode zc_H_inverseOfSmall 21 = .ok (.ldc2_w 63, 3) := by decide +kernel
theorem zd_H_inverseOfSmall_24 : decode zc_H_inverseOfSmall 24 = .ok (.lrem, 1) := by decide +kernel
theorem zd_H_inverseOfSmall_25 : decode zc_H_inverseOfSmall 25 = .ok (.lstore_n 2, 1) := by decide +kernel
theorem zd_H_inverseOfSmall_26 : decode zc_H_inverseOfSmall 26 = .ok (.iinc 4 1, 3) := by decide +kernel
theorem zd_H_inverseOfSmall_29 : decode zc_H_inverseOfSmall 29 = .ok (.goto (-24), 3) := by decide +kernel
theorem zd_H_inverseOfSmall_32 : decode zc_H_inverseOfSmall 32 = .ok (.lload_n 2, 1) := by decide +kernel
theorem zd_H_inverseOfSmall_33 : decode zc_H_inverseOfSmall 33 = .ok (.lreturn, 1) := by decide +kernel
theorem zd_H_divideInverse_0 : decode zc_H_divideInverse 0 = .ok (.lload_n 1, 1) := by decide +kernel
theorem zd_H_divideInverse_1 : decode zc_H_divideInverse 1 = .ok (.lstore_n 3, 1) := by decide +kernel
theorem zd_H_divideInverse_2 : decode zc_H_divideInverse 2 = .ok (.iconst 0, 1) := by decide +kernel
theorem zd_H_divideInverse_3 : decode zc_H_divideInverse 3 = .ok (.istore 5, 2) := by decide +kernel
theorem zd_H_divideInverse_5 : decode zc_H_divideInverse 5 = .ok (.iload 5, 2) := by decide +kernel
theorem zd_H_divideInverse_7 : decode zc_H_divideInverse 7 = .ok (.bipush 8, 2) := by decide +kernel
theorem zd_H_divideInverse_9 : decode zc_H_divideInverse 9 = .ok (.if_icmp .ge 49, 3) := by decide +kernel
theorem zd_H_divideInverse_12 : decode zc_H_divideInverse 12 = .ok (.lload_n 3, 1) := by decide +kernel
theorem zd_H_divideInverse_13 : decode zc_H_divideInverse 13 = .ok (.bipush 32, 2) := by decide +kernel
theorem zd_H_divideInverse_15 : decode zc_H_divideInverse 15 = .ok (.lshl, 1) := by decide +kernel
theorem zd_H_divideInverse_16 : decode zc_H_divideInverse 16 = .ok (.aload_n 0, 1) := by decide +kernel
theorem zd_H_divideInverse_17 : decode zc_H_divideInverse 17 = .ok (.getfield 15, 3) := by decide +kernel
theorem zd_H_divideInverse_20 : decode zc_H_divideInverse 20 = .ok (.iload 5, 2) := by decide +kernel
theorem zd_H_divideInverse_22 : decode zc_H_divideInverse 22 = .ok (.iaload, 1) := by decide +kernel
theorem zd_H_divideInverse_23 : decode zc_H_divideInverse 23 = .ok (.i2l, 1) := by decide +kernel
theorem zd_H_divideInverse_24 : decode zc_H_divideInverse 24 = .ok (.ldc2_w 69, 3) := by decide +kernel
theorem zd_H_divideInverse_27 : decode zc_H_divideInverse 27 = .ok (.land, 1) := by decide +kernel
theorem zd_H_divideInverse_28 : decode zc_H_divideInverse 28 = .ok (.lor, 1) := by decide +kernel
theorem zd_H_divideInverse_29 : decode zc_H_divideInverse 29 = .ok (.lstore 6, 2) := by decide +kernel
theorem zd_H_divideInverse_31 : decode zc_H_divideInverse 31 = .ok (.aload_n 0, 1) := by decide +kernel
theorem zd_H_divideInverse_32 : decode zc_H_divideInverse 32 = .ok (.getfield 15, 3) := by decide +kernel
theorem zd_H_divideInverse_35 : decode zc_H_divideInverse 35 = .ok (.iload 5, 2) := by decide +kernel
theorem zd_H_divideInverse_37 : decode zc_H_divideInverse 37 = .ok (.lload 6, 2) := by decide +kernel
theorem zd_H_divideInverse_39 : decode zc_H_divideInverse 39 = .ok (.ldc2_w 63, 3) := by decide +kernel
theorem zd_H_divideInverse_42 : decode zc_H_divideInverse 42 = .ok (.ldiv, 1) := by decide +kernel
theorem zd_H_divideInverse_43 : decode zc_H_divideInverse 43 = .ok (.l2i, 1) := by decide +kernel
theorem zd_H_divideInverse_44 : decode zc_H_divideInverse 44 = .ok (.iastore, 1) := by decide +kernel
theorem zd_H_divideInverse_45 : decode zc_H_divideInverse 45 = .ok (.lload 6, 2) := by decide +kernel
theorem zd_H_divideInverse_47 : decode zc_H_divideInverse 47 = .ok (.ldc2_w 63, 3) := by decide +kernel
theorem zd_H_divideInverse_50 : decode zc_H_divideInverse 50 = .ok (.lrem, 1) := by decide +kernel
theorem zd_H_divideInverse_51 : decode zc_H_divideInverse 51 = .ok (.lstore_n 3, 1) := by decide +kernel
theorem zd_H_divideInverse_52 : decode zc_H_divideInverse 52 = .ok (.iinc 5 1, 3) := by decide +kernel
theorem zd_H_divideInverse_55 : decode zc_H_divideInverse 55 = .ok (.goto (-50), 3) := by decide +kernel
theorem zd_H_divideInverse_58 : decode zc_H_divideInverse 58 = .ok (.return_, 1) := by decide +kernel
theorem zd_D_init_0 : decode zc_D_init 0 = .ok (.aload_n 0, 1) := by decide +kernel
theorem zd_D_init_1 : decode zc_D_init 1 = .ok (.invokespecial 3, 3) := by decide +kernel
theorem zd_D_init_4 : decode zc_D_init 4 = .ok (.aload_n 0, 1) := by decide +kernel
theorem zd_D_init_5 : decode zc_D_init 5 = .ok (.bipush 8, 2) := by decide +kernel
theorem zd_D_init_7 : decode zc_D_init 7 = .ok (.newarray .int, 2) := by decide +kernel
theorem zd_D_init_9 : decode zc_D_init 9 = .ok (.putfield 9, 3) := by decide +kernel
theorem zd_D_init_12 : decode zc_D_init 12 = .ok (.aload_n 0, 1) := by decide +kernel
theorem zd_D_init_13 : decode zc_D_init 13 = .ok (.bipush 64, 2) := by decide +kernel
theorem zd_D_init_15 : decode zc_D_init 15 = .ok (.newarray .int, 2) := by decide +kernel
theorem zd_D_init_17 : decode zc_D_init 17 = .ok (.putfield 15, 3) := by decide +kernel
theorem zd_D_init_20 : decode zc_D_init 20 = .ok (.return_, 1) := by decide +kernel
theorem zd_D_clear_0 : decode zc_D_clear 0 = .ok (.getstatic 18, 3) := by decide +kernel
theorem zd_D_clear_3 : decode zc_D_clear 3 = .ok (.aload_n 0, 1) := by decide +kernel
theorem zd_D_clear_4 : decode zc_D_clear 4 = .ok (.getfield 9, 3) := by decide +kernel
theorem zd_D_clear_7 : decode zc_D_clear 7 = .ok (.invokestatic 21, 3) := by decide +kernel
theorem zd_D_clear_10 : decode zc_D_clear 10 = .ok (.aload_n 0, 1) := by decide +kernel
theorem zd_D_clear_11 : decode zc_D_clear 11 = .ok (.iconst 0, 1) := by decide +kernel
theorem zd_D_clear_12 : decode zc_D_clear 12 = .ok (.putfield 27, 3) := by decide +kernel
theorem zd_D_clear_15 : decode zc_D_clear 15 = .ok (.return_, 1) := by decide +kernel
theorem zd_D_put_0 : decode zc_D_put 0 = .ok (.iconst 0, 1) := by decide +kernel
theorem zd_D_put_1 : decode zc_D_put 1 = .ok (.istore_n 2, 1) := by decide +kernel
theorem zd_D_put_2 : decode zc_D_put 2 = .ok (.iload_n 2, 1) := by decide +kernel
theorem zd_D_put_3 : decode zc_D_put 3 = .ok (.bipush 8, 2) := by decide +kernel
theorem zd_D_put_5 : decode zc_D_put 5 = .ok (.if_icmp .ge 16, 3) := by decide +kernel
theorem zd_D_put_8 : decode zc_D_put 8 = .ok (.aload_n 0, 1) := by decide +kernel
theorem zd_D_put_9 : decode zc_D_put 9 = .ok (.aload_n 1, 1) := by decide +kernel
theorem zd_D_put_10 : decode zc_D_put 10 = .ok (.iload_n 2, 1) := by decide +kernel
theorem zd_D_put_11 : decode zc_D_put 11 = .ok (.iaload, 1) := by decide +kernel
theorem zd_D_put_12 : decode zc_D_put 12 = .ok (.invokevirtual 31, 3) := by decide +kernel
theorem zd_D_put_15 : decode zc_D_put 15 = .ok (.iinc 2 1, 3) := by decide +kernel
theorem zd_D_put_18 : decode zc_D_put 18 = .ok (.goto (-16), 3) := by decide +kernel
theorem zd_D_put_21 : decode zc_D_put 21 = .ok (.return_, 1) := by decide +kernel
theorem zd_D_putWord_0 : decode zc_D_putWord 0 = .ok (.aload_n 0, 1) := by decide +kernel
theorem zd_D_putWord_1 : decode zc_D_putWord 1 = .ok (.getfield 15, 3) := by decide +kernel
theorem zd_D_putWord_4 : decode zc_D_putWord 4 = .ok (.aload_n 0, 1) := by decide +kernel
theorem zd_D_putWord_5 : decode zc_D_putWord 5 = .ok (.getfield 27, 3) := by decide +kernel
theorem zd_D_putWord_8 : decode zc_D_putWord 8 = .ok (.bipush 16, 2) := by decide +kernel
theorem zd_D_putWord_10 : decode zc_D_putWord 10 = .ok (.irem, 1) := by decide +kernel
theorem zd_D_putWord_11 : decode zc_D_putWord 11 = .ok (.iload_n 1, 1) := by decide +kernel
theorem zd_D_putWord_12 : decode zc_D_putWord 12 = .ok (.iastore, 1) := by decide +kernel
theorem zd_D_putWord_13 : decode zc_D_putWord 13 = .ok (.aload_n 0, 1) := by decide +kernel
theorem zd_D_putWord_14 : decode zc_D_putWord 14 = .ok (.dup, 1) := by decide +kernel
theorem zd_D_putWord_15 : decode zc_D_putWord 15 = .ok (.getfield 27, 3) := by decide +kernel
theorem zd_D_putWord_18 : decode zc_D_putWord 18 = .ok (.iconst 1, 1) := by decide +kernel
theorem zd_D_putWord_19 : decode zc_D_putWord 19 = .ok (.iadd, 1) := by decide +kernel
theorem zd_D_putWord_20 : decode zc_D_putWord 20 = .ok (.putfield 27, 3) := by decide +kernel
theorem zd_D_putWord_23 : decode zc_D_putWord 23 = .ok (.aload_n 0, 1) := by decide +kernel
theorem zd_D_putWord_24 : decode zc_D_putWord 24 = .ok (.getfield 27, 3) := by decide +kernel
theorem zd_D_putWord_27 : decode zc_D_putWord 27 = .ok (.bipush 16, 2) := by decide +kernel
theorem zd_D_putWord_29 : decode zc_D_putWord 29 = .ok (.irem, 1) := by decide +kernel
theorem zd_D_putWord_30 : decode zc_D_putWord 30 = .ok (.ifCond .ne 7, 3) := by decide +kernel
theorem zd_D_putWord_33 : decode zc_D_putWord 33 = .ok (.aload_n 0, 1) := by decide +kernel
theorem zd_D_putWord_34 : decode zc_D_putWord 34 = .ok (.invokevirtual 44, 3) := by decide +kernel
theorem zd_D_putWord_37 : decode zc_D_putWord 37 = .ok (.return_, 1) := by decide +kernel
theorem zd_D_mixRow_0 : decode zc_D_mixRow 0 = .ok (.aload_n 0, 1) := by decide +kernel
theorem zd_D_mixRow_1 : decode zc_D_mixRow 1 = .ok (.invokevirtual 47, 3) := by decide +kernel
theorem zd_D_mixRow_4 : decode zc_D_mixRow 4 = .ok (.aload_n 0, 1) := by decide +kernel
theorem zd_D_mixRow_5 : decode zc_D_mixRow 5 = .ok (.getfield 9, 3) := by decide +kernel
theorem zd_D_mixRow_8 : decode zc_D_mixRow 8 = .ok (.iconst 0, 1) := by decide +kernel
theorem zd_D_mixRow_9 : decode zc_D_mixRow 9 = .ok (.iaload, 1) := by decide +kernel
theorem zd_D_mixRow_10 : decode zc_D_mixRow 10 = .ok (.istore_n 1, 1) := by decide +kernel
theorem zd_D_mixRow_11 : decode zc_D_mixRow 11 = .ok (.aload_n 0, 1) := by decide +kernel
theorem zd_D_mixRow_12 : decode zc_D_mixRow 12 = .ok (.getfield 9, 3) := by decide +kernel
theorem zd_D_mixRow_15 : decode zc_D_mixRow 15 = .ok (.iconst 1, 1) := by decide +kernel
theorem zd_D_mixRow_16 : decode zc_D_mixRow 16 = .ok (.iaload, 1) := by decide +kernel
theorem zd_D_mixRow_17 : decode zc_D_mixRow 17 = .ok (.istore_n 2, 1) := by decide +kernel
theorem zd_D_mixRow_18 : decode zc_D_mixRow 18 = .ok (.aload_n 0, 1) := by decide +kernel
theorem zd_D_mixRow_19 : decode zc_D_mixRow 19 = .ok (.getfield 9, 3) := by decide +kernel
theorem zd_D_mixRow_22 : decode zc_D_mixRow 22 = .ok (.iconst 2, 1) := by decide +kernel
theorem zd_D_mixRow_23 : decode zc_D_mixRow 23 = .ok (.iaload, 1) := by decide +kernel
theorem zd_D_mixRow_24 : decode zc_D_mixRow 24 = .ok (.istore_n 3, 1) := by decide +kernel
theorem zd_D_mixRow_25 : decode zc_D_mixRow 25 = .ok (.aload_n 0, 1) := by decide +kernel
theorem zd_D_mixRow_26 : decode zc_D_mixRow 26 = .ok (.getfield 9, 3) := by decide +kernel
theorem zd_D_mixRow_29 : decode zc_D_mixRow 29 = .ok (.iconst 3, 1) := by decide +kernel
theorem zd_D_mixRow_30 : decode zc_D_mixRow 30 = .ok (.iaload, 1) := by decide +kernel
theorem zd_D_mixRow_31 : decode zc_D_mixRow 31 = .ok (.istore 4, 2) := by decide +kernel
theorem zd_D_mixRow_33 : decode zc_D_mixRow 33 = .ok (.aload_n 0, 1) := by decide +kernel
theorem zd_D_mixRow_34 : decode zc_D_mixRow 34 = .ok (.getfield 9, 3) := by decide +kernel
theorem zd_D_mixRow_37 : decode zc_D_mixRow 37 = .ok (.iconst 4, 1) := by decide +kernel
theorem zd_D_mixRow_38 : decode zc_D_mixRow 38 = .ok (.iaload, 1) := by decide +kernel
theorem zd_D_mixRow_39 : decode zc_D_mixRow 39 = .ok (.istore 5, 2) := by decide +kernel
theorem zd_D_mixRow_41 : decode zc_D_mixRow 41 = .ok (.aload_n 0, 1) := by decide +kernel
theorem zd_D_mixRow_42 : decode zc_D_mixRow 42 = .ok (.getfield 9, 3) := by decide +kernel
theorem zd_D_mixRow_45 : decode zc_D_mixRow 45 = .ok (.iconst 5, 1) := by decide +kernel
theorem zd_D_mixRow_46 : decode zc_D_mixRow 46 = .ok (.iaload, 1) := by decide +kernel
theorem zd_D_mixRow_47 : decode zc_D_mixRow 47 = .ok (.istore 6, 2) := by decide +kernel
theorem zd_D_mixRow_49 : decode zc_D_mixRow 49 = .ok (.aload_n 0, 1) := by decide +kernel
theorem zd_D_mixRow_50 : decode zc_D_mixRow 50 = .ok (.getfield 9, 3) := by decide +kernel
theorem zd_D_mixRow_53 : decode zc_D_mixRow 53 = .ok (.bipush 6, 2) := by decide +kernel
theorem zd_D_mixRow_55 : decode zc_D_mixRow 55 = .ok (.iaload, 1) := by decide +kernel
theorem zd_D_mixRow_56 : decode zc_D_mixRow 56 = .ok (.istore 7, 2) := by decide +kernel
theorem zd_D_mixRow_58 : decode zc_D_mixRow 58 = .ok (.aload_n 0, 1) := by decide +kernel
theorem zd_D_mixRow_59 : decode zc_D_mixRow 59 = .ok (.getfield 9, 3) := by decide +kernel
theorem zd_D_mixRow_62 : decode zc_D_mixRow 62 = .ok (.bipush 7, 2) := by decide +kernel
theorem zd_D_mixRow_64 : decode zc_D_mixRow 64 = .ok (.iaload, 1) := by decide +kernel
theorem zd_D_mixRow_65 : decode zc_D_mixRow 65 = .ok (.istore 8, 2) := by decide +kernel
theorem zd_D_mixRow_67 : decode zc_D_mixRow 67 = .ok (.iconst 0, 1) := by decide +kernel
theorem zd_D_mixRow_68 : decode zc_D_mixRow 68 = .ok (.istore 9, 2) := by decide +kernel
theorem zd_D_mixRow_70 : decode zc_D_mixRow 70 = .ok (.iload 9, 2) := by decide +kernel
theorem zd_D_mixRow_72 : decode zc_D_mixRow 72 = .ok (.bipush 64, 2) := by decide +kernel
theorem zd_D_mixRow_74 : decode zc_D_mixRow 74 = .ok (.if_icmp .ge 131, 3) := by decide +kernel
theorem zd_D_mixRow_77 : decode zc_D_mixRow 77 = .ok (.iload 8, 2) := by decide +kernel
theorem zd_D_mixRow_79 : decode zc_D_mixRow 79 = .ok (.iload 5, 2) := by decide +kernel
theorem zd_D_mixRow_81 : decode zc_D_mixRow 81 = .ok (.bipush 6, 2) := by decide +kernel
theorem zd_D_mixRow_83 : decode zc_D_mixRow 83 = .ok (.invokestatic 50, 3) := by decide +kernel
theorem zd_D_mixRow_86 : decode zc_D_mixRow 86 = .ok (.iload 5, 2) := by decide +kernel
theorem zd_D_mixRow_88 : decode zc_D_mixRow 88 = .ok (.bipush 11, 2) := by decide +kernel
theorem zd_D_mixRow_90 : decode zc_D_mixRow 90 = .ok (.invokestatic 50, 3) := by decide +kernel
theorem zd_D_mixRow_93 : decode zc_D_mixRow 93 = .ok (.ixor, 1) := by decide +kernel
theorem zd_D_mixRow_94 : decode zc_D_mixRow 94 = .ok (.iload 5, 2) := by decide +kernel
theorem zd_D_mixRow_96 : decode zc_D_mixRow 96 = .ok (.bipush 25, 2) := by decide +kernel
theorem zd_D_mixRow_98 : decode zc_D_mixRow 98 = .ok (.invokestatic 50, 3) := by decide +kernel
theorem zd_D_mixRow_101 : decode zc_D_mixRow 101 = .ok (.ixor, 1) := by decide +kernel
theorem zd_D_mixRow_102 : decode zc_D_mixRow 102 = .ok (.iadd, 1) := by decide +kernel
theorem zd_D_mixRow_103 : decode zc_D_mixRow 103 = .ok (.iload 5, 2) := by decide +kernel
theorem zd_D_mixRow_105 : decode zc_D_mixRow 105 = .ok (.iload 6, 2) := by decide +kernel
theorem zd_D_mixRow_107 : decode zc_D_mixRow 107 = .ok (.iand, 1) := by decide +kernel
theorem zd_D_mixRow_108 : decode zc_D_mixRow 108 = .ok (.iload 5, 2) := by decide +kernel
theorem zd_D_mixRow_110 : decode zc_D_mixRow 110 = .ok (.iconst (-1), 1) := by decide +kernel
theorem zd_D_mixRow_111 : decode zc_D_mixRow 111 = .ok (.ixor, 1) := by decide +kernel
theorem zd_D_mixRow_112 : decode zc_D_mixRow 112 = .ok (.iload 7, 2) := by decide +kernel
theorem zd_D_mixRow_114 : decode zc_D_mixRow 114 = .ok (.iand, 1) := by decide +kernel
theorem zd_D_mixRow_115 : decode zc_D_mixRow 115 = .ok (.ixor, 1) := by decide +kernel
theorem zd_D_mixRow_116 : decode zc_D_mixRow 116 = .ok (.iadd, 1) := by decide +kernel
theorem zd_D_mixRow_117 : decode zc_D_mixRow 117 = .ok (.getstatic 54, 3) := by decide +kernel
theorem zd_D_mixRow_120 : decode zc_D_mixRow 120 = .ok (.iload 9, 2) := by decide +kernel
theorem zd_D_mixRow_122 : decode zc_D_mixRow 122 = .ok (.iaload, 1) := by decide +kernel
theorem zd_D_mixRow_123 : decode zc_D_mixRow 123 = .ok (.iadd, 1) := by decide +kernel
theorem zd_D_mixRow_124 : decode zc_D_mixRow 124 = .ok (.aload_n 0, 1) := by decide +kernel
theorem zd_D_mixRow_125 : decode zc_D_mixRow 125 = .ok (.getfield 15, 3) := by decide +kernel
theorem zd_D_mixRow_128 : decode zc_D_mixRow 128 = .ok (.iload 9, 2) := by decide +kernel
theorem zd_D_mixRow_130 : decode zc_D_mixRow 130 = .ok (.iaload, 1) := by decide +kernel
theorem zd_D_mixRow_131 : decode zc_D_mixRow 131 = .ok (.iadd, 1) := by decide +kernel
theorem zd_D_mixRow_132 : decode zc_D_mixRow 132 = .ok (.istore 10, 2) := by decide +kernel
theorem zd_D_mixRow_134 : decode zc_D_mixRow 134 = .ok (.iload_n 1, 1) := by decide +kernel
theorem zd_D_mixRow_135 : decode zc_D_mixRow 135 = .ok (.iconst 2, 1) := by decide +kernel
theorem zd_D_mixRow_136 : decode zc_D_mixRow 136 = .ok (.invokestatic 50, 3) := by decide +kernel
theorem zd_D_mixRow_139 : decode zc_D_mixRow 139 = .ok (.iload_n 1, 1) := by decide +kernel
theorem zd_D_mixRow_140 : decode zc_D_mixRow 140 = .ok (.bipush 13, 2) := by decide +kernel
theorem zd_D_mixRow_142 : decode zc_D_mixRow 142 = .ok (.invokestatic 50, 3) := by decide +kernel
theorem zd_D_mixRow_145 : decode zc_D_mixRow 145 = .ok (.ixor, 1) := by decide +kernel
theorem zd_D_mixRow_146 : decode zc_D_mixRow 146 = .ok (.iload_n 1, 1) := by decide +kernel
theorem zd_D_mixRow_147 : decode zc_D_mixRow 147 = .ok (.bipush 22, 2) := by decide +kernel
theorem zd_D_mixRow_149 : decode zc_D_mixRow 149 = .ok (.invokestatic 50, 3) := by decide +kernel
theorem zd_D_mixRow_152 : decode zc_D_mixRow 152 = .ok (.ixor, 1) := by decide +kernel
theorem zd_D_mixRow_153 : decode zc_D_mixRow 153 = .ok (.iload_n 1, 1) := by decide +kernel
theorem zd_D_mixRow_154 : decode zc_D_mixRow 154 = .ok (.iload_n 2, 1) := by decide +kernel
theorem zd_D_mixRow_155 : decode zc_D_mixRow 155 = .ok (.iand, 1) := by decide +kernel
theorem zd_D_mixRow_156 : decode zc_D_mixRow 156 = .ok (.iload_n 1, 1) := by decide +kernel
theorem zd_D_mixRow_157 : decode zc_D_mixRow 157 = .ok (.iload_n 3, 1) := by decide +kernel
theorem zd_D_mixRow_158 : decode zc_D_mixRow 158 = .ok (.iand, 1) := by decide +kernel
theorem zd_D_mixRow_159 : decode zc_D_mixRow 159 = .ok (.ixor, 1) := by decide +kernel
theorem zd_D_mixRow_160 : decode zc_D_mixRow 160 = .ok (.iload_n 2, 1) := by decide +kernel
theorem zd_D_mixRow_161 : decode zc_D_mixRow 161 = .ok (.iload_n 3, 1) := by decide +kernel
theorem zd_D_mixRow_162 : decode zc_D_mixRow 162 = .ok (.iand, 1) := by decide +kernel
theorem zd_D_mixRow_163 : decode zc_D_mixRow 163 = .ok (.ixor, 1) := by decide +kernel
theorem zd_D_mixRow_164 : decode zc_D_mixRow 164 = .ok (.iadd, 1) := by decide +kernel
theorem zd_D_mixRow_165 : decode zc_D_mixRow 165 = .ok (.istore 11, 2) := by decide +kernel
theorem zd_D_mixRow_167 : decode zc_D_mixRow 167 = .ok (.iload 7, 2) := by decide +kernel
theorem zd_D_mixRow_169 : decode zc_D_mixRow 169 = .ok (.istore 8, 2) := by decide +kernel
theorem zd_D_mixRow_171 : decode zc_D_mixRow 171 = .ok (.iload 6, 2) := by decide +kernel
theorem zd_D_mixRow_173 : decode zc_D_mixRow 173 = .ok (.istore 7, 2) := by decide +kernel
theorem zd_D_mixRow_175 : decode zc_D_mixRow 175 = .ok (.iload 5, 2) := by decide +kernel
theorem zd_D_mixRow_177 : decode zc_D_mixRow 177 = .ok (.istore 6, 2) := by decide +kernel
theorem zd_D_mixRow_179 : decode zc_D_mixRow 179 = .ok (.iload 4, 2) := by decide +kernel
theorem zd_D_mixRow_181 : decode zc_D_mixRow 181 = .ok (.iload 10, 2) := by decide +kernel
theorem zd_D_mixRow_183 : decode zc_D_mixRow 183 = .ok (.iadd, 1) := by decide +kernel
theorem zd_D_mixRow_184 : decode zc_D_mixRow 184 = .ok (.istore 5, 2) := by decide +kernel
theorem zd_D_mixRow_186 : decode zc_D_mixRow 186 = .ok (.iload_n 3, 1) := by decide +kernel
theorem zd_D_mixRow_187 : decode zc_D_mixRow 187 = .ok (.istore 4, 2) := by decide +kernel
theorem zd_D_mixRow_189 : decode zc_D_mixRow 189 = .ok (.iload_n 2, 1) := by decide +kernel
theorem zd_D_mixRow_190 : decode zc_D_mixRow 190 = .ok (.istore_n 3, 1) := by decide +kernel
theorem zd_D_mixRow_191 : decode zc_D_mixRow 191 = .ok (.iload_n 1, 1) := by decide +kernel
theorem zd_D_mixRow_192 : decode zc_D_mixRow 192 = .ok (.istore_n 2, 1) := by decide +kernel
theorem zd_D_mixRow_193 : decode zc_D_mixRow 193 = .ok (.iload 10, 2) := by decide +kernel
theorem zd_D_mixRow_195 : decode zc_D_mixRow 195 = .ok (.iload 11, 2) := by decide +kernel
theorem zd_D_mixRow_197 : decode zc_D_mixRow 197 = .ok (.iadd, 1) := by decide +kernel
theorem zd_D_mixRow_198 : decode zc_D_mixRow 198 = .ok (.istore_n 1, 1) := by decide +kernel
theorem zd_D_mixRow_199 : decode zc_D_mixRow 199 = .ok (.iinc 9 1, 3) := by decide +kernel
theorem zd_D_mixRow_202 : decode zc_D_mixRow 202 = .ok (.goto (-132), 3) := by decide +kernel
theorem zd_D_mixRow_205 : decode zc_D_mixRow 205 = .ok (.aload_n 0, 1) := by decide +kernel
theorem zd_D_mixRow_206 : decode zc_D_mixRow 206 = .ok (.getfield 9, 3) := by decide +kernel
theorem zd_D_mixRow_209 : decode zc_D_mixRow 209 = .ok (.iconst 0, 1) := by decide +kernel
theorem zd_D_mixRow_210 : decode zc_D_mixRow 210 = .ok (.dup2, 1) := by decide +kernel
theorem zd_D_mixRow_211 : decode zc_D_mixRow 211 = .ok (.iaload, 1) := by decide +kernel
theorem zd_D_mixRow_212 : decode zc_D_mixRow 212 = .ok (.iload_n 1, 1) := by decide +kernel
theorem zd_D_mixRow_213 : decode zc_D_mixRow 213 = .ok (.iadd, 1) := by decide +kernel
theorem zd_D_mixRow_214 : decode zc_D_mixRow 214 = .ok (.iastore, 1) := by decide +kernel
theorem zd_D_mixRow_215 : decode zc_D_mixRow 215 = .ok (.aload_n 0, 1) := by decide +kernel
theorem zd_D_mixRow_216 : decode zc_D_mixRow 216 = .ok (.getfield 9, 3) := by decide +kernel
theorem zd_D_mixRow_219 : decode zc_D_mixRow 219 = .ok (.iconst 1, 1) := by decide +kernel
theorem zd_D_mixRow_220 : decode zc_D_mixRow 220 = .ok (.dup2, 1) := by decide +kernel
theorem zd_D_mixRow_221 : decode zc_D_mixRow 221 = .ok (.iaload, 1) := by decide +kernel
theorem zd_D_mixRow_222 : decode zc_D_mixRow 222 = .ok (.iload_n 2, 1) := by decide +kernel
theorem zd_D_mixRow_223 : decode zc_D_mixRow 223 = .ok (.iadd, 1) := by decide +kernel
theorem zd_D_mixRow_224 : decode zc_D_mixRow 224 = .ok (.iastore, 1) := by decide +kernel
theorem zd_D_mixRow_225 : decode zc_D_mixRow 225 = .ok (.aload_n 0, 1) := by decide +kernel
theorem zd_D_mixRow_226 : decode zc_D_mixRow 226 = .ok (.getfield 9, 3) := by decide +kernel
theorem zd_D_mixRow_229 : decode zc_D_mixRow 229 = .ok (.iconst 2, 1) := by decide +kernel
theorem zd_D_mixRow_230 : decode zc_D_mixRow 230 = .ok (.dup2, 1) := by decide +kernel
theorem zd_D_mixRow_231 : decode zc_D_mixRow 231 = .ok (.iaload, 1) := by decide +kernel
theorem zd_D_mixRow_232 : decode zc_D_mixRow 232 = .ok (.iload_n 3, 1) := by decide +kernel
theorem zd_D_mixRow_233 : decode zc_D_mixRow 233 = .ok (.iadd, 1) := by decide +kernel
theorem zd_D_mixRow_234 : decode zc_D_mixRow 234 = .ok (.iastore, 1) := by decide +kernel
theorem zd_D_mixRow_235 : decode zc_D_mixRow 235 = .ok (.aload_n 0, 1) := by decide +kernel
theorem zd_D_mixRow_236 : decode zc_D_mixRow 236 = .ok (.getfield 9, 3) := by decide +kernel
theorem zd_D_mixRow_239 : decode zc_D_mixRow 239 = .ok (.iconst 3, 1) := by decide +kernel
theorem zd_D_mixRow_240 : decode zc_D_mixRow 240 = .ok (.dup2, 1) := by decide +kernel
theorem zd_D_mixRow_241 : decode zc_D_mixRow 241 = .ok (.iaload, 1) := by decide +kernel
theorem zd_D_mixRow_242 : decode zc_D_mixRow 242 = .ok (.iload 4, 2) := by decide +kernel
theorem zd_D_mixRow_244 : decode zc_D_mixRow 244 = .ok (.iadd, 1) := by decide +kernel
theorem zd_D_mixRow_245 : decode zc_D_mixRow 245 = .ok (.iastore, 1) := by decide +kernel
theorem zd_D_mixRow_246 : decode zc_D_mixRow 246 = .ok (.aload_n 0, 1) := by decide +kernel
theorem zd_D_mixRow_247 : decode zc_D_mixRow 247 = .ok (.getfield 9, 3) := by decide +kernel
theorem zd_D_mixRow_250 : decode zc_D_mixRow 250 = .ok (.iconst 4, 1) := by decide +kernel
theorem zd_D_mixRow_251 : decode zc_D_mixRow 251 = .ok (.dup2, 1) := by decide +kernel
theorem zd_D_mixRow_252 : decode zc_D_mixRow 252 = .ok (.iaload, 1) := by decide +kernel
theorem zd_D_mixRow_253 : decode zc_D_mixRow 253 = .ok (.iload 5, 2) := by decide +kernel
theorem zd_D_mixRow_255 : decode zc_D_mixRow 255 = .ok (.iadd, 1) := by decide +kernel
theorem zd_D_mixRow_256 : decode zc_D_mixRow 256 = .ok (.iastore, 1) := by decide +kernel
theorem zd_D_mixRow_257 : decode zc_D_mixRow 257 = .ok (.aload_n 0, 1) := by decide +kernel
theorem zd_D_mixRow_258 : decode zc_D_mixRow 258 = .ok (.getfield 9, 3) := by decide +kernel
theorem zd_D_mixRow_261 : decode zc_D_mixRow 261 = .ok (.iconst 5, 1) := by decide +kernel
theorem zd_D_mixRow_262 : decode zc_D_mixRow 262 = .ok (.dup2, 1) := by decide +kernel
theorem zd_D_mixRow_263 : decode zc_D_mixRow 263 = .ok (.iaload, 1) := by decide +kernel
theorem zd_D_mixRow_264 : decode zc_D_mixRow 264 = .ok (.iload 6, 2) := by decide +kernel
theorem zd_D_mixRow_266 : decode zc_D_mixRow 266 = .ok (.iadd, 1) := by decide +kernel
theorem zd_D_mixRow_267 : decode zc_D_mixRow 267 = .ok (.iastore, 1) := by decide +kernel
theorem zd_D_mixRow_268 : decode zc_D_mixRow 268 = .ok (.aload_n 0, 1) := by decide +kernel
theorem zd_D_mixRow_269 : decode zc_D_mixRow 269 = .ok (.getfield 9, 3) := by decide +kernel
theorem zd_D_mixRow_272 : decode zc_D_mixRow 272 = .ok (.bipush 6, 2) := by decide +kernel
theorem zd_D_mixRow_274 : decode zc_D_mixRow 274 = .ok (.dup2, 1) := by decide +kernel
theorem zd_D_mixRow_275 : decode zc_D_mixRow 275 = .ok (.iaload, 1) := by decide +kernel
theorem zd_D_mixRow_276 : decode zc_D_mixRow 276 = .ok (.iload 7, 2) := by decide +kernel
theorem zd_D_mixRow_278 : decode zc_D_mixRow 278 = .ok (.iadd, 1) := by decide +kernel
theorem zd_D_mixRow_279 : decode zc_D_mixRow 279 = .ok (.iastore, 1) := by decide +kernel
theorem zd_D_mixRow_280 : decode zc_D_mixRow 280 = .ok (.aload_n 0, 1) := by decide +kernel
theorem zd_D_mixRow_281 : decode zc_D_mixRow 281 = .ok (.getfield 9, 3) := by decide +kernel
theorem zd_D_mixRow_284 : decode zc_D_mixRow 284 = .ok (.bipush 7, 2) := by decide +kernel
theorem zd_D_mixRow_286 : decode zc_D_mixRow 286 = .ok (.dup2, 1) := by decide +kernel
theorem zd_D_mixRow_287 : decode zc_D_mixRow 287 = .ok (.iaload, 1) := by decide +kernel
theorem zd_D_mixRow_288 : decode zc_D_mixRow 288 = .ok (.iload 8, 2) := by decide +kernel
theorem zd_D_mixRow_290 : decode zc_D_mixRow 290 = .ok (.iadd, 1) := by decide +kernel
theorem zd_D_mixRow_291 : decode zc_D_mixRow 291 = .ok (.iastore, 1) := by decide +kernel
theorem zd_D_mixRow_292 : decode zc_D_mixRow 292 = .ok (.return_, 1) := by decide +kernel
theorem zd_D_spreadRow_0 : decode zc_D_spreadRow 0 = .ok (.bipush 16, 2) := by decide +kernel
theorem zd_D_spreadRow_2 : decode zc_D_spreadRow 2 = .ok (.istore_n 1, 1) := by decide +kernel
theorem zd_D_spreadRow_3 : decode zc_D_spreadRow 3 = .ok (.iload_n 1, 1) := by decide +kernel
theorem zd_D_spreadRow_4 : decode zc_D_spreadRow 4 = .ok (.bipush 64, 2) := by decide +kernel
theorem zd_D_spreadRow_6 : decode zc_D_spreadRow 6 = .ok (.if_icmp .ge 100, 3) := by decide +kernel
theorem zd_D_spreadRow_9 : decode zc_D_spreadRow 9 = .ok (.aload_n 0, 1) := by decide +kernel
theorem zd_D_spreadRow_10 : decode zc_D_spreadRow 10 = .ok (.getfield 15, 3) := by decide +kernel
theorem zd_D_spreadRow_13 : decode zc_D_spreadRow 13 = .ok (.iload_n 1, 1) := by decide +kernel
theorem zd_D_spreadRow_14 : decode zc_D_spreadRow 14 = .ok (.bipush 15, 2) := by decide +kernel
theorem zd_D_spreadRow_16 : decode zc_D_spreadRow 16 = .ok (.isub, 1) := by decide +kernel
theorem zd_D_spreadRow_17 : decode zc_D_spreadRow 17 = .ok (.iaload, 1) := by decide +kernel
theorem zd_D_spreadRow_18 : decode zc_D_spreadRow 18 = .ok (.istore_n 2, 1) := by decide +kernel
theorem zd_D_spreadRow_19 : decode zc_D_spreadRow 19 = .ok (.iload_n 2, 1) := by decide +kernel
theorem zd_D_spreadRow_20 : decode zc_D_spreadRow 20 = .ok (.bipush 7, 2) := by decide +kernel
theorem zd_D_spreadRow_22 : decode zc_D_spreadRow 22 = .ok (.invokestatic 50, 3) := by decide +kernel
theorem zd_D_spreadRow_25 : decode zc_D_spreadRow 25 = .ok (.iload_n 2, 1) := by decide +kernel
theorem zd_D_spreadRow_26 : decode zc_D_spreadRow 26 = .ok (.bipush 18, 2) := by decide +kernel
theorem zd_D_spreadRow_28 : decode zc_D_spreadRow 28 = .ok (.invokestatic 50, 3) := by decide +kernel
theorem zd_D_spreadRow_31 : decode zc_D_spreadRow 31 = .ok (.ixor, 1) := by decide +kernel
theorem zd_D_spreadRow_32 : decode zc_D_spreadRow 32 = .ok (.iload_n 2, 1) := by decide +kernel
theorem zd_D_spreadRow_33 : decode zc_D_spreadRow 33 = .ok (.iconst 3, 1) := by decide +kernel
theorem zd_D_spreadRow_34 : decode zc_D_spreadRow 34 = .ok (.iushr, 1) := by decide +kernel
theorem zd_D_spreadRow_35 : decode zc_D_spreadRow 35 = .ok (.ixor, 1) := by decide +kernel
theorem zd_D_spreadRow_36 : decode zc_D_spreadRow 36 = .ok (.istore_n 3, 1) := by decide +kernel
theorem zd_D_spreadRow_37 : decode zc_D_spreadRow 37 = .ok (.aload_n 0, 1) := by decide +kernel
theorem zd_D_spreadRow_38 : decode zc_D_spreadRow 38 = .ok (.getfield 15, 3) := by decide +kernel
theorem zd_D_spreadRow_41 : decode zc_D_spreadRow 41 = .ok (.iload_n 1, 1) := by decide +kernel
theorem zd_D_spreadRow_42 : decode zc_D_spreadRow 42 = .ok (.iconst 2, 1) := by decide +kernel
theorem zd_D_spreadRow_43 : decode zc_D_spreadRow 43 = .ok (.isub, 1) := by decide +kernel
theorem zd_D_spreadRow_44 : decode zc_D_spreadRow 44 = .ok (.iaload, 1) := by decide +kernel
theorem zd_D_spreadRow_45 : decode zc_D_spreadRow 45 = .ok (.istore 4, 2) := by decide +kernel
theorem zd_D_spreadRow_47 : decode zc_D_spreadRow 47 = .ok (.iload 4, 2) := by decide +kernel
theorem zd_D_spreadRow_49 : decode zc_D_spreadRow 49 = .ok (.bipush 17, 2) := by decide +kernel
theorem zd_D_spreadRow_51 : decode zc_D_spreadRow 51 = .ok (.invokestatic 50, 3) := by decide +kernel
theorem zd_D_spreadRow_54 : decode zc_D_spreadRow 54 = .ok (.iload 4, 2) := by decide +kernel
theorem zd_D_spreadRow_56 : decode zc_D_spreadRow 56 = .ok (.bipush 19, 2) := by decide +kernel
theorem zd_D_spreadRow_58 : decode zc_D_spreadRow 58 = .ok (.invokestatic 50, 3) := by decide +kernel
theorem zd_D_spreadRow_61 : decode zc_D_spreadRow 61 = .ok (.ixor, 1) := by decide +kernel
theorem zd_D_spreadRow_62 : decode zc_D_spreadRow 62 = .ok (.iload 4, 2) := by decide +kernel
theorem zd_D_spreadRow_64 : decode zc_D_spreadRow 64 = .ok (.bipush 10, 2) := by decide +kernel
theorem zd_D_spreadRow_66 : decode zc_D_spreadRow 66 = .ok (.iushr, 1) := by decide +kernel
theorem zd_D_spreadRow_67 : decode zc_D_spreadRow 67 = .ok (.ixor, 1) := by decide +kernel
theorem zd_D_spreadRow_68 : decode zc_D_spreadRow 68 = .ok (.istore 5, 2) := by decide +kernel
theorem zd_D_spreadRow_70 : decode zc_D_spreadRow 70 = .ok (.aload_n 0, 1) := by decide +kernel
theorem zd_D_spreadRow_71 : decode zc_D_spreadRow 71 = .ok (.getfield 15, 3) := by decide +kernel
theorem zd_D_spreadRow_74 : decode zc_D_spreadRow 74 = .ok (.iload_n 1, 1) := by decide +kernel
theorem zd_D_spreadRow_75 : decode zc_D_spreadRow 75 = .ok (.aload_n 0, 1) := by decide +kernel
theorem zd_D_spreadRow_76 : decode zc_D_spreadRow 76 = .ok (.getfield 15, 3) := by decide +kernel
theorem zd_D_spreadRow_79 : decode zc_D_spreadRow 79 = .ok (.iload_n 1, 1) := by decide +kernel
theorem zd_D_spreadRow_80 : decode zc_D_spreadRow 80 = .ok (.bipush 16, 2) := by decide +kernel
theorem zd_D_spreadRow_82 : decode zc_D_spreadRow 82 = .ok (.isub, 1) := by decide +kernel
theorem zd_D_spreadRow_83 : decode zc_D_spreadRow 83 = .ok (.iaload, 1) := by decide +kernel
theorem zd_D_spreadRow_84 : decode zc_D_spreadRow 84 = .ok (.iload_n 3, 1) := by decide +kernel
theorem zd_D_spreadRow_85 : decode zc_D_spreadRow 85 = .ok (.iadd, 1) := by decide +kernel
theorem zd_D_spreadRow_86 : decode zc_D_spreadRow 86 = .ok (.aload_n 0, 1) := by decide +kernel
theorem zd_D_spreadRow_87 : decode zc_D_spreadRow 87 = .ok (.getfield 15, 3) := by decide +kernel
theorem zd_D_spreadRow_90 : decode zc_D_spreadRow 90 = .ok (.iload_n 1, 1) := by decide +kernel
theorem zd_D_spreadRow_91 : decode zc_D_spreadRow 91 = .ok (.bipush 7, 2) := by decide +kernel
theorem zd_D_spreadRow_93 : decode zc_D_spreadRow 93 = .ok (.isub, 1) := by decide +kernel
theorem zd_D_spreadRow_94 : decode zc_D_spreadRow 94 = .ok (.iaload, 1) := by decide +kernel
theorem zd_D_spreadRow_95 : decode zc_D_spreadRow 95 = .ok (.iadd, 1) := by decide +kernel
theorem zd_D_spreadRow_96 : decode zc_D_spreadRow 96 = .ok (.iload 5, 2) := by decide +kernel
theorem zd_D_spreadRow_98 : decode zc_D_spreadRow 98 = .ok (.iadd, 1) := by decide +kernel
theorem zd_D_spreadRow_99 : decode zc_D_spreadRow 99 = .ok (.iastore, 1) := by decide +kernel
theorem zd_D_spreadRow_100 : decode zc_D_spreadRow 100 = .ok (.iinc 1 1, 3) := by decide +kernel
theorem zd_D_spreadRow_103 : decode zc_D_spreadRow 103 = .ok (.goto (-100), 3) := by decide +kernel
theorem zd_D_spreadRow_106 : decode zc_D_spreadRow 106 = .ok (.return_, 1) := by decide +kernel
theorem zd_D_turn_0 : decode zc_D_turn 0 = .ok (.iload_n 0, 1) := by decide +kernel
theorem zd_D_turn_1 : decode zc_D_turn 1 = .ok (.iload_n 1, 1) := by decide +kernel
theorem zd_D_turn_2 : decode zc_D_turn 2 = .ok (.iushr, 1) := by decide +kernel
theorem zd_D_turn_3 : decode zc_D_turn 3 = .ok (.iload_n 0, 1) := by decide +kernel
theorem zd_D_turn_4 : decode zc_D_turn 4 = .ok (.bipush 32, 2) := by decide +kernel
theorem zd_D_turn_6 : decode zc_D_turn 6 = .ok (.iload_n 1, 1) := by decide +kernel
theorem zd_D_turn_7 : decode zc_D_turn 7 = .ok (.isub, 1) := by decide +kernel
theorem zd_D_turn_8 : decode zc_D_turn 8 = .ok (.ishl, 1) := by decide +kernel
theorem zd_D_turn_9 : decode zc_D_turn 9 = .ok (.ior, 1) := by decide +kernel
theorem zd_D_turn_10 : decode zc_D_turn 10 = .ok (.ireturn, 1) := by decide +kernel
theorem zd_D_end_0 : decode zc_D_end 0 = .ok (.ldc2_w 35, 3) := by decide +kernel
theorem zd_D_end_3 : decode zc_D_end 3 = .ok (.aload_n 0, 1) := by decide +kernel
theorem zd_D_end_4 : decode zc_D_end 4 = .ok (.getfield 27, 3) := by decide +kernel
theorem zd_D_end_7 : decode zc_D_end 7 = .ok (.i2l, 1) := by decide +kernel
theorem zd_D_end_8 : decode zc_D_end 8 = .ok (.lmul, 1) := by decide +kernel
theorem zd_D_end_9 : decode zc_D_end 9 = .ok (.iload_n 2, 1) := by decide +kernel
theorem zd_D_end_10 : decode zc_D_end 10 = .ok (.i2l, 1) := by decide +kernel
theorem zd_D_end_11 : decode zc_D_end 11 = .ok (.ladd, 1) := by decide +kernel
theorem zd_D_end_12 : decode zc_D_end 12 = .ok (.lstore 5, 2) := by decide +kernel
theorem zd_D_end_14 : decode zc_D_end 14 = .ok (.aload_n 0, 1) := by decide +kernel
theorem zd_D_end_15 : decode zc_D_end 15 = .ok (.iload_n 1, 1) := by decide +kernel
theorem zd_D_end_16 : decode zc_D_end 16 = .ok (.ldc 37, 2) := by decide +kernel
theorem zd_D_end_18 : decode zc_D_end 18 = .ok (.iload_n 2, 1) := by decide +kernel
theorem zd_D_end_19 : decode zc_D_end 19 = .ok (.iushr, 1) := by decide +kernel
theorem zd_D_end_20 : decode zc_D_end 20 = .ok (.ior, 1) := by decide +kernel
theorem zd_D_end_21 : decode zc_D_end 21 = .ok (.invokevirtual 31, 3) := by decide +kernel
theorem zd_D_end_24 : decode zc_D_end 24 = .ok (.iconst 0, 1) := by decide +kernel
theorem zd_D_end_25 : decode zc_D_end 25 = .ok (.istore 7, 2) := by decide +kernel
theorem zd_D_end_27 : decode zc_D_end 27 = .ok (.iload 7, 2) := by decide +kernel
theorem zd_D_end_29 : decode zc_D_end 29 = .ok (.bipush 16, 2) := by decide +kernel
theorem zd_D_end_31 : decode zc_D_end 31 = .ok (.if_icmp .ge 26, 3) := by decide +kernel
theorem zd_D_end_34 : decode zc_D_end 34 = .ok (.aload_n 0, 1) := by decide +kernel
theorem zd_D_end_35 : decode zc_D_end 35 = .ok (.getfield 27, 3) := by decide +kernel
theorem zd_D_end_38 : decode zc_D_end 38 = .ok (.bipush 16, 2) := by decide +kernel
theorem zd_D_end_40 : decode zc_D_end 40 = .ok (.irem, 1) := by decide +kernel
theorem zd_D_end_41 : decode zc_D_end 41 = .ok (.bipush 14, 2) := by decide +kernel
theorem zd_D_end_43 : decode zc_D_end 43 = .ok (.if_icmp .eq 14, 3) := by decide +kernel
theorem zd_D_end_46 : decode zc_D_end 46 = .ok (.aload_n 0, 1) := by decide +kernel
theorem zd_D_end_47 : decode zc_D_end 47 = .ok (.iconst 0, 1) := by decide +kernel
theorem zd_D_end_48 : decode zc_D_end 48 = .ok (.invokevirtual 31, 3) := by decide +kernel
theorem zd_D_end_51 : decode zc_D_end 51 = .ok (.iinc 7 1, 3) := by decide +kernel
theorem zd_D_end_54 : decode zc_D_end 54 = .ok (.goto (-27), 3) := by decide +kernel
theorem zd_D_end_57 : decode zc_D_end 57 = .ok (.aload_n 0, 1) := by decide +kernel
theorem zd_D_end_58 : decode zc_D_end 58 = .ok (.lload 5, 2) := by decide +kernel
theorem zd_D_end_60 : decode zc_D_end 60 = .ok (.bipush 32, 2) := by decide +kernel
theorem zd_D_end_62 : decode zc_D_end 62 = .ok (.lushr, 1) := by decide +kernel
theorem zd_D_end_63 : decode zc_D_end 63 = .ok (.l2i, 1) := by decide +kernel
theorem zd_D_end_64 : decode zc_D_end 64 = .ok (.invokevirtual 31, 3) := by decide +kernel
theorem zd_D_end_67 : decode zc_D_end 67 = .ok (.aload_n 0, 1) := by decide +kernel
theorem zd_D_end_68 : decode zc_D_end 68 = .ok (.lload 5, 2) := by decide +kernel
theorem zd_D_end_70 : decode zc_D_end 70 = .ok (.l2i, 1) := by decide +kernel
theorem zd_D_end_71 : decode zc_D_end 71 = .ok (.invokevirtual 31, 3) := by decide +kernel
theorem zd_D_end_74 : decode zc_D_end 74 = .ok (.aload_n 0, 1) := by decide +kernel
theorem zd_D_end_75 : decode zc_D_end 75 = .ok (.getfield 9, 3) := by decide +kernel
theorem zd_D_end_78 : decode zc_D_end 78 = .ok (.iconst 0, 1) := by decide +kernel
theorem zd_D_end_79 : decode zc_D_end 79 = .ok (.aload_n 3, 1) := by decide +kernel
theorem zd_D_end_80 : decode zc_D_end 80 = .ok (.iload 4, 2) := by decide +kernel
theorem zd_D_end_82 : decode zc_D_end 82 = .ok (.bipush 8, 2) := by decide +kernel
theorem zd_D_end_84 : decode zc_D_end 84 = .ok (.invokestatic 38, 3) := by decide +kernel
theorem zd_D_end_87 : decode zc_D_end 87 = .ok (.return_, 1) := by decide +kernel
end
section
set_option maxHeartbeats 4000000 in
set_option maxRecDepth 100000 in
/-- KeyMeeting$Modulus.take([I)V -/
theorem c_Mod_take (l : Launch) (dC : Nat → ClassId) (dI : Nat → Nat → Nat) (cI cAA cB cL : ClassId) (h qs qf qw ql qr a : Nat) (sh : Int32) (gqs : Nat → Int32) (ga : Nat → Int32) (sz : Nat) : Met l zy_M_take zw_M_take { frames := 2, cells := 0, slots := 0, locals := 47 } (kz_Pc (dC, dI) vwCl [(cI, .int), (cAA, .array .int), (cB, .byte), (cL, .long)] [] [] [.ref h, .ref a] [(h, .inr (1, [.ref qs, .ref qf, .ref qw, .ref ql, .ref qr, .int sh])), (qs, .inl (cI, 8, .inl gqs))] [(a, .inl (cI, 8, .inl ga))] sz) (va_Qv (fun _ => True) (kz_B (dC, dI) vwCl (va_A [(h, .inr (1, [.ref qs, .ref qf, .ref qw, .ref ql, .ref qr, .int sh])), (qs, .inl (cI, 8, .inl gqs))] sz) (fun u : Int32 × (Nat → Int32) => [(h, .inr (1, [.ref qs, .ref qf, .ref qw, .ref ql, .ref qr, .int u.1])), (qs, .inl (cI, 8, .inl u.2))])) (va_A [(h, .inr (1, [.ref qs, .ref qf, .ref qw, .ref ql, .ref qr, .int sh])), (qs, .inl (cI, 8, .inl gqs))] sz)) 0 0 (va_A [(h, .inr (1, [.ref qs, .ref qf, .ref qw, .ref ql, .ref qr, .int sh])), (qs, .inl (cI, 8, .inl gqs))] sz) := by
  refine kz_met (Qc := fun A => va_Qv (fun _ => True) (kz_B (dC, dI) vwCl A (fun u : Int32 × (Nat → Int32) => [(h, .inr (1, [.ref qs, .ref qf, .ref qw, .ref ql, .ref qr, .int u.1])), (qs, .inl (cI, 8, .inl u.2))])) A) (cc := zc_M_take) (maxL := 2) (ret := none) (by decide) rfl (Nat.le_of_ble_eq_true rfl) ?_
  intro p e s m below meth c A ls F hA hdy hK hro hZ hN hl
  obtain ⟨hx, hb, hml, hr, hown, hlocks, hts, hnm⟩ := id F
  have hl : lv_has ls 2 [(0, .ref h), (1, .ref a)] := hl
  refine lv_aload_n hx hb zd_M_take_0 rfl (lv_at hl 0 rfl) ?_
  refine lv_aload_n hx hb zd_M_take_1 rfl (lv_at hl 1 rfl) ?_
  refine kz_calli (wk := [(h, .inr (1, [.ref qs, .ref qf, .ref qw, .ref ql, .ref qr, .int sh])), (qs, .inl (cI, 8, .inl gqs))]) (va_runS (As := [.ref a]) (rest := [.ref h]) ⟨hx, hb, hml, hown, hts⟩ (c_Words_leadingZeros l dC dI cI cAA cB cL a ga _) (va_cwS 1 hts (kz_g (kz_mc mw_237 (kz_mc mw_238 (kz_mc mw_50 kz_mn))) mw_239) rfl rfl rfl (by decide +kernel) ⟨Nat.le_of_ble_eq_true rfl, Nat.le_of_ble_eq_true rfl⟩) (kz_preS hdy hA hK hro hZ hN [] (by decide) rfl [(true, 0)] rfl (by decide) [0, 1, 2, 3] rfl (fun _ h => by cases h) (fun _ h => by cases h) rfl) rfl rfl hl.1 rfl (lv_room (Nat.le_of_ble_eq_true rfl)) zd_M_take_2 ⟨Nat.le_of_ble_eq_true rfl, Nat.le_of_ble_eq_true rfl⟩) hdy hA [] [0, 1] rfl rfl (by decide) (by decide) (fun r u H locs hw hdy => ?_)
  try dsimp only at hw
  obtain ⟨⟨b1, hb1, rfl⟩, -⟩ := hw
  have hdy : kz_dy (dC, dI) vwCl A s.heap H locs [(h, .inr (1, [.ref qs, .ref qf, .ref qw, .ref ql, .ref qr, .int sh])), (qs, .inl (cI, 8, .inl gqs))] := hdy.sub [0, 1] (by decide) rfl
  refine va_put (D := (dC, dI)) (ci := 1) (v := .int (nI (b1))) (ty := .int) (C := zR_M) (T := zT_M) (N := 6) hx hb hts (fun w h => kz_c (zi_M w h)) zt_M zo_M zn_M hown hK hdy.1 hdy.2.1 hdy.2.2 0 rfl rfl 5 (by decide) (hts _ (kz_c mw_99)) (fun _ h9 => h9) rfl (by decide +kernel) rfl rfl (Nat.le_of_ble_eq_true rfl) zd_M_take_5 (fun H locs hP hD hS => ?_)
  have hdy : kz_dy (dC, dI) vwCl A s.heap H locs [(h, .inr (1, [.ref qs, .ref qf, .ref qw, .ref ql, .ref qr, .int (nI (b1))])), (qs, .inl (cI, 8, .inl gqs))] := ⟨hP, hD, hS⟩
  refine lv_aload_n hx hb zd_M_take_8 rfl (lv_at hl 1 rfl) ?_
  refine lv_aload_n hx hb zd_M_take_9 rfl (lv_at hl 0 rfl) ?_
  refine va_get (D := (dC, dI)) (ci := 1) (v := .int (nI (b1))) (C := zR_M) (T := zT_M) (N := 6) hx hb hts (fun w h => kz_c (zi_M w h)) hown hK hdy.1 0 rfl rfl 5 (by decide) (hts _ (kz_c mw_99)) (fun _ h9 => h9) rfl zd_M_take_10 ?_
  refine lv_aload_n hx hb zd_M_take_13 rfl (lv_at hl 0 rfl) ?_
  refine va_get (D := (dC, dI)) (ci := 1) (v := .ref qs) (C := zR_M) (T := zT_M) (N := 6) hx hb hts (fun w h => kz_c (zi_M w h)) hown hK hdy.1 0 rfl rfl 0 (by decide) (hts _ (kz_c mw_94)) (fun _ h9 => h9) rfl zd_M_take_14 ?_
  refine kz_callv (wk := [(h, .inr (1, [.ref qs, .ref qf, .ref qw, .ref ql, .ref qr, .int (nI (b1))]))]) (va_runS (As := [.ref a, .int (nI (b1)), .ref qs]) (rest := []) ⟨hx, hb, hml, hown, hts⟩ (c_Words_shiftLeft l dC dI cI cAA cB cL qs a gqs ga ((nI (b1))) _) (va_cwS 3 hts (kz_g (kz_mc mw_243 (kz_mc mw_244 (kz_mc mw_50 kz_mn))) mw_245) rfl rfl rfl (by decide +kernel) ⟨Nat.le_of_ble_eq_true rfl, Nat.le_of_ble_eq_true rfl⟩) (kz_preS hdy hA hK hro hZ hN [1] (by decide) rfl [(true, 0)] rfl (by decide) [0, 1, 2, 3] rfl (fun _ h => by cases h) (fun _ h => by cases h) rfl) rfl rfl hl.1 rfl (lv_room (Nat.le_of_ble_eq_true rfl)) zd_M_take_17 ⟨Nat.le_of_ble_eq_true rfl, Nat.le_of_ble_eq_true rfl⟩) hdy hA [1] [0] rfl rfl (by decide) (by decide) (fun u H locs hw hdy => ?_)
  obtain ⟨f2, rfl⟩ : ∃ z, z = u := ⟨_, rfl⟩
  have hdy : kz_dy (dC, dI) vwCl A s.heap H locs [(h, .inr (1, [.ref qs, .ref qf, .ref qw, .ref ql, .ref qr, .int (nI (b1))])), (qs, .inl (cI, 8, .inl f2))] := hdy.sub [0, 1] (by decide) rfl
  exact kz_vret F ((nI (b1)), f2) hdy (trivial) zd_M_take_20

set_option maxHeartbeats 4000000 in
set_option maxRecDepth 100000 in
/-- KeyMeeting$Modulus.giveBack(I)J -/
theorem c_Mod_giveBack (l : Launch) (dC : Nat → ClassId) (dI : Nat → Nat → Nat) (cI cAA cB cL : ClassId) (qw h qs qf ql qr : Nat) (gqw : Nat → Int32) (sh : Int32) (gqs : Nat → Int32) (at_ : Nat) (sz : Nat) (hat : at_ < 8) : Met l zy_M_giveBack zw_M_giveBack { frames := 0, cells := 0, slots := 0, locals := 0 } (kz_Pc (dC, dI) vwCl [(cI, .int), (cAA, .array .int), (cB, .byte), (cL, .long)] [] [] [.ref h, .int (nI (at_))] [(qw, .inl (cI, 16, .inl gqw))] [(h, .inr (1, [.ref qs, .ref qf, .ref qw, .ref ql, .ref qr, .int sh])), (qs, .inl (cI, 8, .inl gqs))] sz) (va_Ql (fun _ _ => True) (kz_B (dC, dI) vwCl (va_A [(qw, .inl (cI, 16, .inl gqw))] sz) (fun u : (Nat → Int32) => [(qw, .inl (cI, 16, .inl u))])) (va_A [(qw, .inl (cI, 16, .inl gqw))] sz)) 0 0 (va_A [(qw, .inl (cI, 16, .inl gqw))] sz) := by
  refine kz_met (Qc := fun A => va_Ql (fun _ _ => True) (kz_B (dC, dI) vwCl A (fun u : (Nat → Int32) => [(qw, .inl (cI, 16, .inl u))])) A) (cc := zc_M_giveBack) (maxL := 7) (ret := some .long) (by decide) rfl (Nat.le_of_ble_eq_true rfl) ?_
  intro p e s m below meth c A ls F hA hdy hK hro hZ hN hl
  obtain ⟨hx, hb, hml, hr, hown, hlocks, hts, hnm⟩ := id F
  have hl : lv_has ls 7 [(0, .ref h), (1, .int (nI (at_)))] := hl
  refine lv_lconst (v := 0) hx hb zd_M_giveBack_0 (by decide) ?_
  refine lv_lstore_n (lv' := [(2, .long 0), (0, .ref h), (1, .int (nI (at_)))]) hx hb zd_M_giveBack_1 rfl hl (by decide) rfl (fun ls hl => ?_)
  refine lv_bipush (v := (nI (7))) hx hb zd_M_giveBack_2 (by decide) ?_
  refine lv_istore (lv' := [(4, .int (nI (7))), (2, .long 0), (0, .ref h), (1, .int (nI (at_)))]) hx hb zd_M_giveBack_4 hl (by decide) rfl (fun ls hl => ?_)
  have lp6 : ∀ (k6 : Nat) (y1 : Int64) (f2 : Nat → Int32) (H : Heap) (locs : List Loc) (ls : Array Slot), k6 ≤ 8 → kz_dy (dC, dI) vwCl A s.heap H locs [(qw, .inl (cI, 16, .inl f2))] → lv_has ls 7 [(4, .int (nI k6 - 1)), (2, .long y1), (0, .ref h), (1, .int (nI (at_)))] → W p l e { frames := 0, cells := 0, slots := 0, locals := 0 } s m ([.ref h, .int (nI (at_))] : List Value).toArray below meth c H locs 0 0 (MQ below (va_Ql (fun _ _ => True) (kz_B (dC, dI) vwCl A (fun u : (Nat → Int32) => [(qw, .inl (cI, 16, .inl u))])) A) ([.ref h, .int (nI (at_))] : List Value).toArray s 0 0 A) (F0 m 6 ls []) := by
    intro k6
    induction k6 with
    | zero =>
      intro y1 f2 H locs ls hi6 hdy hl
      refine lv_iload hx hb zd_M_giveBack_6 (lv_at hl 0 rfl) ?_
      refine lv_if_lt (tgt := 70) hx hb zd_M_giveBack_8 (by decide) (fun hc8 => ?_) (fun hc8 => ?_)
      · refine lv_lload_n hx hb zd_M_giveBack_70 rfl (lv_at hl 1 rfl) ?_
        exact kz_lret F (f2) hdy (trivial) zd_M_giveBack_71
      · exact absurd (by decide) hc8
    | succ k6 ih6 =>
      intro y1 f2 H locs ls hi6 hdy hl
      rw [nI_pred] at hl
      refine lv_iload hx hb zd_M_giveBack_6 (lv_at hl 0 rfl) ?_
      refine lv_if_lt (tgt := 70) hx hb zd_M_giveBack_8 (by decide) (fun hc8 => ?_) (fun hc8 => ?_)
      · exact absurd hc8 (nI_pos (by omega))
      · refine lv_aload_n hx hb zd_M_giveBack_11 rfl (lv_at hl 2 rfl) ?_
        refine va_get (D := (dC, dI)) (ci := 1) (v := .ref qw) (C := zR_M) (T := zT_M) (N := 6) hx hb hts (fun w h => kz_c (zi_M w h)) hown hK (hro.at hdy.2.2) 0 rfl rfl 2 (by decide) (hts _ (kz_c mw_96)) (fun _ h9 => h9) rfl zd_M_giveBack_12 ?_
        refine lv_iload_n hx hb zd_M_giveBack_15 rfl (lv_at hl 3 rfl) ?_
        refine lv_iconst (v := (nI (1))) hx hb zd_M_giveBack_16 (by decide) ?_
        refine kz_iadd hx hb zd_M_giveBack_17 (nI_add _ _) ?_
        refine lv_iload hx hb zd_M_giveBack_18 (lv_at hl 0 rfl) ?_
        refine kz_iadd hx hb zd_M_giveBack_20 (nI_add _ _) ?_
        refine va_iald hx hb hK hdy.1 0 0 rfl rfl (vp_in_nI (by omega) (by omega)) zd_M_giveBack_21 ?_
        refine lv_topi (fun x3 _ => ?_)
        refine lv_i2l hx hb zd_M_giveBack_22 rfl ?_
        refine lv_topl (fun y4 _ => ?_)
        refine lv_ldc2 (v := (4294967295)) hx hb hown (hts _ (kz_c mw_268)) zd_M_giveBack_23 ?_
        refine kz_mask hx hb zd_M_giveBack_26 (fun y5 hy5 => ?_)
        refine lv_aload_n hx hb zd_M_giveBack_27 rfl (lv_at hl 2 rfl) ?_
        refine va_get (D := (dC, dI)) (ci := 1) (v := .ref qs) (C := zR_M) (T := zT_M) (N := 6) hx hb hts (fun w h => kz_c (zi_M w h)) hown hK (hro.at hdy.2.2) 0 rfl rfl 0 (by decide) (hts _ (kz_c mw_94)) (fun _ h9 => h9) rfl zd_M_giveBack_28 ?_
        refine lv_iload hx hb zd_M_giveBack_31 (lv_at hl 0 rfl) ?_
        refine va_iald hx hb hK (hro.at hdy.2.2) 1 0 rfl rfl (vp_in_nI (by omega) (by omega)) zd_M_giveBack_33 ?_
        refine lv_topi (fun x6 _ => ?_)
        refine lv_i2l hx hb zd_M_giveBack_34 rfl ?_
        refine lv_topl (fun y7 _ => ?_)
        refine lv_ldc2 (v := (4294967295)) hx hb hown (hts _ (kz_c mw_268)) zd_M_giveBack_35 ?_
        refine kz_mask hx hb zd_M_giveBack_38 (fun y8 hy8 => ?_)
        refine lv_ladd hx hb zd_M_giveBack_39 ?_
        refine lv_topl (fun y9 _ => ?_)
        refine lv_lload_n hx hb zd_M_giveBack_40 rfl (lv_at hl 1 rfl) ?_
        refine lv_ladd hx hb zd_M_giveBack_41 ?_
        refine lv_topl (fun y10 _ => ?_)
        refine lv_lstore (lv' := [(5, .long y10), (4, .int (nI (k6))), (2, .long y1), (0, .ref h), (1, .int (nI (at_)))]) hx hb zd_M_giveBack_42 hl (by decide) rfl (fun ls hl => ?_)
        refine lv_aload_n hx hb zd_M_giveBack_44 rfl (lv_at hl 3 rfl) ?_
        refine va_get (D := (dC, dI)) (ci := 1) (v := .ref qw) (C := zR_M) (T := zT_M) (N := 6) hx hb hts (fun w h => kz_c (zi_M w h)) hown hK (hro.at hdy.2.2) 0 rfl rfl 2 (by decide) (hts _ (kz_c mw_96)) (fun _ h9 => h9) rfl zd_M_giveBack_45 ?_
        refine lv_iload_n hx hb zd_M_giveBack_48 rfl (lv_at hl 4 rfl) ?_
        refine lv_iconst (v := (nI (1))) hx hb zd_M_giveBack_49 (by decide) ?_
        refine kz_iadd hx hb zd_M_giveBack_50 (nI_add _ _) ?_
        refine lv_iload hx hb zd_M_giveBack_51 (lv_at hl 1 rfl) ?_
        refine kz_iadd hx hb zd_M_giveBack_53 (nI_add _ _) ?_
        refine lv_lload hx hb zd_M_giveBack_54 (lv_at hl 0 rfl) ?_
        refine lv_l2i hx hb zd_M_giveBack_56 rfl ?_
        refine lv_topi (fun x11 _ => ?_)
        refine va_iast hx hb hK hdy.1 hdy.2.1 hdy.2.2 0 0 rfl rfl (vp_in_nI (by omega) (by omega)) zd_M_giveBack_57 (fun H locs hP hD hS => ?_)
        obtain ⟨f12, hdy⟩ : ∃ f12 : Nat → Int32, kz_dy (dC, dI) vwCl A s.heap H locs [(qw, .inl (cI, 16, .inl f12))] := ⟨_, hP, hD, hS⟩
        refine lv_lload hx hb zd_M_giveBack_58 (lv_at hl 0 rfl) ?_
        refine lv_bipush (v := (nI (32))) hx hb zd_M_giveBack_60 (by decide) ?_
        refine lv_lushr hx hb zd_M_giveBack_62 rfl ?_
        refine lv_topl (fun y13 _ => ?_)
        refine lv_lstore_n (lv' := [(2, .long y13), (5, .long y10), (4, .int (nI (k6))), (0, .ref h), (1, .int (nI (at_)))]) hx hb zd_M_giveBack_63 rfl hl (by decide) rfl (fun ls hl => ?_)
        refine lv_iinc (v := (nI (k6) - 1)) (lv' := [(4, .int (nI (k6) - 1)), (2, .long y13), (5, .long y10), (0, .ref h), (1, .int (nI (at_)))]) hx hb zd_M_giveBack_64 hl (k := 2) rfl (kz_m1 _) (by decide) rfl (fun ls hl => ?_)
        refine lv_goto (tgt := 6) hx hb zd_M_giveBack_67 (by decide) ?_
        exact ih6 (y13) f12 _ _ _ (by omega) hdy (lv_sub hl [0, 1, 3, 4] rfl)
  exact lp6 8 (0) gqw _ _ _ (by omega) hdy (lv_sub hl [0, 1, 2, 3] rfl)

set_option maxHeartbeats 4000000 in
set_option maxRecDepth 100000 in
/-- KeyMeeting$Modulus.guessDigit(I)J -/
theorem c_Mod_guessDigit (l : Launch) (dC : Nat → ClassId) (dI : Nat → Nat → Nat) (cI cAA cB cL : ClassId) (h qs qf qw ql qr : Nat) (sh : Int32) (gqs : Nat → Int32) (gqw : Nat → Int32) (at_ : Nat) (sz : Nat) (hat : at_ < 8) : Met l zy_M_guessDigit zw_M_guessDigit { frames := 0, cells := 0, slots := 0, locals := 0 } (kz_Pc (dC, dI) vwCl [(cI, .int), (cAA, .array .int), (cB, .byte), (cL, .long)] [] [] [.ref h, .int (nI (at_))] [] [(h, .inr (1, [.ref qs, .ref qf, .ref qw, .ref ql, .ref qr, .int sh])), (qs, .inl (cI, 8, .inl gqs)), (qw, .inl (cI, 16, .inl gqw))] sz) (va_Ql (fun _ _ => True) (kz_B (dC, dI) vwCl (va_A [] sz) (fun u : Unit => [])) (va_A [] sz)) 0 0 (va_A [] sz) := by
  refine kz_met (Qc := fun A => va_Ql (fun _ _ => True) (kz_B (dC, dI) vwCl A (fun u : Unit => [])) A) (cc := zc_M_guessDigit) (maxL := 10) (ret := some .long) (by decide) rfl (Nat.le_of_ble_eq_true rfl) ?_
  intro p e s m below meth c A ls F hA hdy hK hro hZ hN hl
  obtain ⟨hx, hb, hml, hr, hown, hlocks, hts, hnm⟩ := id F
  have hl : lv_has ls 10 [(0, .ref h), (1, .int (nI (at_)))] := hl
  refine lv_aload_n hx hb zd_M_guessDigit_0 rfl (lv_at hl 0 rfl) ?_
  refine va_get (D := (dC, dI)) (ci := 1) (v := .ref qw) (C := zR_M) (T := zT_M) (N := 6) hx hb hts (fun w h => kz_c (zi_M w h)) hown hK (hro.at hdy.2.2) 0 rfl rfl 2 (by decide) (hts _ (kz_c mw_96)) (fun _ h9 => h9) rfl zd_M_guessDigit_1 ?_
  refine lv_iload_n hx hb zd_M_guessDigit_4 rfl (lv_at hl 1 rfl) ?_
  refine va_iald hx hb hK (hro.at hdy.2.2) 2 0 rfl rfl (vp_in_nI (by omega) (by omega)) zd_M_guessDigit_5 ?_
  refine lv_topi (fun x1 _ => ?_)
  refine lv_i2l hx hb zd_M_guessDigit_6 rfl ?_
  refine lv_topl (fun y2 _ => ?_)
  refine lv_ldc2 (v := (4294967295)) hx hb hown (hts _ (kz_c mw_268)) zd_M_guessDigit_7 ?_
  refine kz_mask hx hb zd_M_guessDigit_10 (fun y3 hy3 => ?_)
  refine lv_lstore_n (lv' := [(2, .long (lN y3)), (0, .ref h), (1, .int (nI (at_)))]) hx hb zd_M_guessDigit_11 rfl hl (by decide) rfl (fun ls hl => ?_)
  refine lv_aload_n hx hb zd_M_guessDigit_12 rfl (lv_at hl 1 rfl) ?_
  refine va_get (D := (dC, dI)) (ci := 1) (v := .ref qs) (C := zR_M) (T := zT_M) (N := 6) hx hb hts (fun w h => kz_c (zi_M w h)) hown hK (hro.at hdy.2.2) 0 rfl rfl 0 (by decide) (hts _ (kz_c mw_94)) (fun _ h9 => h9) rfl zd_M_guessDigit_13 ?_
  refine lv_iconst (v := (nI (0))) hx hb zd_M_guessDigit_16 (by decide) ?_
  refine va_iald hx hb hK (hro.at hdy.2.2) 1 0 rfl rfl (vp_in_nI (by omega) (by omega)) zd_M_guessDigit_17 ?_
  refine lv_topi (fun x4 _ => ?_)
  refine lv_i2l hx hb zd_M_guessDigit_18 rfl ?_
  refine lv_topl (fun y5 _ => ?_)
  refine lv_ldc2 (v := (4294967295)) hx hb hown (hts _ (kz_c mw_268)) zd_M_guessDigit_19 ?_
  refine kz_mask hx hb zd_M_guessDigit_22 (fun y6 hy6 => ?_)
  refine lv_lstore (lv' := [(4, .long (lN y6)), (2, .long (lN y3)), (0, .ref h), (1, .int (nI (at_)))]) hx hb zd_M_guessDigit_23 hl (by decide) rfl (fun ls hl => ?_)
  refine lv_lload_n hx hb zd_M_guessDigit_25 rfl (lv_at hl 1 rfl) ?_
  refine lv_lload hx hb zd_M_guessDigit_26 (lv_at hl 0 rfl) ?_
  refine kz_llt (tgt := 36) hx hb zd_M_guessDigit_28 zd_M_guessDigit_29 (by decide) (fun hc29 => ?_) (fun hc29 => ?_)
  · refine lv_lload_n hx hb zd_M_guessDigit_36 rfl (lv_at hl 1 rfl) ?_
    refine lv_bipush (v := (nI (32))) hx hb zd_M_guessDigit_37 (by decide) ?_
    refine lv_lshl hx hb zd_M_guessDigit_39 rfl ?_
    refine lv_topl (fun y7 _ => ?_)
    refine lv_aload_n hx hb zd_M_guessDigit_40 rfl (lv_at hl 2 rfl) ?_
    refine va_get (D := (dC, dI)) (ci := 1) (v := .ref qw) (C := zR_M) (T := zT_M) (N := 6) hx hb hts (fun w h => kz_c (zi_M w h)) hown hK (hro.at hdy.2.2) 0 rfl rfl 2 (by decide) (hts _ (kz_c mw_96)) (fun _ h9 => h9) rfl zd_M_guessDigit_41 ?_
    refine lv_iload_n hx hb zd_M_guessDigit_44 rfl (lv_at hl 3 rfl) ?_
    refine lv_iconst (v := (nI (1))) hx hb zd_M_guessDigit_45 (by decide) ?_
    refine kz_iadd hx hb zd_M_guessDigit_46 (nI_add _ _) ?_
    refine va_iald hx hb hK (hro.at hdy.2.2) 2 0 rfl rfl (vp_in_nI (by omega) (by omega)) zd_M_guessDigit_47 ?_
    refine lv_topi (fun x8 _ => ?_)
    refine lv_i2l hx hb zd_M_guessDigit_48 rfl ?_
    refine lv_topl (fun y9 _ => ?_)
    refine lv_ldc2 (v := (4294967295)) hx hb hown (hts _ (kz_c mw_268)) zd_M_guessDigit_49 ?_
    refine kz_mask hx hb zd_M_guessDigit_52 (fun y10 hy10 => ?_)
    refine lv_lor hx hb zd_M_guessDigit_53 ?_
    refine lv_topl (fun y11 _ => ?_)
    refine lv_lstore (lv' := [(6, .long y11), (4, .long (lN y6)), (2, .long (lN y3)), (0, .ref h), (1, .int (nI (at_)))]) hx hb zd_M_guessDigit_54 hl (by decide) rfl (fun ls hl => ?_)
    refine lv_lload hx hb zd_M_guessDigit_56 (lv_at hl 0 rfl) ?_
    refine lv_iconst (v := (nI (1))) hx hb zd_M_guessDigit_58 (by decide) ?_
    refine lv_lushr hx hb zd_M_guessDigit_59 rfl ?_
    refine lv_topl (fun y12 _ => ?_)
    refine lv_lload hx hb zd_M_guessDigit_60 (lv_at hl 1 rfl) ?_
    refine lv_ldiv hx hb zd_M_guessDigit_62 (kz_ne0 (by assumption) (by assumption) hc29) ?_
    refine lv_topl (fun y13 _ => ?_)
    refine lv_iconst (v := (nI (1))) hx hb zd_M_guessDigit_63 (by decide) ?_
    refine lv_lshl hx hb zd_M_guessDigit_64 rfl ?_
    refine lv_topl (fun y14 _ => ?_)
    refine lv_lstore (lv' := [(8, .long y14), (6, .long y11), (4, .long (lN y6)), (2, .long (lN y3)), (0, .ref h), (1, .int (nI (at_)))]) hx hb zd_M_guessDigit_65 hl (by decide) rfl (fun ls hl => ?_)
    refine lv_lload hx hb zd_M_guessDigit_67 (lv_at hl 1 rfl) ?_
    refine lv_lload hx hb zd_M_guessDigit_69 (lv_at hl 0 rfl) ?_
    refine lv_lload hx hb zd_M_guessDigit_71 (lv_at hl 2 rfl) ?_
    refine lv_lmul hx hb zd_M_guessDigit_73 ?_
    refine lv_topl (fun y15 _ => ?_)
    refine lv_lsub hx hb zd_M_guessDigit_74 ?_
    refine lv_topl (fun y16 _ => ?_)
    refine lv_lload hx hb zd_M_guessDigit_75 (lv_at hl 2 rfl) ?_
    refine kz_llt (tgt := 88) hx hb zd_M_guessDigit_77 zd_M_guessDigit_78 (by decide) (fun hc78 => ?_) (fun hc78 => ?_)
    · refine lv_lload hx hb zd_M_guessDigit_88 (lv_at hl 0 rfl) ?_
      exact kz_lret F () hdy (trivial) zd_M_guessDigit_90
    · refine lv_lload hx hb zd_M_guessDigit_81 (lv_at hl 0 rfl) ?_
      refine lv_lconst (v := 1) hx hb zd_M_guessDigit_83 (by decide) ?_
      refine lv_ladd hx hb zd_M_guessDigit_84 ?_
      refine lv_topl (fun y17 _ => ?_)
      refine lv_goto (tgt := 90) hx hb zd_M_guessDigit_85 (by decide) ?_
      exact kz_lret F () hdy (trivial) zd_M_guessDigit_90
  · refine lv_ldc2 (v := (4294967295)) hx hb hown (hts _ (kz_c mw_268)) zd_M_guessDigit_32 ?_
    exact kz_lret F () hdy (trivial) zd_M_guessDigit_35

set_option maxHeartbeats 4000000 in
set_option maxRecDepth 100000 in
/-- KeyMeeting$Modulus.takeAway(JI)V -/
theorem c_Mod_takeAway (l : Launch) (dC : Nat → ClassId) (dI : Nat → Nat → Nat) (cI cAA cB cL : ClassId) (qw h qs qf ql qr : Nat) (gqw : Nat → Int32) (sh : Int32) (gqs : Nat → Int32) (v : Int64) (at_ : Nat) (sz : Nat) (hat : at_ < 8) : Met l zy_M_takeAway zw_M_takeAway { frames := 1, cells := 0, slots := 0, locals := 26 } (kz_Pc (dC, dI) vwCl [(cI, .int), (cAA, .array .int), (cB, .byte), (cL, .long)] [] [] [.ref h, .long v, .int (nI (at_))] [(qw, .inl (cI, 16, .inl gqw))] [(h, .inr (1, [.ref qs, .ref qf, .ref qw, .ref ql, .ref qr, .int sh])), (qs, .inl (cI, 8, .inl gqs))] sz) (va_Qv (fun _ => True) (kz_B (dC, dI) vwCl (va_A [(qw, .inl (cI, 16, .inl gqw))] sz) (fun u : (Nat → Int32) => [(qw, .inl (cI, 16, .inl u))])) (va_A [(qw, .inl (cI, 16, .inl gqw))] sz)) 0 0 (va_A [(qw, .inl (cI, 16, .inl gqw))] sz) := by
  refine kz_met (Qc := fun A => va_Qv (fun _ => True) (kz_B (dC, dI) vwCl A (fun u : (Nat → Int32) => [(qw, .inl (cI, 16, .inl u))])) A) (cc := zc_M_takeAway) (maxL := 11) (ret := none) (by decide) rfl (Nat.le_of_ble_eq_true rfl) ?_
  intro p e s m below meth c A ls F hA hdy hK hro hZ hN hl
  obtain ⟨hx, hb, hml, hr, hown, hlocks, hts, hnm⟩ := id F
  have hl : lv_has ls 11 [(0, .ref h), (1, .long v), (3, .int (nI (at_)))] := hl
  refine lv_lconst (v := 0) hx hb zd_M_takeAway_0 (by decide) ?_
  refine lv_lstore (lv' := [(4, .long 0), (0, .ref h), (1, .long v), (3, .int (nI (at_)))]) hx hb zd_M_takeAway_1 hl (by decide) rfl (fun ls hl => ?_)
  refine lv_bipush (v := (nI (7))) hx hb zd_M_takeAway_3 (by decide) ?_
  refine lv_istore (lv' := [(6, .int (nI (7))), (4, .long 0), (0, .ref h), (1, .long v), (3, .int (nI (at_)))]) hx hb zd_M_takeAway_5 hl (by decide) rfl (fun ls hl => ?_)
  have lp7 : ∀ (k7 : Nat) (y1 : Int64) (f2 : Nat → Int32) (H : Heap) (locs : List Loc) (ls : Array Slot), k7 ≤ 8 → kz_dy (dC, dI) vwCl A s.heap H locs [(qw, .inl (cI, 16, .inl f2))] → lv_has ls 11 [(6, .int (nI k7 - 1)), (4, .long y1), (0, .ref h), (1, .long v), (3, .int (nI (at_)))] → W p l e { frames := 1, cells := 0, slots := 0, locals := 26 } s m ([.ref h, .long v, .int (nI (at_))] : List Value).toArray below meth c H locs 0 0 (MQ below (va_Qv (fun _ => True) (kz_B (dC, dI) vwCl A (fun u : (Nat → Int32) => [(qw, .inl (cI, 16, .inl u))])) A) ([.ref h, .long v, .int (nI (at_))] : List Value).toArray s 0 0 A) (F0 m 7 ls []) := by
    intro k7
    induction k7 with
    | zero =>
      intro y1 f2 H locs ls hi7 hdy hl
      refine lv_iload hx hb zd_M_takeAway_7 (lv_at hl 0 rfl) ?_
      refine lv_if_lt (tgt := 97) hx hb zd_M_takeAway_9 (by decide) (fun hc9 => ?_) (fun hc9 => ?_)
      · refine lv_aload_n hx hb zd_M_takeAway_97 rfl (lv_at hl 2 rfl) ?_
        refine va_get (D := (dC, dI)) (ci := 1) (v := .ref qw) (C := zR_M) (T := zT_M) (N := 6) hx hb hts (fun w h => kz_c (zi_M w h)) hown hK (hro.at hdy.2.2) 0 rfl rfl 2 (by decide) (hts _ (kz_c mw_96)) (fun _ h9 => h9) rfl zd_M_takeAway_98 ?_
        refine lv_iload_n hx hb zd_M_takeAway_101 rfl (lv_at hl 4 rfl) ?_
        refine va_iald hx hb hK hdy.1 0 0 rfl rfl (vp_in_nI (by omega) (by omega)) zd_M_takeAway_102 ?_
        refine lv_topi (fun x3 _ => ?_)
        refine lv_i2l hx hb zd_M_takeAway_103 rfl ?_
        refine lv_topl (fun y4 _ => ?_)
        refine lv_ldc2 (v := (4294967295)) hx hb hown (hts _ (kz_c mw_268)) zd_M_takeAway_104 ?_
        refine kz_mask hx hb zd_M_takeAway_107 (fun y5 hy5 => ?_)
        refine lv_lload hx hb zd_M_takeAway_108 (lv_at hl 1 rfl) ?_
        refine lv_lsub hx hb zd_M_takeAway_110 ?_
        refine lv_topl (fun y6 _ => ?_)
        refine lv_lstore (lv' := [(6, .long y6), (4, .long y1), (0, .ref h), (1, .long v), (3, .int (nI (at_)))]) hx hb zd_M_takeAway_111 hl (by decide) rfl (fun ls hl => ?_)
        refine lv_iconst (v := (nI (0))) hx hb zd_M_takeAway_113 (by decide) ?_
        refine lv_istore (lv' := [(8, .int (nI (0))), (6, .long y6), (4, .long y1), (0, .ref h), (1, .long v), (3, .int (nI (at_)))]) hx hb zd_M_takeAway_114 hl (by decide) rfl (fun ls hl => ?_)
        have lp116 : ∀ (n116 k116 : Nat) (y7 : Int64) (f8 : Nat → Int32) (H : Heap) (locs : List Loc) (ls : Array Slot), k116 ≤ 2 → 2 - k116 < n116 → kz_dy (dC, dI) vwCl A s.heap H locs [(qw, .inl (cI, 16, .inl f8))] → lv_has ls 11 [(8, .int (nI (k116))), (6, .long y7), (4, .long y1), (0, .ref h), (1, .long v), (3, .int (nI (at_)))] → W p l e { frames := 1, cells := 0, slots := 0, locals := 26 } s m ([.ref h, .long v, .int (nI (at_))] : List Value).toArray below meth c H locs 0 0 (MQ below (va_Qv (fun _ => True) (kz_B (dC, dI) vwCl A (fun u : (Nat → Int32) => [(qw, .inl (cI, 16, .inl u))])) A) ([.ref h, .long v, .int (nI (at_))] : List Value).toArray s 0 0 A) (F0 m 116 ls []) := by
          intro n116
          induction n116 with
          | zero => intro k116; intros; omega
          | succ n116 ih116 =>
            intro k116 y7 f8 H locs ls hi116 hn116 hdy hl
            refine lv_iload hx hb zd_M_takeAway_116 (lv_at hl 0 rfl) ?_
            refine lv_iconst (v := (nI (2))) hx hb zd_M_takeAway_118 (by decide) ?_
            refine lv_icmp_ge (tgt := 145) hx hb zd_M_takeAway_119 (by decide) (fun hc119 => ?_) (fun hc119 => ?_)
            · have hc119 : 2 ≤ k116 := (nI_leI (by omega) (by omega)).mp hc119
              exact kz_vret F (f8) hdy (trivial) zd_M_takeAway_145
            · have hc119 : ¬ 2 ≤ k116 := fun h9 => hc119 ((nI_leI (by omega) (by omega)).mpr h9)
              refine lv_lload hx hb zd_M_takeAway_122 (lv_at hl 1 rfl) ?_
              refine lv_lconst (v := 0) hx hb zd_M_takeAway_124 (by decide) ?_
              refine kz_lge (tgt := 145) hx hb zd_M_takeAway_125 zd_M_takeAway_126 (by decide) (fun hc126 => ?_) (fun hc126 => ?_)
              · exact kz_vret F (f8) hdy (trivial) zd_M_takeAway_145
              · refine lv_lload hx hb zd_M_takeAway_129 (lv_at hl 1 rfl) ?_
                refine lv_aload_n hx hb zd_M_takeAway_131 rfl (lv_at hl 3 rfl) ?_
                refine lv_iload_n hx hb zd_M_takeAway_132 rfl (lv_at hl 5 rfl) ?_
                refine kz_calll (wk := []) (va_runV (As := [.int (nI (at_))]) (rest := [.long y7]) ⟨hx, hb, hml, hown, hts⟩ (c_Mod_giveBack l dC dI cI cAA cB cL qw h qs qf ql qr f8 (sh) gqs at_ _ (by first | omega | assumption)) (cwV 1 hts (kz_g (kz_mc mw_273 (kz_mc mw_275 (kz_mc mw_10 (kz_mc mw_41 kz_mn)))) mw_276) rfl rfl rfl (by decide +kernel) ⟨Nat.le_of_ble_eq_true rfl, Nat.le_of_ble_eq_true rfl⟩) (kz_preVr hdy hA hK hro hZ hN [0] (by decide) rfl [(true, 0), (true, 1)] rfl (by decide) [0, 1, 2, 3] rfl (fun _ h => by cases h) (fun _ h => by cases h) rfl (ci := 1) (q0 := 0) rfl rfl rfl) rfl rfl hl.1 rfl (lv_room (Nat.le_of_ble_eq_true rfl)) zd_M_takeAway_133 ⟨Nat.le_of_ble_eq_true rfl, Nat.le_of_ble_eq_true rfl⟩) hdy hA [0] [] rfl rfl (by decide) (by decide) (fun r u H locs hw hdy => ?_)
                obtain ⟨y10, rfl⟩ : ∃ z, z = r := ⟨_, rfl⟩
                obtain ⟨f9, rfl⟩ : ∃ z, z = u := ⟨_, rfl⟩
                have hdy : kz_dy (dC, dI) vwCl A s.heap H locs [(qw, .inl (cI, 16, .inl f9))] := hdy.sub [0] (by decide) rfl
                refine lv_ladd hx hb zd_M_takeAway_136 ?_
                refine lv_topl (fun y11 _ => ?_)
                refine lv_lstore (lv' := [(6, .long y11), (8, .int (nI (k116))), (4, .long y1), (0, .ref h), (1, .long v), (3, .int (nI (at_)))]) hx hb zd_M_takeAway_137 hl (by decide) rfl (fun ls hl => ?_)
                refine lv_iinc (v := (nI (k116 + 1))) (lv' := [(8, .int (nI (k116 + 1))), (6, .long y11), (4, .long y1), (0, .ref h), (1, .long v), (3, .int (nI (at_)))]) hx hb zd_M_takeAway_139 hl (k := 1) rfl (nI_1 _) (by decide) rfl (fun ls hl => ?_)
                refine lv_goto (tgt := 116) hx hb zd_M_takeAway_142 (by decide) ?_
                exact ih116 (k116 + 1) (y11) f9 _ _ _ (by omega) (by omega) hdy (lv_sub hl [0, 1, 2, 3, 4, 5] rfl)
        exact lp116 (2 - 0 + 1) 0 (y6) f2 _ _ _ (by omega) (by omega) hdy (lv_sub hl [0, 1, 2, 3, 4, 5] rfl)
      · exact absurd (by decide) hc9
    | succ k7 ih7 =>
      intro y1 f2 H locs ls hi7 hdy hl
      rw [nI_pred] at hl
      refine lv_iload hx hb zd_M_takeAway_7 (lv_at hl 0 rfl) ?_
      refine lv_if_lt (tgt := 97) hx hb zd_M_takeAway_9 (by decide) (fun hc9 => ?_) (fun hc9 => ?_)
      · exact absurd hc9 (nI_pos (by omega))
      · refine lv_lload_n hx hb zd_M_takeAway_12 rfl (lv_at hl 3 rfl) ?_
        refine lv_aload_n hx hb zd_M_takeAway_13 rfl (lv_at hl 2 rfl) ?_
        refine va_get (D := (dC, dI)) (ci := 1) (v := .ref qs) (C := zR_M) (T := zT_M) (N := 6) hx hb hts (fun w h => kz_c (zi_M w h)) hown hK (hro.at hdy.2.2) 0 rfl rfl 0 (by decide) (hts _ (kz_c mw_94)) (fun _ h9 => h9) rfl zd_M_takeAway_14 ?_
        refine lv_iload hx hb zd_M_takeAway_17 (lv_at hl 0 rfl) ?_
        refine va_iald hx hb hK (hro.at hdy.2.2) 1 0 rfl rfl (vp_in_nI (by omega) (by omega)) zd_M_takeAway_19 ?_
        refine lv_topi (fun x12 _ => ?_)
        refine lv_i2l hx hb zd_M_takeAway_20 rfl ?_
        refine lv_topl (fun y13 _ => ?_)
        refine lv_ldc2 (v := (4294967295)) hx hb hown (hts _ (kz_c mw_268)) zd_M_takeAway_21 ?_
        refine kz_mask hx hb zd_M_takeAway_24 (fun y14 hy14 => ?_)
        refine lv_lmul hx hb zd_M_takeAway_25 ?_
        refine lv_topl (fun y15 _ => ?_)
        refine lv_lload hx hb zd_M_takeAway_26 (lv_at hl 1 rfl) ?_
        refine lv_ladd hx hb zd_M_takeAway_28 ?_
        refine lv_topl (fun y16 _ => ?_)
        refine lv_lstore (lv' := [(7, .long y16), (6, .int (nI (k7))), (4, .long y1), (0, .ref h), (1, .long v), (3, .int (nI (at_)))]) hx hb zd_M_takeAway_29 hl (by decide) rfl (fun ls hl => ?_)
        refine lv_aload_n hx hb zd_M_takeAway_31 rfl (lv_at hl 3 rfl) ?_
        refine va_get (D := (dC, dI)) (ci := 1) (v := .ref qw) (C := zR_M) (T := zT_M) (N := 6) hx hb hts (fun w h => kz_c (zi_M w h)) hown hK (hro.at hdy.2.2) 0 rfl rfl 2 (by decide) (hts _ (kz_c mw_96)) (fun _ h9 => h9) rfl zd_M_takeAway_32 ?_
        refine lv_iload_n hx hb zd_M_takeAway_35 rfl (lv_at hl 5 rfl) ?_
        refine lv_iconst (v := (nI (1))) hx hb zd_M_takeAway_36 (by decide) ?_
        refine kz_iadd hx hb zd_M_takeAway_37 (nI_add _ _) ?_
        refine lv_iload hx hb zd_M_takeAway_38 (lv_at hl 1 rfl) ?_
        refine kz_iadd hx hb zd_M_takeAway_40 (nI_add _ _) ?_
        refine va_iald hx hb hK hdy.1 0 0 rfl rfl (vp_in_nI (by omega) (by omega)) zd_M_takeAway_41 ?_
        refine lv_topi (fun x17 _ => ?_)
        refine lv_i2l hx hb zd_M_takeAway_42 rfl ?_
        refine lv_topl (fun y18 _ => ?_)
        refine lv_ldc2 (v := (4294967295)) hx hb hown (hts _ (kz_c mw_268)) zd_M_takeAway_43 ?_
        refine kz_mask hx hb zd_M_takeAway_46 (fun y19 hy19 => ?_)
        refine lv_lload hx hb zd_M_takeAway_47 (lv_at hl 0 rfl) ?_
        refine lv_ldc2 (v := (4294967295)) hx hb hown (hts _ (kz_c mw_268)) zd_M_takeAway_49 ?_
        refine kz_mask hx hb zd_M_takeAway_52 (fun y20 hy20 => ?_)
        refine lv_lsub hx hb zd_M_takeAway_53 ?_
        refine lv_topl (fun y21 _ => ?_)
        refine lv_lstore (lv' := [(9, .long y21), (7, .long y16), (6, .int (nI (k7))), (4, .long y1), (0, .ref h), (1, .long v), (3, .int (nI (at_)))]) hx hb zd_M_takeAway_54 hl (by decide) rfl (fun ls hl => ?_)
        refine lv_aload_n hx hb zd_M_takeAway_56 rfl (lv_at hl 4 rfl) ?_
        refine va_get (D := (dC, dI)) (ci := 1) (v := .ref qw) (C := zR_M) (T := zT_M) (N := 6) hx hb hts (fun w h => kz_c (zi_M w h)) hown hK (hro.at hdy.2.2) 0 rfl rfl 2 (by decide) (hts _ (kz_c mw_96)) (fun _ h9 => h9) rfl zd_M_takeAway_57 ?_
        refine lv_iload_n hx hb zd_M_takeAway_60 rfl (lv_at hl 6 rfl) ?_
        refine lv_iconst (v := (nI (1))) hx hb zd_M_takeAway_61 (by decide) ?_
        refine kz_iadd hx hb zd_M_takeAway_62 (nI_add _ _) ?_
        refine lv_iload hx hb zd_M_takeAway_63 (lv_at hl 2 rfl) ?_
        refine kz_iadd hx hb zd_M_takeAway_65 (nI_add _ _) ?_
        refine lv_lload hx hb zd_M_takeAway_66 (lv_at hl 0 rfl) ?_
        refine lv_l2i hx hb zd_M_takeAway_68 rfl ?_
        refine lv_topi (fun x22 _ => ?_)
        refine va_iast hx hb hK hdy.1 hdy.2.1 hdy.2.2 0 0 rfl rfl (vp_in_nI (by omega) (by omega)) zd_M_takeAway_69 (fun H locs hP hD hS => ?_)
        obtain ⟨f23, hdy⟩ : ∃ f23 : Nat → Int32, kz_dy (dC, dI) vwCl A s.heap H locs [(qw, .inl (cI, 16, .inl f23))] := ⟨_, hP, hD, hS⟩
        refine lv_lload hx hb zd_M_takeAway_70 (lv_at hl 1 rfl) ?_
        refine lv_bipush (v := (nI (32))) hx hb zd_M_takeAway_72 (by decide) ?_
        refine lv_lushr hx hb zd_M_takeAway_74 rfl ?_
        refine lv_topl (fun y24 _ => ?_)
        refine lv_lload hx hb zd_M_takeAway_75 (lv_at hl 0 rfl) ?_
        refine lv_lconst (v := 0) hx hb zd_M_takeAway_77 (by decide) ?_
        refine kz_lge (tgt := 86) hx hb zd_M_takeAway_78 zd_M_takeAway_79 (by decide) (fun hc79 => ?_) (fun hc79 => ?_)
        · refine lv_iconst (v := (nI (0))) hx hb zd_M_takeAway_86 (by decide) ?_
          refine lv_i2l hx hb zd_M_takeAway_87 rfl ?_
          refine lv_topl (fun y25 _ => ?_)
          refine lv_ladd hx hb zd_M_takeAway_88 ?_
          refine lv_topl (fun y26 _ => ?_)
          refine lv_lstore (lv' := [(4, .long y26), (9, .long y21), (7, .long y16), (6, .int (nI (k7))), (0, .ref h), (1, .long v), (3, .int (nI (at_)))]) hx hb zd_M_takeAway_89 hl (by decide) rfl (fun ls hl => ?_)
          refine lv_iinc (v := (nI (k7) - 1)) (lv' := [(6, .int (nI (k7) - 1)), (4, .long y26), (9, .long y21), (7, .long y16), (0, .ref h), (1, .long v), (3, .int (nI (at_)))]) hx hb zd_M_takeAway_91 hl (k := 3) rfl (kz_m1 _) (by decide) rfl (fun ls hl => ?_)
          refine lv_goto (tgt := 7) hx hb zd_M_takeAway_94 (by decide) ?_
          exact ih7 (y26) f23 _ _ _ (by omega) hdy (lv_sub hl [0, 1, 4, 5, 6] rfl)
        · refine lv_iconst (v := (nI (1))) hx hb zd_M_takeAway_82 (by decide) ?_
          refine lv_goto (tgt := 87) hx hb zd_M_takeAway_83 (by decide) ?_
          refine lv_i2l hx hb zd_M_takeAway_87 rfl ?_
          refine lv_topl (fun y27 _ => ?_)
          refine lv_ladd hx hb zd_M_takeAway_88 ?_
          refine lv_topl (fun y28 _ => ?_)
          refine lv_lstore (lv' := [(4, .long y28), (9, .long y21), (7, .long y16), (6, .int (nI (k7))), (0, .ref h), (1, .long v), (3, .int (nI (at_)))]) hx hb zd_M_takeAway_89 hl (by decide) rfl (fun ls hl => ?_)
          refine lv_iinc (v := (nI (k7) - 1)) (lv' := [(6, .int (nI (k7) - 1)), (4, .long y28), (9, .long y21), (7, .long y16), (0, .ref h), (1, .long v), (3, .int (nI (at_)))]) hx hb zd_M_takeAway_91 hl (k := 3) rfl (kz_m1 _) (by decide) rfl (fun ls hl => ?_)
          refine lv_goto (tgt := 7) hx hb zd_M_takeAway_94 (by decide) ?_
          exact ih7 (y28) f23 _ _ _ (by omega) hdy (lv_sub hl [0, 1, 4, 5, 6] rfl)
  exact lp7 8 (0) gqw _ _ _ (by omega) hdy (lv_sub hl [0, 1, 2, 3, 4] rfl)

set_option maxHeartbeats 4000000 in
set_option maxRecDepth 100000 in
/-- KeyMeeting$Modulus.reduce()V -/
theorem c_Mod_reduce (l : Launch) (dC : Nat → ClassId) (dI : Nat → Nat → Nat) (cI cAA cB cL : ClassId) (qw h qs qf ql qr : Nat) (gqw : Nat → Int32) (sh : Int32) (gqs : Nat → Int32) (sz : Nat) : Met l zy_M_reduce zw_M_reduce { frames := 2, cells := 0, slots := 0, locals := 56 } (kz_Pc (dC, dI) vwCl [(cI, .int), (cAA, .array .int), (cB, .byte), (cL, .long)] [] [] [.ref h] [(qw, .inl (cI, 16, .inl gqw))] [(h, .inr (1, [.ref qs, .ref qf, .ref qw, .ref ql, .ref qr, .int sh])), (qs, .inl (cI, 8, .inl gqs))] sz) (va_Qv (fun _ => True) (kz_B (dC, dI) vwCl (va_A [(qw, .inl (cI, 16, .inl gqw))] sz) (fun u : (Nat → Int32) => [(qw, .inl (cI, 16, .inl u))])) (va_A [(qw, .inl (cI, 16, .inl gqw))] sz)) 0 0 (va_A [(qw, .inl (cI, 16, .inl gqw))] sz) := by
  refine kz_met (Qc := fun A => va_Qv (fun _ => True) (kz_B (dC, dI) vwCl A (fun u : (Nat → Int32) => [(qw, .inl (cI, 16, .inl u))])) A) (cc := zc_M_reduce) (maxL := 4) (ret := none) (by decide) rfl (Nat.le_of_ble_eq_true rfl) ?_
  intro p e s m below meth c A ls F hA hdy hK hro hZ hN hl
  obtain ⟨hx, hb, hml, hr, hown, hlocks, hts, hnm⟩ := id F
  have hl : lv_has ls 4 [(0, .ref h)] := hl
  refine lv_iconst (v := (nI (0))) hx hb zd_M_reduce_0 (by decide) ?_
  refine lv_istore_n (lv' := [(1, .int (nI (0))), (0, .ref h)]) hx hb zd_M_reduce_1 rfl hl (by decide) rfl (fun ls hl => ?_)
  have lp2 : ∀ (n2 k2 : Nat) (f1 : Nat → Int32) (H : Heap) (locs : List Loc) (ls : Array Slot), k2 ≤ 8 → 8 - k2 < n2 → kz_dy (dC, dI) vwCl A s.heap H locs [(qw, .inl (cI, 16, .inl f1))] → lv_has ls 4 [(1, .int (nI (k2))), (0, .ref h)] → W p l e { frames := 2, cells := 0, slots := 0, locals := 56 } s m ([.ref h] : List Value).toArray below meth c H locs 0 0 (MQ below (va_Qv (fun _ => True) (kz_B (dC, dI) vwCl A (fun u : (Nat → Int32) => [(qw, .inl (cI, 16, .inl u))])) A) ([.ref h] : List Value).toArray s 0 0 A) (F0 m 2 ls []) := by
    intro n2
    induction n2 with
    | zero => intro k2; intros; omega
    | succ n2 ih2 =>
      intro k2 f1 H locs ls hi2 hn2 hdy hl
      refine lv_iload_n hx hb zd_M_reduce_2 rfl (lv_at hl 0 rfl) ?_
      refine lv_bipush (v := (nI (8))) hx hb zd_M_reduce_3 (by decide) ?_
      refine lv_icmp_ge (tgt := 32) hx hb zd_M_reduce_5 (by decide) (fun hc5 => ?_) (fun hc5 => ?_)
      · have hc5 : 8 ≤ k2 := (nI_leI (by omega) (by omega)).mp hc5
        exact kz_vret F (f1) hdy (trivial) zd_M_reduce_32
      · have hc5 : ¬ 8 ≤ k2 := fun h9 => hc5 ((nI_leI (by omega) (by omega)).mpr h9)
        refine lv_aload_n hx hb zd_M_reduce_8 rfl (lv_at hl 1 rfl) ?_
        refine lv_iload_n hx hb zd_M_reduce_9 rfl (lv_at hl 0 rfl) ?_
        refine kz_calll (wk := [(qw, .inl (cI, 16, .inl f1))]) (va_runV (As := [.int (nI (k2))]) (rest := []) ⟨hx, hb, hml, hown, hts⟩ (c_Mod_guessDigit l dC dI cI cAA cB cL h qs qf qw ql qr (sh) gqs f1 k2 _ (by first | omega | assumption)) (cwV 1 hts (kz_g (kz_mc mw_264 (kz_mc mw_266 (kz_mc mw_8 (kz_mc mw_41 kz_mn)))) mw_267) rfl rfl rfl (by decide +kernel) ⟨Nat.le_of_ble_eq_true rfl, Nat.le_of_ble_eq_true rfl⟩) (kz_preVr hdy hA hK hro hZ hN [] (by decide) rfl [(true, 0), (true, 1), (false, 0)] rfl (by decide) [0, 1, 2, 3] rfl (fun _ h => by cases h) (fun _ h => by cases h) rfl (ci := 1) (q0 := 0) rfl rfl rfl) rfl rfl hl.1 rfl (lv_room (Nat.le_of_ble_eq_true rfl)) zd_M_reduce_10 ⟨Nat.le_of_ble_eq_true rfl, Nat.le_of_ble_eq_true rfl⟩) hdy hA [] [0] rfl rfl (by decide) (by decide) (fun r u H locs hw hdy => ?_)
        obtain ⟨y2, rfl⟩ : ∃ z, z = r := ⟨_, rfl⟩
        have hdy : kz_dy (dC, dI) vwCl A s.heap H locs [(qw, .inl (cI, 16, .inl f1))] := hdy.sub [0] (by decide) rfl
        refine lv_lstore_n (lv' := [(2, .long y2), (1, .int (nI (k2))), (0, .ref h)]) hx hb zd_M_reduce_13 rfl hl (by decide) rfl (fun ls hl => ?_)
        refine lv_lload_n hx hb zd_M_reduce_14 rfl (lv_at hl 0 rfl) ?_
        refine lv_lconst (v := 0) hx hb zd_M_reduce_15 (by decide) ?_
        refine kz_leq (tgt := 26) hx hb zd_M_reduce_16 zd_M_reduce_17 (by decide) (fun hc17 => ?_) (fun hc17 => ?_)
        · refine lv_iinc (v := (nI (k2 + 1))) (lv' := [(1, .int (nI (k2 + 1))), (2, .long y2), (0, .ref h)]) hx hb zd_M_reduce_26 hl (k := 1) rfl (nI_1 _) (by decide) rfl (fun ls hl => ?_)
          refine lv_goto (tgt := 2) hx hb zd_M_reduce_29 (by decide) ?_
          exact ih2 (k2 + 1) f1 _ _ _ (by omega) (by omega) hdy (lv_sub hl [0, 2] rfl)
        · refine lv_aload_n hx hb zd_M_reduce_20 rfl (lv_at hl 2 rfl) ?_
          refine lv_lload_n hx hb zd_M_reduce_21 rfl (lv_at hl 0 rfl) ?_
          refine lv_iload_n hx hb zd_M_reduce_22 rfl (lv_at hl 1 rfl) ?_
          refine kz_callv (wk := []) (va_runV (As := [.long y2, .int (nI (k2))]) (rest := []) ⟨hx, hb, hml, hown, hts⟩ (c_Mod_takeAway l dC dI cI cAA cB cL qw h qs qf ql qr f1 (sh) gqs (y2) k2 _ (by first | omega | assumption)) (cwV 2 hts (kz_g (kz_mc mw_269 (kz_mc mw_271 (kz_mc mw_9 (kz_mc mw_41 kz_mn)))) mw_272) rfl rfl rfl (by decide +kernel) ⟨Nat.le_of_ble_eq_true rfl, Nat.le_of_ble_eq_true rfl⟩) (kz_preVr hdy hA hK hro hZ hN [0] (by decide) rfl [(true, 0), (true, 1)] rfl (by decide) [0, 1, 2, 3] rfl (fun _ h => by cases h) (fun _ h => by cases h) rfl (ci := 1) (q0 := 0) rfl rfl rfl) rfl rfl hl.1 rfl (lv_room (Nat.le_of_ble_eq_true rfl)) zd_M_reduce_23 ⟨Nat.le_of_ble_eq_true rfl, Nat.le_of_ble_eq_true rfl⟩) hdy hA [0] [] rfl rfl (by decide) (by decide) (fun u H locs hw hdy => ?_)
          obtain ⟨f3, rfl⟩ : ∃ z, z = u := ⟨_, rfl⟩
          have hdy : kz_dy (dC, dI) vwCl A s.heap H locs [(qw, .inl (cI, 16, .inl f3))] := hdy.sub [0] (by decide) rfl
          refine lv_iinc (v := (nI (k2 + 1))) (lv' := [(1, .int (nI (k2 + 1))), (2, .long y2), (0, .ref h)]) hx hb zd_M_reduce_26 hl (k := 1) rfl (nI_1 _) (by decide) rfl (fun ls hl => ?_)
          refine lv_goto (tgt := 2) hx hb zd_M_reduce_29 (by decide) ?_
          exact ih2 (k2 + 1) f3 _ _ _ (by omega) (by omega) hdy (lv_sub hl [0, 2] rfl)
  exact lp2 (8 - 0 + 1) 0 gqw _ _ _ (by omega) (by omega) hdy (lv_sub hl [0, 1] rfl)

set_option maxHeartbeats 4000000 in
set_option maxRecDepth 100000 in
/-- KeyMeeting$Modulus.multiply([I[I[I)V -/
theorem c_Mod_multiply (l : Launch) (dC : Nat → ClassId) (dI : Nat → Nat → Nat) (cI cAA cB cL : ClassId) (qf qw ql o h qs qr a b : Nat) (gqf : Nat → Int32) (gqw : Nat → Int32) (gql : Nat → Int32) (go : Nat → Int32) (sh : Int32) (gqs : Nat → Int32) (ga : Nat → Int32) (gb : Nat → Int32) (sz : Nat) : Met l zy_M_multiply zw_M_multiply { frames := 3, cells := 0, slots := 0, locals := 79 } (kz_Pc (dC, dI) vwCl [(cI, .int), (cAA, .array .int), (cB, .byte), (cL, .long)] [] [] [.ref h, .ref a, .ref b, .ref o] [(qf, .inl (cI, 8, .inl gqf)), (qw, .inl (cI, 16, .inl gqw)), (ql, .inl (cI, 8, .inl gql)), (o, .inl (cI, 8, .inl go))] [(h, .inr (1, [.ref qs, .ref qf, .ref qw, .ref ql, .ref qr, .int sh])), (qs, .inl (cI, 8, .inl gqs)), (a, .inl (cI, 8, .inl ga)), (b, .inl (cI, 8, .inl gb))] sz) (va_Qv (fun _ => True) (kz_B (dC, dI) vwCl (va_A [(qf, .inl (cI, 8, .inl gqf)), (qw, .inl (cI, 16, .inl gqw)), (ql, .inl (cI, 8, .inl gql)), (o, .inl (cI, 8, .inl go))] sz) (fun u : (Nat → Int32) × (Nat → Int32) × (Nat → Int32) × (Nat → Int32) => [(qf, .inl (cI, 8, .inl u.1)), (qw, .inl (cI, 16, .inl u.2.1)), (ql, .inl (cI, 8, .inl u.2.2.1)), (o, .inl (cI, 8, .inl u.2.2.2))])) (va_A [(qf, .inl (cI, 8, .inl gqf)), (qw, .inl (cI, 16, .inl gqw)), (ql, .inl (cI, 8, .inl gql)), (o, .inl (cI, 8, .inl go))] sz)) 0 0 (va_A [(qf, .inl (cI, 8, .inl gqf)), (qw, .inl (cI, 16, .inl gqw)), (ql, .inl (cI, 8, .inl gql)), (o, .inl (cI, 8, .inl go))] sz) := by
  refine kz_met (Qc := fun A => va_Qv (fun _ => True) (kz_B (dC, dI) vwCl A (fun u : (Nat → Int32) × (Nat → Int32) × (Nat → Int32) × (Nat → Int32) => [(qf, .inl (cI, 8, .inl u.1)), (qw, .inl (cI, 16, .inl u.2.1)), (ql, .inl (cI, 8, .inl u.2.2.1)), (o, .inl (cI, 8, .inl u.2.2.2))])) A) (cc := zc_M_multiply) (maxL := 4) (ret := none) (by decide) rfl (Nat.le_of_ble_eq_true rfl) ?_
  intro p e s m below meth c A ls F hA hdy hK hro hZ hN hl
  obtain ⟨hx, hb, hml, hr, hown, hlocks, hts, hnm⟩ := id F
  have hl : lv_has ls 4 [(0, .ref h), (1, .ref a), (2, .ref b), (3, .ref o)] := hl
  refine lv_aload_n hx hb zd_M_multiply_0 rfl (lv_at hl 2 rfl) ?_
  refine lv_aload_n hx hb zd_M_multiply_1 rfl (lv_at hl 0 rfl) ?_
  refine va_get (D := (dC, dI)) (ci := 1) (v := .int sh) (C := zR_M) (T := zT_M) (N := 6) hx hb hts (fun w h => kz_c (zi_M w h)) hown hK (hro.at hdy.2.2) 0 rfl rfl 5 (by decide) (hts _ (kz_c mw_99)) (fun _ h9 => h9) rfl zd_M_multiply_2 ?_
  refine lv_aload_n hx hb zd_M_multiply_5 rfl (lv_at hl 0 rfl) ?_
  refine va_get (D := (dC, dI)) (ci := 1) (v := .ref qf) (C := zR_M) (T := zT_M) (N := 6) hx hb hts (fun w h => kz_c (zi_M w h)) hown hK (hro.at hdy.2.2) 0 rfl rfl 1 (by decide) (hts _ (kz_c mw_95)) (fun _ h9 => h9) rfl zd_M_multiply_6 ?_
  refine kz_callv (wk := [(qw, .inl (cI, 16, .inl gqw)), (ql, .inl (cI, 8, .inl gql)), (o, .inl (cI, 8, .inl go))]) (va_runS (As := [.ref b, .int sh, .ref qf]) (rest := []) ⟨hx, hb, hml, hown, hts⟩ (c_Words_shiftLeft l dC dI cI cAA cB cL qf b gqf gb (sh) _) (va_cwS 3 hts (kz_g (kz_mc mw_243 (kz_mc mw_244 (kz_mc mw_50 kz_mn))) mw_245) rfl rfl rfl (by decide +kernel) ⟨Nat.le_of_ble_eq_true rfl, Nat.le_of_ble_eq_true rfl⟩) (kz_preS hdy hA hK hro hZ hN [0] (by decide) rfl [(true, 3)] rfl (by decide) [0, 1, 2, 3] rfl (fun _ h => by cases h) (fun _ h => by cases h) rfl) rfl rfl hl.1 rfl (lv_room (Nat.le_of_ble_eq_true rfl)) zd_M_multiply_9 ⟨Nat.le_of_ble_eq_true rfl, Nat.le_of_ble_eq_true rfl⟩) hdy hA [0] [1, 2, 3] rfl rfl (by decide) (by decide) (fun u H locs hw hdy => ?_)
  obtain ⟨f1, rfl⟩ : ∃ z, z = u := ⟨_, rfl⟩
  have hdy : kz_dy (dC, dI) vwCl A s.heap H locs [(qf, .inl (cI, 8, .inl f1)), (qw, .inl (cI, 16, .inl gqw)), (ql, .inl (cI, 8, .inl gql)), (o, .inl (cI, 8, .inl go))] := hdy.sub [3, 0, 1, 2] (by decide) rfl
  refine lv_aload_n hx hb zd_M_multiply_12 rfl (lv_at hl 1 rfl) ?_
  refine lv_aload_n hx hb zd_M_multiply_13 rfl (lv_at hl 0 rfl) ?_
  refine va_get (D := (dC, dI)) (ci := 1) (v := .ref qf) (C := zR_M) (T := zT_M) (N := 6) hx hb hts (fun w h => kz_c (zi_M w h)) hown hK (hro.at hdy.2.2) 0 rfl rfl 1 (by decide) (hts _ (kz_c mw_95)) (fun _ h9 => h9) rfl zd_M_multiply_14 ?_
  refine lv_aload_n hx hb zd_M_multiply_17 rfl (lv_at hl 0 rfl) ?_
  refine va_get (D := (dC, dI)) (ci := 1) (v := .ref qw) (C := zR_M) (T := zT_M) (N := 6) hx hb hts (fun w h => kz_c (zi_M w h)) hown hK (hro.at hdy.2.2) 0 rfl rfl 2 (by decide) (hts _ (kz_c mw_96)) (fun _ h9 => h9) rfl zd_M_multiply_18 ?_
  refine kz_callv (wk := [(qf, .inl (cI, 8, .inl f1)), (ql, .inl (cI, 8, .inl gql)), (o, .inl (cI, 8, .inl go))]) (va_runS (As := [.ref a, .ref qf, .ref qw]) (rest := []) ⟨hx, hb, hml, hown, hts⟩ (c_Words_multiply l dC dI cI cAA cB cL qw a qf gqw ga f1 _) (va_cwS 3 hts (kz_g (kz_mc mw_259 (kz_mc mw_204 (kz_mc mw_50 kz_mn))) mw_205) rfl rfl rfl (by decide +kernel) ⟨Nat.le_of_ble_eq_true rfl, Nat.le_of_ble_eq_true rfl⟩) (kz_preS hdy hA hK hro hZ hN [1] (by decide) rfl [(true, 2), (false, 0)] rfl (by decide) [0, 1, 2, 3] rfl (fun _ h => by cases h) (fun _ h => by cases h) rfl) rfl rfl hl.1 rfl (lv_room (Nat.le_of_ble_eq_true rfl)) zd_M_multiply_21 ⟨Nat.le_of_ble_eq_true rfl, Nat.le_of_ble_eq_true rfl⟩) hdy hA [1] [0, 2, 3] rfl rfl (by decide) (by decide) (fun u H locs hw hdy => ?_)
  obtain ⟨f2, rfl⟩ : ∃ z, z = u := ⟨_, rfl⟩
  have hdy : kz_dy (dC, dI) vwCl A s.heap H locs [(qf, .inl (cI, 8, .inl f1)), (qw, .inl (cI, 16, .inl f2)), (ql, .inl (cI, 8, .inl gql)), (o, .inl (cI, 8, .inl go))] := hdy.sub [0, 3, 1, 2] (by decide) rfl
  refine lv_aload_n hx hb zd_M_multiply_24 rfl (lv_at hl 0 rfl) ?_
  refine kz_callv (wk := [(qf, .inl (cI, 8, .inl f1)), (ql, .inl (cI, 8, .inl gql)), (o, .inl (cI, 8, .inl go))]) (va_runV (As := []) (rest := []) ⟨hx, hb, hml, hown, hts⟩ (c_Mod_reduce l dC dI cI cAA cB cL qw h qs qf ql qr f2 (sh) gqs _) (cwV 0 hts (kz_g (kz_mc mw_260 (kz_mc mw_262 (kz_mc mw_7 (kz_mc mw_41 kz_mn)))) mw_263) rfl rfl rfl (by decide +kernel) ⟨Nat.le_of_ble_eq_true rfl, Nat.le_of_ble_eq_true rfl⟩) (kz_preVr hdy hA hK hro hZ hN [1] (by decide) rfl [(true, 0), (true, 1)] rfl (by decide) [0, 1, 2, 3] rfl (fun _ h => by cases h) (fun _ h => by cases h) rfl (ci := 1) (q0 := 0) rfl rfl rfl) rfl rfl hl.1 rfl (lv_room (Nat.le_of_ble_eq_true rfl)) zd_M_multiply_25 ⟨Nat.le_of_ble_eq_true rfl, Nat.le_of_ble_eq_true rfl⟩) hdy hA [1] [0, 2, 3] rfl rfl (by decide) (by decide) (fun u H locs hw hdy => ?_)
  obtain ⟨f3, rfl⟩ : ∃ z, z = u := ⟨_, rfl⟩
  have hdy : kz_dy (dC, dI) vwCl A s.heap H locs [(qf, .inl (cI, 8, .inl f1)), (qw, .inl (cI, 16, .inl f3)), (ql, .inl (cI, 8, .inl gql)), (o, .inl (cI, 8, .inl go))] := hdy.sub [0, 3, 1, 2] (by decide) rfl
  refine lv_aload_n hx hb zd_M_multiply_28 rfl (lv_at hl 0 rfl) ?_
  refine va_get (D := (dC, dI)) (ci := 1) (v := .ref qw) (C := zR_M) (T := zT_M) (N := 6) hx hb hts (fun w h => kz_c (zi_M w h)) hown hK (hro.at hdy.2.2) 0 rfl rfl 2 (by decide) (hts _ (kz_c mw_96)) (fun _ h9 => h9) rfl zd_M_multiply_29 ?_
  refine lv_bipush (v := (nI (8))) hx hb zd_M_multiply_32 (by decide) ?_
  refine lv_aload_n hx hb zd_M_multiply_34 rfl (lv_at hl 0 rfl) ?_
  refine va_get (D := (dC, dI)) (ci := 1) (v := .ref ql) (C := zR_M) (T := zT_M) (N := 6) hx hb hts (fun w h => kz_c (zi_M w h)) hown hK (hro.at hdy.2.2) 0 rfl rfl 3 (by decide) (hts _ (kz_c mw_97)) (fun _ h9 => h9) rfl zd_M_multiply_35 ?_
  refine lv_iconst (v := (nI (0))) hx hb zd_M_multiply_38 (by decide) ?_
  refine lv_bipush (v := (nI (8))) hx hb zd_M_multiply_39 (by decide) ?_
  refine va_copyi hx hb (hml.trans hl.1.symm) hown (hts _ (kz_c mw_277)) (hts _ (kz_c mw_214)) (hts _ (kz_c mw_213)) (hts _ (kz_c mw_51)) hK hdy.1 hdy.2.1 hdy.2.2 1 2 0 0 rfl rfl rfl rfl rfl (nI_pos (by omega)) (nI_pos (by omega)) (nI_pos (by omega)) (by (repeat rw [nI_clamp (by omega)]) <;> omega) (by (repeat rw [nI_clamp (by omega)]) <;> omega) (fun _ _ => rfl) (Nat.le_of_ble_eq_true rfl) (Nat.le_of_ble_eq_true rfl) zd_M_multiply_41 (fun H locs hP hD hS => ?_)
  obtain ⟨f4, hdy⟩ : ∃ f4 : Nat → Int32, kz_dy (dC, dI) vwCl A s.heap H locs [(qf, .inl (cI, 8, .inl f1)), (qw, .inl (cI, 16, .inl f3)), (ql, .inl (cI, 8, .inl f4)), (o, .inl (cI, 8, .inl go))] := ⟨_, hP, hD, hS⟩
  refine lv_aload_n hx hb zd_M_multiply_44 rfl (lv_at hl 0 rfl) ?_
  refine va_get (D := (dC, dI)) (ci := 1) (v := .ref ql) (C := zR_M) (T := zT_M) (N := 6) hx hb hts (fun w h => kz_c (zi_M w h)) hown hK (hro.at hdy.2.2) 0 rfl rfl 3 (by decide) (hts _ (kz_c mw_97)) (fun _ h9 => h9) rfl zd_M_multiply_45 ?_
  refine lv_aload_n hx hb zd_M_multiply_48 rfl (lv_at hl 0 rfl) ?_
  refine va_get (D := (dC, dI)) (ci := 1) (v := .int sh) (C := zR_M) (T := zT_M) (N := 6) hx hb hts (fun w h => kz_c (zi_M w h)) hown hK (hro.at hdy.2.2) 0 rfl rfl 5 (by decide) (hts _ (kz_c mw_99)) (fun _ h9 => h9) rfl zd_M_multiply_49 ?_
  refine lv_aload_n hx hb zd_M_multiply_52 rfl (lv_at hl 3 rfl) ?_
  refine kz_callv (wk := [(qf, .inl (cI, 8, .inl f1)), (qw, .inl (cI, 16, .inl f3)), (ql, .inl (cI, 8, .inl f4))]) (va_runS (As := [.ref ql, .int sh, .ref o]) (rest := []) ⟨hx, hb, hml, hown, hts⟩ (c_Words_shiftRight l dC dI cI cAA cB cL o ql go f4 (sh) _) (va_cwS 3 hts (kz_g (kz_mc mw_278 (kz_mc mw_279 (kz_mc mw_50 kz_mn))) mw_280) rfl rfl rfl (by decide +kernel) ⟨Nat.le_of_ble_eq_true rfl, Nat.le_of_ble_eq_true rfl⟩) (kz_preS hdy hA hK hro hZ hN [3] (by decide) rfl [(false, 2)] rfl (by decide) [0, 1, 2, 3] rfl (fun _ h => by cases h) (fun _ h => by cases h) rfl) rfl rfl hl.1 rfl (lv_room (Nat.le_of_ble_eq_true rfl)) zd_M_multiply_53 ⟨Nat.le_of_ble_eq_true rfl, Nat.le_of_ble_eq_true rfl⟩) hdy hA [3] [0, 1, 2] rfl rfl (by decide) (by decide) (fun u H locs hw hdy => ?_)
  obtain ⟨f5, rfl⟩ : ∃ z, z = u := ⟨_, rfl⟩
  have hdy : kz_dy (dC, dI) vwCl A s.heap H locs [(qf, .inl (cI, 8, .inl f1)), (qw, .inl (cI, 16, .inl f3)), (ql, .inl (cI, 8, .inl f4)), (o, .inl (cI, 8, .inl f5))] := hdy.sub [0, 1, 2, 3] (by decide) rfl
  exact kz_vret F (f1, f3, f4, f5) hdy (trivial) zd_M_multiply_56

set_option maxHeartbeats 4000000 in
set_option maxRecDepth 100000 in
/-- KeyMeeting$Modulus.multiply([I[I[I)V -/
theorem c_Mod_multiply2 (l : Launch) (dC : Nat → ClassId) (dI : Nat → Nat → Nat) (cI cAA cB cL : ClassId) (qf qw ql o h qs qr : Nat) (gqf : Nat → Int32) (gqw : Nat → Int32) (gql : Nat → Int32) (go : Nat → Int32) (sh : Int32) (gqs : Nat → Int32) (sz : Nat) : Met l zy_M_multiply zw_M_multiply { frames := 3, cells := 0, slots := 0, locals := 79 } (kz_Pc (dC, dI) vwCl [(cI, .int), (cAA, .array .int), (cB, .byte), (cL, .long)] [] [] [.ref h, .ref o, .ref o, .ref o] [(qf, .inl (cI, 8, .inl gqf)), (qw, .inl (cI, 16, .inl gqw)), (ql, .inl (cI, 8, .inl gql)), (o, .inl (cI, 8, .inl go))] [(h, .inr (1, [.ref qs, .ref qf, .ref qw, .ref ql, .ref qr, .int sh])), (qs, .inl (cI, 8, .inl gqs))] sz) (va_Qv (fun _ => True) (kz_B (dC, dI) vwCl (va_A [(qf, .inl (cI, 8, .inl gqf)), (qw, .inl (cI, 16, .inl gqw)), (ql, .inl (cI, 8, .inl gql)), (o, .inl (cI, 8, .inl go))] sz) (fun u : (Nat → Int32) × (Nat → Int32) × (Nat → Int32) × (Nat → Int32) => [(qf, .inl (cI, 8, .inl u.1)), (qw, .inl (cI, 16, .inl u.2.1)), (ql, .inl (cI, 8, .inl u.2.2.1)), (o, .inl (cI, 8, .inl u.2.2.2))])) (va_A [(qf, .inl (cI, 8, .inl gqf)), (qw, .inl (cI, 16, .inl gqw)), (ql, .inl (cI, 8, .inl gql)), (o, .inl (cI, 8, .inl go))] sz)) 0 0 (va_A [(qf, .inl (cI, 8, .inl gqf)), (qw, .inl (cI, 16, .inl gqw)), (ql, .inl (cI, 8, .inl gql)), (o, .inl (cI, 8, .inl go))] sz) := by
  refine kz_met (Qc := fun A => va_Qv (fun _ => True) (kz_B (dC, dI) vwCl A (fun u : (Nat → Int32) × (Nat → Int32) × (Nat → Int32) × (Nat → Int32) => [(qf, .inl (cI, 8, .inl u.1)), (qw, .inl (cI, 16, .inl u.2.1)), (ql, .inl (cI, 8, .inl u.2.2.1)), (o, .inl (cI, 8, .inl u.2.2.2))])) A) (cc := zc_M_multiply) (maxL := 4) (ret := none) (by decide) rfl (Nat.le_of_ble_eq_true rfl) ?_
  intro p e s m below meth c A ls F hA hdy hK hro hZ hN hl
  obtain ⟨hx, hb, hml, hr, hown, hlocks, hts, hnm⟩ := id F
  have hl : lv_has ls 4 [(0, .ref h), (1, .ref o), (2, .ref o), (3, .ref o)] := hl
  refine lv_aload_n hx hb zd_M_multiply_0 rfl (lv_at hl 2 rfl) ?_
  refine lv_aload_n hx hb zd_M_multiply_1 rfl (lv_at hl 0 rfl) ?_
  refine va_get (D := (dC, dI)) (ci := 1) (v := .int sh) (C := zR_M) (T := zT_M) (N := 6) hx hb hts (fun w h => kz_c (zi_M w h)) hown hK (hro.at hdy.2.2) 0 rfl rfl 5 (by decide) (hts _ (kz_c mw_99)) (fun _ h9 => h9) rfl zd_M_multiply_2 ?_
  refine lv_aload_n hx hb zd_M_multiply_5 rfl (lv_at hl 0 rfl) ?_
  refine va_get (D := (dC, dI)) (ci := 1) (v := .ref qf) (C := zR_M) (T := zT_M) (N := 6) hx hb hts (fun w h => kz_c (zi_M w h)) hown hK (hro.at hdy.2.2) 0 rfl rfl 1 (by decide) (hts _ (kz_c mw_95)) (fun _ h9 => h9) rfl zd_M_multiply_6 ?_
  refine kz_callv (wk := [(qw, .inl (cI, 16, .inl gqw)), (ql, .inl (cI, 8, .inl gql)), (o, .inl (cI, 8, .inl go))]) (va_runS (As := [.ref o, .int sh, .ref qf]) (rest := []) ⟨hx, hb, hml, hown, hts⟩ (c_Words_shiftLeft l dC dI cI cAA cB cL qf o gqf go (sh) _) (va_cwS 3 hts (kz_g (kz_mc mw_243 (kz_mc mw_244 (kz_mc mw_50 kz_mn))) mw_245) rfl rfl rfl (by decide +kernel) ⟨Nat.le_of_ble_eq_true rfl, Nat.le_of_ble_eq_true rfl⟩) (kz_preS hdy hA hK hro hZ hN [0] (by decide) rfl [(false, 3)] rfl (by decide) [0, 1, 2, 3] rfl (fun _ h => by cases h) (fun _ h => by cases h) rfl) rfl rfl hl.1 rfl (lv_room (Nat.le_of_ble_eq_true rfl)) zd_M_multiply_9 ⟨Nat.le_of_ble_eq_true rfl, Nat.le_of_ble_eq_true rfl⟩) hdy hA [0] [1, 2, 3] rfl rfl (by decide) (by decide) (fun u H locs hw hdy => ?_)
  obtain ⟨f1, rfl⟩ : ∃ z, z = u := ⟨_, rfl⟩
  have hdy : kz_dy (dC, dI) vwCl A s.heap H locs [(qf, .inl (cI, 8, .inl f1)), (qw, .inl (cI, 16, .inl gqw)), (ql, .inl (cI, 8, .inl gql)), (o, .inl (cI, 8, .inl go))] := hdy.sub [3, 0, 1, 2] (by decide) rfl
  refine lv_aload_n hx hb zd_M_multiply_12 rfl (lv_at hl 1 rfl) ?_
  refine lv_aload_n hx hb zd_M_multiply_13 rfl (lv_at hl 0 rfl) ?_
  refine va_get (D := (dC, dI)) (ci := 1) (v := .ref qf) (C := zR_M) (T := zT_M) (N := 6) hx hb hts (fun w h => kz_c (zi_M w h)) hown hK (hro.at hdy.2.2) 0 rfl rfl 1 (by decide) (hts _ (kz_c mw_95)) (fun _ h9 => h9) rfl zd_M_multiply_14 ?_
  refine lv_aload_n hx hb zd_M_multiply_17 rfl (lv_at hl 0 rfl) ?_
  refine va_get (D := (dC, dI)) (ci := 1) (v := .ref qw) (C := zR_M) (T := zT_M) (N := 6) hx hb hts (fun w h => kz_c (zi_M w h)) hown hK (hro.at hdy.2.2) 0 rfl rfl 2 (by decide) (hts _ (kz_c mw_96)) (fun _ h9 => h9) rfl zd_M_multiply_18 ?_
  refine kz_callv (wk := [(qf, .inl (cI, 8, .inl f1)), (ql, .inl (cI, 8, .inl gql)), (o, .inl (cI, 8, .inl go))]) (va_runS (As := [.ref o, .ref qf, .ref qw]) (rest := []) ⟨hx, hb, hml, hown, hts⟩ (c_Words_multiply l dC dI cI cAA cB cL qw o qf gqw go f1 _) (va_cwS 3 hts (kz_g (kz_mc mw_259 (kz_mc mw_204 (kz_mc mw_50 kz_mn))) mw_205) rfl rfl rfl (by decide +kernel) ⟨Nat.le_of_ble_eq_true rfl, Nat.le_of_ble_eq_true rfl⟩) (kz_preS hdy hA hK hro hZ hN [1] (by decide) rfl [(false, 3), (false, 0)] rfl (by decide) [0, 1, 2, 3] rfl (fun _ h => by cases h) (fun _ h => by cases h) rfl) rfl rfl hl.1 rfl (lv_room (Nat.le_of_ble_eq_true rfl)) zd_M_multiply_21 ⟨Nat.le_of_ble_eq_true rfl, Nat.le_of_ble_eq_true rfl⟩) hdy hA [1] [0, 2, 3] rfl rfl (by decide) (by decide) (fun u H locs hw hdy => ?_)
  obtain ⟨f2, rfl⟩ : ∃ z, z = u := ⟨_, rfl⟩
  have hdy : kz_dy (dC, dI) vwCl A s.heap H locs [(qf, .inl (cI, 8, .inl f1)), (qw, .inl (cI, 16, .inl f2)), (ql, .inl (cI, 8, .inl gql)), (o, .inl (cI, 8, .inl go))] := hdy.sub [0, 3, 1, 2] (by decide) rfl
  refine lv_aload_n hx hb zd_M_multiply_24 rfl (lv_at hl 0 rfl) ?_
  refine kz_callv (wk := [(qf, .inl (cI, 8, .inl f1)), (ql, .inl (cI, 8, .inl gql)), (o, .inl (cI, 8, .inl go))]) (va_runV (As := []) (rest := []) ⟨hx, hb, hml, hown, hts⟩ (c_Mod_reduce l dC dI cI cAA cB cL qw h qs qf ql qr f2 (sh) gqs _) (cwV 0 hts (kz_g (kz_mc mw_260 (kz_mc mw_262 (kz_mc mw_7 (kz_mc mw_41 kz_mn)))) mw_263) rfl rfl rfl (by decide +kernel) ⟨Nat.le_of_ble_eq_true rfl, Nat.le_of_ble_eq_true rfl⟩) (kz_preVr hdy hA hK hro hZ hN [1] (by decide) rfl [(true, 0), (true, 1)] rfl (by decide) [0, 1, 2, 3] rfl (fun _ h => by cases h) (fun _ h => by cases h) rfl (ci := 1) (q0 := 0) rfl rfl rfl) rfl rfl hl.1 rfl (lv_room (Nat.le_of_ble_eq_true rfl)) zd_M_multiply_25 ⟨Nat.le_of_ble_eq_true rfl, Nat.le_of_ble_eq_true rfl⟩) hdy hA [1] [0, 2, 3] rfl rfl (by decide) (by decide) (fun u H locs hw hdy => ?_)
  obtain ⟨f3, rfl⟩ : ∃ z, z = u := ⟨_, rfl⟩
  have hdy : kz_dy (dC, dI) vwCl A s.heap H locs [(qf, .inl (cI, 8, .inl f1)), (qw, .inl (cI, 16, .inl f3)), (ql, .inl (cI, 8, .inl gql)), (o, .inl (cI, 8, .inl go))] := hdy.sub [0, 3, 1, 2] (by decide) rfl
  refine lv_aload_n hx hb zd_M_multiply_28 rfl (lv_at hl 0 rfl) ?_
  refine va_get (D := (dC, dI)) (ci := 1) (v := .ref qw) (C := zR_M) (T := zT_M) (N := 6) hx hb hts (fun w h => kz_c (zi_M w h)) hown hK (hro.at hdy.2.2) 0 rfl rfl 2 (by decide) (hts _ (kz_c mw_96)) (fun _ h9 => h9) rfl zd_M_multiply_29 ?_
  refine lv_bipush (v := (nI (8))) hx hb zd_M_multiply_32 (by decide) ?_
  refine lv_aload_n hx hb zd_M_multiply_34 rfl (lv_at hl 0 rfl) ?_
  refine va_get (D := (dC, dI)) (ci := 1) (v := .ref ql) (C := zR_M) (T := zT_M) (N := 6) hx hb hts (fun w h => kz_c (zi_M w h)) hown hK (hro.at hdy.2.2) 0 rfl rfl 3 (by decide) (hts _ (kz_c mw_97)) (fun _ h9 => h9) rfl zd_M_multiply_35 ?_
  refine lv_iconst (v := (nI (0))) hx hb zd_M_multiply_38 (by decide) ?_
  refine lv_bipush (v := (nI (8))) hx hb zd_M_multiply_39 (by decide) ?_
  refine va_copyi hx hb (hml.trans hl.1.symm) hown (hts _ (kz_c mw_277)) (hts _ (kz_c mw_214)) (hts _ (kz_c mw_213)) (hts _ (kz_c mw_51)) hK hdy.1 hdy.2.1 hdy.2.2 1 2 0 0 rfl rfl rfl rfl rfl (nI_pos (by omega)) (nI_pos (by omega)) (nI_pos (by omega)) (by (repeat rw [nI_clamp (by omega)]) <;> omega) (by (repeat rw [nI_clamp (by omega)]) <;> omega) (fun _ _ => rfl) (Nat.le_of_ble_eq_true rfl) (Nat.le_of_ble_eq_true rfl) zd_M_multiply_41 (fun H locs hP hD hS => ?_)
  obtain ⟨f4, hdy⟩ : ∃ f4 : Nat → Int32, kz_dy (dC, dI) vwCl A s.heap H locs [(qf, .inl (cI, 8, .inl f1)), (qw, .inl (cI, 16, .inl f3)), (ql, .inl (cI, 8, .inl f4)), (o, .inl (cI, 8, .inl go))] := ⟨_, hP, hD, hS⟩
  refine lv_aload_n hx hb zd_M_multiply_44 rfl (lv_at hl 0 rfl) ?_
  refine va_get (D := (dC, dI)) (ci := 1) (v := .ref ql) (C := zR_M) (T := zT_M) (N := 6) hx hb hts (fun w h => kz_c (zi_M w h)) hown hK (hro.at hdy.2.2) 0 rfl rfl 3 (by decide) (hts _ (kz_c mw_97)) (fun _ h9 => h9) rfl zd_M_multiply_45 ?_
  refine lv_aload_n hx hb zd_M_multiply_48 rfl (lv_at hl 0 rfl) ?_
  refine va_get (D := (dC, dI)) (ci := 1) (v := .int sh) (C := zR_M) (T := zT_M) (N := 6) hx hb hts (fun w h => kz_c (zi_M w h)) hown hK (hro.at hdy.2.2) 0 rfl rfl 5 (by decide) (hts _ (kz_c mw_99)) (fun _ h9 => h9) rfl zd_M_multiply_49 ?_
  refine lv_aload_n hx hb zd_M_multiply_52 rfl (lv_at hl 3 rfl) ?_
  refine kz_callv (wk := [(qf, .inl (cI, 8, .inl f1)), (qw, .inl (cI, 16, .inl f3)), (ql, .inl (cI, 8, .inl f4))]) (va_runS (As := [.ref ql, .int sh, .ref o]) (rest := []) ⟨hx, hb, hml, hown, hts⟩ (c_Words_shiftRight l dC dI cI cAA cB cL o ql go f4 (sh) _) (va_cwS 3 hts (kz_g (kz_mc mw_278 (kz_mc mw_279 (kz_mc mw_50 kz_mn))) mw_280) rfl rfl rfl (by decide +kernel) ⟨Nat.le_of_ble_eq_true rfl, Nat.le_of_ble_eq_true rfl⟩) (kz_preS hdy hA hK hro hZ hN [3] (by decide) rfl [(false, 2)] rfl (by decide) [0, 1, 2, 3] rfl (fun _ h => by cases h) (fun _ h => by cases h) rfl) rfl rfl hl.1 rfl (lv_room (Nat.le_of_ble_eq_true rfl)) zd_M_multiply_53 ⟨Nat.le_of_ble_eq_true rfl, Nat.le_of_ble_eq_true rfl⟩) hdy hA [3] [0, 1, 2] rfl rfl (by decide) (by decide) (fun u H locs hw hdy => ?_)
  obtain ⟨f5, rfl⟩ : ∃ z, z = u := ⟨_, rfl⟩
  have hdy : kz_dy (dC, dI) vwCl A s.heap H locs [(qf, .inl (cI, 8, .inl f1)), (qw, .inl (cI, 16, .inl f3)), (ql, .inl (cI, 8, .inl f4)), (o, .inl (cI, 8, .inl f5))] := hdy.sub [0, 1, 2, 3] (by decide) rfl
  exact kz_vret F (f1, f3, f4, f5) hdy (trivial) zd_M_multiply_56

set_option maxHeartbeats 4000000 in
set_option maxRecDepth 100000 in
/-- KeyMeeting$Modulus.multiply([I[I[I)V -/
theorem c_Mod_multiply3 (l : Launch) (dC : Nat → ClassId) (dI : Nat → Nat → Nat) (cI cAA cB cL : ClassId) (qf qw ql o h qs qr b : Nat) (gqf : Nat → Int32) (gqw : Nat → Int32) (gql : Nat → Int32) (go : Nat → Int32) (sh : Int32) (gqs : Nat → Int32) (gb : Nat → Int32) (sz : Nat) : Met l zy_M_multiply zw_M_multiply { frames := 3, cells := 0, slots := 0, locals := 79 } (kz_Pc (dC, dI) vwCl [(cI, .int), (cAA, .array .int), (cB, .byte), (cL, .long)] [] [] [.ref h, .ref o, .ref b, .ref o] [(qf, .inl (cI, 8, .inl gqf)), (qw, .inl (cI, 16, .inl gqw)), (ql, .inl (cI, 8, .inl gql)), (o, .inl (cI, 8, .inl go))] [(h, .inr (1, [.ref qs, .ref qf, .ref qw, .ref ql, .ref qr, .int sh])), (qs, .inl (cI, 8, .inl gqs)), (b, .inl (cI, 8, .inl gb))] sz) (va_Qv (fun _ => True) (kz_B (dC, dI) vwCl (va_A [(qf, .inl (cI, 8, .inl gqf)), (qw, .inl (cI, 16, .inl gqw)), (ql, .inl (cI, 8, .inl gql)), (o, .inl (cI, 8, .inl go))] sz) (fun u : (Nat → Int32) × (Nat → Int32) × (Nat → Int32) × (Nat → Int32) => [(qf, .inl (cI, 8, .inl u.1)), (qw, .inl (cI, 16, .inl u.2.1)), (ql, .inl (cI, 8, .inl u.2.2.1)), (o, .inl (cI, 8, .inl u.2.2.2))])) (va_A [(qf, .inl (cI, 8, .inl gqf)), (qw, .inl (cI, 16, .inl gqw)), (ql, .inl (cI, 8, .inl gql)), (o, .inl (cI, 8, .inl go))] sz)) 0 0 (va_A [(qf, .inl (cI, 8, .inl gqf)), (qw, .inl (cI, 16, .inl gqw)), (ql, .inl (cI, 8, .inl gql)), (o, .inl (cI, 8, .inl go))] sz) := by
  refine kz_met (Qc := fun A => va_Qv (fun _ => True) (kz_B (dC, dI) vwCl A (fun u : (Nat → Int32) × (Nat → Int32) × (Nat → Int32) × (Nat → Int32) => [(qf, .inl (cI, 8, .inl u.1)), (qw, .inl (cI, 16, .inl u.2.1)), (ql, .inl (cI, 8, .inl u.2.2.1)), (o, .inl (cI, 8, .inl u.2.2.2))])) A) (cc := zc_M_multiply) (maxL := 4) (ret := none) (by decide) rfl (Nat.le_of_ble_eq_true rfl) ?_
  intro p e s m below meth c A ls F hA hdy hK hro hZ hN hl
  obtain ⟨hx, hb, hml, hr, hown, hlocks, hts, hnm⟩ := id F
  have hl : lv_has ls 4 [(0, .ref h), (1, .ref o), (2, .ref b), (3, .ref o)] := hl
  refine lv_aload_n hx hb zd_M_multiply_0 rfl (lv_at hl 2 rfl) ?_
  refine lv_aload_n hx hb zd_M_multiply_1 rfl (lv_at hl 0 rfl) ?_
  refine va_get (D := (dC, dI)) (ci := 1) (v := .int sh) (C := zR_M) (T := zT_M) (N := 6) hx hb hts (fun w h => kz_c (zi_M w h)) hown hK (hro.at hdy.2.2) 0 rfl rfl 5 (by decide) (hts _ (kz_c mw_99)) (fun _ h9 => h9) rfl zd_M_multiply_2 ?_
  refine lv_aload_n hx hb zd_M_multiply_5 rfl (lv_at hl 0 rfl) ?_
  refine va_get (D := (dC, dI)) (ci := 1) (v := .ref qf) (C := zR_M) (T := zT_M) (N := 6) hx hb hts (fun w h => kz_c (zi_M w h)) hown hK (hro.at hdy.2.2) 0 rfl rfl 1 (by decide) (hts _ (kz_c mw_95)) (fun _ h9 => h9) rfl zd_M_multiply_6 ?_
  refine kz_callv (wk := [(qw, .inl (cI, 16, .inl gqw)), (ql, .inl (cI, 8, .inl gql)), (o, .inl (cI, 8, .inl go))]) (va_runS (As := [.ref b, .int sh, .ref qf]) (rest := []) ⟨hx, hb, hml, hown, hts⟩ (c_Words_shiftLeft l dC dI cI cAA cB cL qf b gqf gb (sh) _) (va_cwS 3 hts (kz_g (kz_mc mw_243 (kz_mc mw_244 (kz_mc mw_50 kz_mn))) mw_245) rfl rfl rfl (by decide +kernel) ⟨Nat.le_of_ble_eq_true rfl, Nat.le_of_ble_eq_true rfl⟩) (kz_preS hdy hA hK hro hZ hN [0] (by decide) rfl [(true, 2)] rfl (by decide) [0, 1, 2, 3] rfl (fun _ h => by cases h) (fun _ h => by cases h) rfl) rfl rfl hl.1 rfl (lv_room (Nat.le_of_ble_eq_true rfl)) zd_M_multiply_9 ⟨Nat.le_of_ble_eq_true rfl, Nat.le_of_ble_eq_true rfl⟩) hdy hA [0] [1, 2, 3] rfl rfl (by decide) (by decide) (fun u H locs hw hdy => ?_)
  obtain ⟨f1, rfl⟩ : ∃ z, z = u := ⟨_, rfl⟩
  have hdy : kz_dy (dC, dI) vwCl A s.heap H locs [(qf, .inl (cI, 8, .inl f1)), (qw, .inl (cI, 16, .inl gqw)), (ql, .inl (cI, 8, .inl gql)), (o, .inl (cI, 8, .inl go))] := hdy.sub [3, 0, 1, 2] (by decide) rfl
  refine lv_aload_n hx hb zd_M_multiply_12 rfl (lv_at hl 1 rfl) ?_
  refine lv_aload_n hx hb zd_M_multiply_13 rfl (lv_at hl 0 rfl) ?_
  refine va_get (D := (dC, dI)) (ci := 1) (v := .ref qf) (C := zR_M) (T := zT_M) (N := 6) hx hb hts (fun w h => kz_c (zi_M w h)) hown hK (hro.at hdy.2.2) 0 rfl rfl 1 (by decide) (hts _ (kz_c mw_95)) (fun _ h9 => h9) rfl zd_M_multiply_14 ?_
  refine lv_aload_n hx hb zd_M_multiply_17 rfl (lv_at hl 0 rfl) ?_
  refine va_get (D := (dC, dI)) (ci := 1) (v := .ref qw) (C := zR_M) (T := zT_M) (N := 6) hx hb hts (fun w h => kz_c (zi_M w h)) hown hK (hro.at hdy.2.2) 0 rfl rfl 2 (by decide) (hts _ (kz_c mw_96)) (fun _ h9 => h9) rfl zd_M_multiply_18 ?_
  refine kz_callv (wk := [(qf, .inl (cI, 8, .inl f1)), (ql, .inl (cI, 8, .inl gql)), (o, .inl (cI, 8, .inl go))]) (va_runS (As := [.ref o, .ref qf, .ref qw]) (rest := []) ⟨hx, hb, hml, hown, hts⟩ (c_Words_multiply l dC dI cI cAA cB cL qw o qf gqw go f1 _) (va_cwS 3 hts (kz_g (kz_mc mw_259 (kz_mc mw_204 (kz_mc mw_50 kz_mn))) mw_205) rfl rfl rfl (by decide +kernel) ⟨Nat.le_of_ble_eq_true rfl, Nat.le_of_ble_eq_true rfl⟩) (kz_preS hdy hA hK hro hZ hN [1] (by decide) rfl [(false, 3), (false, 0)] rfl (by decide) [0, 1, 2, 3] rfl (fun _ h => by cases h) (fun _ h => by cases h) rfl) rfl rfl hl.1 rfl (lv_room (Nat.le_of_ble_eq_true rfl)) zd_M_multiply_21 ⟨Nat.le_of_ble_eq_true rfl, Nat.le_of_ble_eq_true rfl⟩) hdy hA [1] [0, 2, 3] rfl rfl (by decide) (by decide) (fun u H locs hw hdy => ?_)
  obtain ⟨f2, rfl⟩ : ∃ z, z = u := ⟨_, rfl⟩
  have hdy : kz_dy (dC, dI) vwCl A s.heap H locs [(qf, .inl (cI, 8, .inl f1)), (qw, .inl (cI, 16, .inl f2)), (ql, .inl (cI, 8, .inl gql)), (o, .inl (cI, 8, .inl go))] := hdy.sub [0, 3, 1, 2] (by decide) rfl
  refine lv_aload_n hx hb zd_M_multiply_24 rfl (lv_at hl 0 rfl) ?_
  refine kz_callv (wk := [(qf, .inl (cI, 8, .inl f1)), (ql, .inl (cI, 8, .inl gql)), (o, .inl (cI, 8, .inl go))]) (va_runV (As := []) (rest := []) ⟨hx, hb, hml, hown, hts⟩ (c_Mod_reduce l dC dI cI cAA cB cL qw h qs qf ql qr f2 (sh) gqs _) (cwV 0 hts (kz_g (kz_mc mw_260 (kz_mc mw_262 (kz_mc mw_7 (kz_mc mw_41 kz_mn)))) mw_263) rfl rfl rfl (by decide +kernel) ⟨Nat.le_of_ble_eq_true rfl, Nat.le_of_ble_eq_true rfl⟩) (kz_preVr hdy hA hK hro hZ hN [1] (by decide) rfl [(true, 0), (true, 1)] rfl (by decide) [0, 1, 2, 3] rfl (fun _ h => by cases h) (fun _ h => by cases h) rfl (ci := 1) (q0 := 0) rfl rfl rfl) rfl rfl hl.1 rfl (lv_room (Nat.le_of_ble_eq_true rfl)) zd_M_multiply_25 ⟨Nat.le_of_ble_eq_true rfl, Nat.le_of_ble_eq_true rfl⟩) hdy hA [1] [0, 2, 3] rfl rfl (by decide) (by decide) (fun u H locs hw hdy => ?_)
  obtain ⟨f3, rfl⟩ : ∃ z, z = u := ⟨_, rfl⟩
  have hdy : kz_dy (dC, dI) vwCl A s.heap H locs [(qf, .inl (cI, 8, .inl f1)), (qw, .inl (cI, 16, .inl f3)), (ql, .inl (cI, 8, .inl gql)), (o, .inl (cI, 8, .inl go))] := hdy.sub [0, 3, 1, 2] (by decide) rfl
  refine lv_aload_n hx hb zd_M_multiply_28 rfl (lv_at hl 0 rfl) ?_
  refine va_get (D := (dC, dI)) (ci := 1) (v := .ref qw) (C := zR_M) (T := zT_M) (N := 6) hx hb hts (fun w h => kz_c (zi_M w h)) hown hK (hro.at hdy.2.2) 0 rfl rfl 2 (by decide) (hts _ (kz_c mw_96)) (fun _ h9 => h9) rfl zd_M_multiply_29 ?_
  refine lv_bipush (v := (nI (8))) hx hb zd_M_multiply_32 (by decide) ?_
  refine lv_aload_n hx hb zd_M_multiply_34 rfl (lv_at hl 0 rfl) ?_
  refine va_get (D := (dC, dI)) (ci := 1) (v := .ref ql) (C := zR_M) (T := zT_M) (N := 6) hx hb hts (fun w h => kz_c (zi_M w h)) hown hK (hro.at hdy.2.2) 0 rfl rfl 3 (by decide) (hts _ (kz_c mw_97)) (fun _ h9 => h9) rfl zd_M_multiply_35 ?_
  refine lv_iconst (v := (nI (0))) hx hb zd_M_multiply_38 (by decide) ?_
  refine lv_bipush (v := (nI (8))) hx hb zd_M_multiply_39 (by decide) ?_
  refine va_copyi hx hb (hml.trans hl.1.symm) hown (hts _ (kz_c mw_277)) (hts _ (kz_c mw_214)) (hts _ (kz_c mw_213)) (hts _ (kz_c mw_51)) hK hdy.1 hdy.2.1 hdy.2.2 1 2 0 0 rfl rfl rfl rfl rfl (nI_pos (by omega)) (nI_pos (by omega)) (nI_pos (by omega)) (by (repeat rw [nI_clamp (by omega)]) <;> omega) (by (repeat rw [nI_clamp (by omega)]) <;> omega) (fun _ _ => rfl) (Nat.le_of_ble_eq_true rfl) (Nat.le_of_ble_eq_true rfl) zd_M_multiply_41 (fun H locs hP hD hS => ?_)
  obtain ⟨f4, hdy⟩ : ∃ f4 : Nat → Int32, kz_dy (dC, dI) vwCl A s.heap H locs [(qf, .inl (cI, 8, .inl f1)), (qw, .inl (cI, 16, .inl f3)), (ql, .inl (cI, 8, .inl f4)), (o, .inl (cI, 8, .inl go))] := ⟨_, hP, hD, hS⟩
  refine lv_aload_n hx hb zd_M_multiply_44 rfl (lv_at hl 0 rfl) ?_
  refine va_get (D := (dC, dI)) (ci := 1) (v := .ref ql) (C := zR_M) (T := zT_M) (N := 6) hx hb hts (fun w h => kz_c (zi_M w h)) hown hK (hro.at hdy.2.2) 0 rfl rfl 3 (by decide) (hts _ (kz_c mw_97)) (fun _ h9 => h9) rfl zd_M_multiply_45 ?_
  refine lv_aload_n hx hb zd_M_multiply_48 rfl (lv_at hl 0 rfl) ?_
  refine va_get (D := (dC, dI)) (ci := 1) (v := .int sh) (C := zR_M) (T := zT_M) (N := 6) hx hb hts (fun w h => kz_c (zi_M w h)) hown hK (hro.at hdy.2.2) 0 rfl rfl 5 (by decide) (hts _ (kz_c mw_99)) (fun _ h9 => h9) rfl zd_M_multiply_49 ?_
  refine lv_aload_n hx hb zd_M_multiply_52 rfl (lv_at hl 3 rfl) ?_
  refine kz_callv (wk := [(qf, .inl (cI, 8, .inl f1)), (qw, .inl (cI, 16, .inl f3)), (ql, .inl (cI, 8, .inl f4))]) (va_runS (As := [.ref ql, .int sh, .ref o]) (rest := []) ⟨hx, hb, hml, hown, hts⟩ (c_Words_shiftRight l dC dI cI cAA cB cL o ql go f4 (sh) _) (va_cwS 3 hts (kz_g (kz_mc mw_278 (kz_mc mw_279 (kz_mc mw_50 kz_mn))) mw_280) rfl rfl rfl (by decide +kernel) ⟨Nat.le_of_ble_eq_true rfl, Nat.le_of_ble_eq_true rfl⟩) (kz_preS hdy hA hK hro hZ hN [3] (by decide) rfl [(false, 2)] rfl (by decide) [0, 1, 2, 3] rfl (fun _ h => by cases h) (fun _ h => by cases h) rfl) rfl rfl hl.1 rfl (lv_room (Nat.le_of_ble_eq_true rfl)) zd_M_multiply_53 ⟨Nat.le_of_ble_eq_true rfl, Nat.le_of_ble_eq_true rfl⟩) hdy hA [3] [0, 1, 2] rfl rfl (by decide) (by decide) (fun u H locs hw hdy => ?_)
  obtain ⟨f5, rfl⟩ : ∃ z, z = u := ⟨_, rfl⟩
  have hdy : kz_dy (dC, dI) vwCl A s.heap H locs [(qf, .inl (cI, 8, .inl f1)), (qw, .inl (cI, 16, .inl f3)), (ql, .inl (cI, 8, .inl f4)), (o, .inl (cI, 8, .inl f5))] := hdy.sub [0, 1, 2, 3] (by decide) rfl
  exact kz_vret F (f1, f3, f4, f5) hdy (trivial) zd_M_multiply_56

set_option maxHeartbeats 4000000 in
set_option maxRecDepth 100000 in
/-- KeyMeeting$Modulus.rest([I[I)V -/
theorem c_Mod_rest (l : Launch) (dC : Nat → ClassId) (dI : Nat → Nat → Nat) (cI cAA cB cL : ClassId) (qf qw ql o h qs qr a one : Nat) (gqf : Nat → Int32) (gqw : Nat → Int32) (gql : Nat → Int32) (go : Nat → Int32) (sh : Int32) (gqs : Nat → Int32) (ga : Nat → Int32) (gone : Nat → Int32) (sz : Nat) : Met l zy_M_rest zw_M_rest { frames := 4, cells := 0, slots := 0, locals := 102 } (kz_Pc (dC, dI) vwCl [(cI, .int), (cAA, .array .int), (cB, .byte), (cL, .long)] [("KeyMeeting$Modulus", "ONE", "[I", .ref one)] [] [.ref h, .ref a, .ref o] [(qf, .inl (cI, 8, .inl gqf)), (qw, .inl (cI, 16, .inl gqw)), (ql, .inl (cI, 8, .inl gql)), (o, .inl (cI, 8, .inl go))] [(h, .inr (1, [.ref qs, .ref qf, .ref qw, .ref ql, .ref qr, .int sh])), (qs, .inl (cI, 8, .inl gqs)), (a, .inl (cI, 8, .inl ga)), (one, .inl (cI, 8, .inl gone))] sz) (va_Qv (fun _ => True) (kz_B (dC, dI) vwCl (va_A [(qf, .inl (cI, 8, .inl gqf)), (qw, .inl (cI, 16, .inl gqw)), (ql, .inl (cI, 8, .inl gql)), (o, .inl (cI, 8, .inl go))] sz) (fun u : (Nat → Int32) × (Nat → Int32) × (Nat → Int32) × (Nat → Int32) => [(qf, .inl (cI, 8, .inl u.1)), (qw, .inl (cI, 16, .inl u.2.1)), (ql, .inl (cI, 8, .inl u.2.2.1)), (o, .inl (cI, 8, .inl u.2.2.2))])) (va_A [(qf, .inl (cI, 8, .inl gqf)), (qw, .inl (cI, 16, .inl gqw)), (ql, .inl (cI, 8, .inl gql)), (o, .inl (cI, 8, .inl go))] sz)) 0 0 (va_A [(qf, .inl (cI, 8, .inl gqf)), (qw, .inl (cI, 16, .inl gqw)), (ql, .inl (cI, 8, .inl gql)), (o, .inl (cI, 8, .inl go))] sz) := by
  refine kz_met (Qc := fun A => va_Qv (fun _ => True) (kz_B (dC, dI) vwCl A (fun u : (Nat → Int32) × (Nat → Int32) × (Nat → Int32) × (Nat → Int32) => [(qf, .inl (cI, 8, .inl u.1)), (qw, .inl (cI, 16, .inl u.2.1)), (ql, .inl (cI, 8, .inl u.2.2.1)), (o, .inl (cI, 8, .inl u.2.2.2))])) A) (cc := zc_M_rest) (maxL := 3) (ret := none) (by decide) rfl (Nat.le_of_ble_eq_true rfl) ?_
  intro p e s m below meth c A ls F hA hdy hK hro hZ hN hl
  obtain ⟨hx, hb, hml, hr, hown, hlocks, hts, hnm⟩ := id F
  have hl : lv_has ls 3 [(0, .ref h), (1, .ref a), (2, .ref o)] := hl
  refine lv_aload_n hx hb zd_M_rest_0 rfl (lv_at hl 0 rfl) ?_
  refine lv_aload_n hx hb zd_M_rest_1 rfl (lv_at hl 1 rfl) ?_
  refine va_gets hx hb (hZ _ (List.mem_of_getElem? (i := 0) rfl)) hdy.2.2 hown (hts _ (kz_c mw_253)) (fun _ h9 => h9) zd_M_rest_2 ?_
  refine lv_aload_n hx hb zd_M_rest_5 rfl (lv_at hl 2 rfl) ?_
  refine kz_callv (wk := []) (va_runV (As := [.ref a, .ref one, .ref o]) (rest := []) ⟨hx, hb, hml, hown, hts⟩ (c_Mod_multiply l dC dI cI cAA cB cL qf qw ql o h qs qr a one gqf gqw gql go (sh) gqs ga gone _) (cwV 3 hts (kz_g (kz_mc mw_255 (kz_mc mw_257 (kz_mc mw_6 (kz_mc mw_41 kz_mn)))) mw_258) rfl rfl rfl (by decide +kernel) ⟨Nat.le_of_ble_eq_true rfl, Nat.le_of_ble_eq_true rfl⟩) (kz_preVr hdy hA hK hro hZ hN [0, 1, 2, 3] (by decide) rfl [(true, 0), (true, 1), (true, 2), (true, 3)] rfl (by decide) [0, 1, 2, 3] rfl (fun _ h => by cases h) (fun _ h => by cases h) rfl (ci := 1) (q0 := 0) rfl rfl rfl) rfl rfl hl.1 rfl (lv_room (Nat.le_of_ble_eq_true rfl)) zd_M_rest_6 ⟨Nat.le_of_ble_eq_true rfl, Nat.le_of_ble_eq_true rfl⟩) hdy hA [0, 1, 2, 3] [] rfl rfl (by decide) (by decide) (fun u H locs hw hdy => ?_)
  obtain ⟨f1, f2, f3, f4⟩ := u
  have hdy : kz_dy (dC, dI) vwCl A s.heap H locs [(qf, .inl (cI, 8, .inl f1)), (qw, .inl (cI, 16, .inl f2)), (ql, .inl (cI, 8, .inl f3)), (o, .inl (cI, 8, .inl f4))] := hdy.sub [0, 1, 2, 3] (by decide) rfl
  exact kz_vret F (f1, f2, f3, f4) hdy (trivial) zd_M_rest_9

set_option maxHeartbeats 4000000 in
set_option maxRecDepth 100000 in
/-- KeyMeeting$Modulus.power([I[I[I)V -/
theorem c_Mod_power (l : Launch) (dC : Nat → ClassId) (dI : Nat → Nat → Nat) (cI cAA cB cL : ClassId) (qf qw ql qr o h qs a x one : Nat) (gqf : Nat → Int32) (gqw : Nat → Int32) (gql : Nat → Int32) (gqr : Nat → Int32) (go : Nat → Int32) (sh : Int32) (gqs : Nat → Int32) (ga : Nat → Int32) (gx : Nat → Int32) (gone : Nat → Int32) (sz : Nat) : Met l zy_M_power zw_M_power { frames := 4, cells := 0, slots := 0, locals := 102 } (kz_Pc (dC, dI) vwCl [(cI, .int), (cAA, .array .int), (cB, .byte), (cL, .long)] [("KeyMeeting$Modulus", "ONE", "[I", .ref one)] [] [.ref h, .ref a, .ref x, .ref o] [(qf, .inl (cI, 8, .inl gqf)), (qw, .inl (cI, 16, .inl gqw)), (ql, .inl (cI, 8, .inl gql)), (qr, .inl (cI, 8, .inl gqr)), (o, .inl (cI, 8, .inl go))] [(h, .inr (1, [.ref qs, .ref qf, .ref qw, .ref ql, .ref qr, .int sh])), (qs, .inl (cI, 8, .inl gqs)), (a, .inl (cI, 8, .inl ga)), (x, .inl (cI, 8, .inl gx)), (one, .inl (cI, 8, .inl gone))] sz) (va_Qv (fun _ => True) (kz_B (dC, dI) vwCl (va_A [(qf, .inl (cI, 8, .inl gqf)), (qw, .inl (cI, 16, .inl gqw)), (ql, .inl (cI, 8, .inl gql)), (qr, .inl (cI, 8, .inl gqr)), (o, .inl (cI, 8, .inl go))] sz) (fun u : (Nat → Int32) × (Nat → Int32) × (Nat → Int32) × (Nat → Int32) × (Nat → Int32) => [(qf, .inl (cI, 8, .inl u.1)), (qw, .inl (cI, 16, .inl u.2.1)), (ql, .inl (cI, 8, .inl u.2.2.1)), (qr, .inl (cI, 8, .inl u.2.2.2.1)), (o, .inl (cI, 8, .inl u.2.2.2.2))])) (va_A [(qf, .inl (cI, 8, .inl gqf)), (qw, .inl (cI, 16, .inl gqw)), (ql, .inl (cI, 8, .inl gql)), (qr, .inl (cI, 8, .inl gqr)), (o, .inl (cI, 8, .inl go))] sz)) 0 0 (va_A [(qf, .inl (cI, 8, .inl gqf)), (qw, .inl (cI, 16, .inl gqw)), (ql, .inl (cI, 8, .inl gql)), (qr, .inl (cI, 8, .inl gqr)), (o, .inl (cI, 8, .inl go))] sz) := by
  refine kz_met (Qc := fun A => va_Qv (fun _ => True) (kz_B (dC, dI) vwCl A (fun u : (Nat → Int32) × (Nat → Int32) × (Nat → Int32) × (Nat → Int32) × (Nat → Int32) => [(qf, .inl (cI, 8, .inl u.1)), (qw, .inl (cI, 16, .inl u.2.1)), (ql, .inl (cI, 8, .inl u.2.2.1)), (qr, .inl (cI, 8, .inl u.2.2.2.1)), (o, .inl (cI, 8, .inl u.2.2.2.2))])) A) (cc := zc_M_power) (maxL := 5) (ret := none) (by decide) rfl (Nat.le_of_ble_eq_true rfl) ?_
  intro p e s m below meth c A ls F hA hdy hK hro hZ hN hl
  obtain ⟨hx, hb, hml, hr, hown, hlocks, hts, hnm⟩ := id F
  have hl : lv_has ls 5 [(0, .ref h), (1, .ref a), (2, .ref x), (3, .ref o)] := hl
  refine lv_aload_n hx hb zd_M_power_0 rfl (lv_at hl 0 rfl) ?_
  refine va_gets hx hb (hZ _ (List.mem_of_getElem? (i := 0) rfl)) hdy.2.2 hown (hts _ (kz_c mw_253)) (fun _ h9 => h9) zd_M_power_1 ?_
  refine va_gets hx hb (hZ _ (List.mem_of_getElem? (i := 0) rfl)) hdy.2.2 hown (hts _ (kz_c mw_253)) (fun _ h9 => h9) zd_M_power_4 ?_
  refine lv_aload_n hx hb zd_M_power_7 rfl (lv_at hl 0 rfl) ?_
  refine va_get (D := (dC, dI)) (ci := 1) (v := .ref qr) (C := zR_M) (T := zT_M) (N := 6) hx hb hts (fun w h => kz_c (zi_M w h)) hown hK (hro.at hdy.2.2) 0 rfl rfl 4 (by decide) (hts _ (kz_c mw_98)) (fun _ h9 => h9) rfl zd_M_power_8 ?_
  refine kz_callv (wk := [(o, .inl (cI, 8, .inl go))]) (va_runV (As := [.ref one, .ref one, .ref qr]) (rest := []) ⟨hx, hb, hml, hown, hts⟩ (c_Mod_multiply l dC dI cI cAA cB cL qf qw ql qr h qs qr one one gqf gqw gql gqr (sh) gqs gone gone _) (cwV 3 hts (kz_g (kz_mc mw_255 (kz_mc mw_257 (kz_mc mw_6 (kz_mc mw_41 kz_mn)))) mw_258) rfl rfl rfl (by decide +kernel) ⟨Nat.le_of_ble_eq_true rfl, Nat.le_of_ble_eq_true rfl⟩) (kz_preVr hdy hA hK hro hZ hN [0, 1, 2, 3] (by decide) rfl [(true, 0), (true, 1), (true, 4), (true, 4)] rfl (by decide) [0, 1, 2, 3] rfl (fun _ h => by cases h) (fun _ h => by cases h) rfl (ci := 1) (q0 := 0) rfl rfl rfl) rfl rfl hl.1 rfl (lv_room (Nat.le_of_ble_eq_true rfl)) zd_M_power_11 ⟨Nat.le_of_ble_eq_true rfl, Nat.le_of_ble_eq_true rfl⟩) hdy hA [0, 1, 2, 3] [4] rfl rfl (by decide) (by decide) (fun u H locs hw hdy => ?_)
  obtain ⟨f1, f2, f3, f4⟩ := u
  have hdy : kz_dy (dC, dI) vwCl A s.heap H locs [(qf, .inl (cI, 8, .inl f1)), (qw, .inl (cI, 16, .inl f2)), (ql, .inl (cI, 8, .inl f3)), (qr, .inl (cI, 8, .inl f4)), (o, .inl (cI, 8, .inl go))] := hdy.sub [1, 2, 3, 4, 0] (by decide) rfl
  refine lv_aload_n hx hb zd_M_power_14 rfl (lv_at hl 2 rfl) ?_
  refine kz_calli (wk := [(qf, .inl (cI, 8, .inl f1)), (qw, .inl (cI, 16, .inl f2)), (ql, .inl (cI, 8, .inl f3)), (qr, .inl (cI, 8, .inl f4)), (o, .inl (cI, 8, .inl go))]) (va_runS (As := [.ref x]) (rest := []) ⟨hx, hb, hml, hown, hts⟩ (c_Words_leadingZeros l dC dI cI cAA cB cL x gx _) (va_cwS 1 hts (kz_g (kz_mc mw_237 (kz_mc mw_238 (kz_mc mw_50 kz_mn))) mw_239) rfl rfl rfl (by decide +kernel) ⟨Nat.le_of_ble_eq_true rfl, Nat.le_of_ble_eq_true rfl⟩) (kz_preS hdy hA hK hro hZ hN [] (by decide) rfl [(true, 3)] rfl (by decide) [0, 1, 2, 3] rfl (fun _ h => by cases h) (fun _ h => by cases h) rfl) rfl rfl hl.1 rfl (lv_room (Nat.le_of_ble_eq_true rfl)) zd_M_power_15 ⟨Nat.le_of_ble_eq_true rfl, Nat.le_of_ble_eq_true rfl⟩) hdy hA [] [0, 1, 2, 3, 4] rfl rfl (by decide) (by decide) (fun r u H locs hw hdy => ?_)
  try dsimp only at hw
  obtain ⟨⟨b5, hb5, rfl⟩, -⟩ := hw
  have hdy : kz_dy (dC, dI) vwCl A s.heap H locs [(qf, .inl (cI, 8, .inl f1)), (qw, .inl (cI, 16, .inl f2)), (ql, .inl (cI, 8, .inl f3)), (qr, .inl (cI, 8, .inl f4)), (o, .inl (cI, 8, .inl go))] := hdy.sub [0, 1, 2, 3, 4] (by decide) rfl
  refine lv_istore (lv' := [(4, .int (nI (b5))), (0, .ref h), (1, .ref a), (2, .ref x), (3, .ref o)]) hx hb zd_M_power_18 hl (by decide) rfl (fun ls hl => ?_)
  have lp20 : ∀ (n20 k20 : Nat) (f6 : Nat → Int32) (f7 : Nat → Int32) (f8 : Nat → Int32) (f9 : Nat → Int32) (f10 : Nat → Int32) (H : Heap) (locs : List Loc) (ls : Array Slot), k20 ≤ 256 → 256 - k20 < n20 → kz_dy (dC, dI) vwCl A s.heap H locs [(qf, .inl (cI, 8, .inl f6)), (qw, .inl (cI, 16, .inl f7)), (ql, .inl (cI, 8, .inl f8)), (qr, .inl (cI, 8, .inl f9)), (o, .inl (cI, 8, .inl f10))] → lv_has ls 5 [(4, .int (nI (k20))), (0, .ref h), (1, .ref a), (2, .ref x), (3, .ref o)] → W p l e { frames := 4, cells := 0, slots := 0, locals := 102 } s m ([.ref h, .ref a, .ref x, .ref o] : List Value).toArray below meth c H locs 0 0 (MQ below (va_Qv (fun _ => True) (kz_B (dC, dI) vwCl A (fun u : (Nat → Int32) × (Nat → Int32) × (Nat → Int32) × (Nat → Int32) × (Nat → Int32) => [(qf, .inl (cI, 8, .inl u.1)), (qw, .inl (cI, 16, .inl u.2.1)), (ql, .inl (cI, 8, .inl u.2.2.1)), (qr, .inl (cI, 8, .inl u.2.2.2.1)), (o, .inl (cI, 8, .inl u.2.2.2.2))])) A) ([.ref h, .ref a, .ref x, .ref o] : List Value).toArray s 0 0 A) (F0 m 20 ls []) := by
    intro n20
    induction n20 with
    | zero => intro k20; intros; omega
    | succ n20 ih20 =>
      intro k20 f6 f7 f8 f9 f10 H locs ls hi20 hn20 hdy hl
      refine lv_iload hx hb zd_M_power_20 (lv_at hl 0 rfl) ?_
      refine lv_sipush (v := (nI (256))) hx hb zd_M_power_22 (by decide) ?_
      refine lv_icmp_ge (tgt := 72) hx hb zd_M_power_25 (by decide) (fun hc25 => ?_) (fun hc25 => ?_)
      · have hc25 : 256 ≤ k20 := (nI_leI (by omega) (by omega)).mp hc25
        refine lv_aload_n hx hb zd_M_power_72 rfl (lv_at hl 1 rfl) ?_
        refine va_get (D := (dC, dI)) (ci := 1) (v := .ref qr) (C := zR_M) (T := zT_M) (N := 6) hx hb hts (fun w h => kz_c (zi_M w h)) hown hK (hro.at hdy.2.2) 0 rfl rfl 4 (by decide) (hts _ (kz_c mw_98)) (fun _ h9 => h9) rfl zd_M_power_73 ?_
        refine lv_aload_n hx hb zd_M_power_76 rfl (lv_at hl 4 rfl) ?_
        refine kz_callv (wk := [(qf, .inl (cI, 8, .inl f6)), (qw, .inl (cI, 16, .inl f7)), (ql, .inl (cI, 8, .inl f8)), (qr, .inl (cI, 8, .inl f9))]) (va_runS (As := [.ref qr, .ref o]) (rest := []) ⟨hx, hb, hml, hown, hts⟩ (c_Words_copy l dC dI cI cAA cB cL o qr f10 f9 _) (va_cwS 2 hts (kz_g (kz_mc mw_282 (kz_mc mw_283 (kz_mc mw_50 kz_mn))) mw_284) rfl rfl rfl (by decide +kernel) ⟨Nat.le_of_ble_eq_true rfl, Nat.le_of_ble_eq_true rfl⟩) (kz_preS hdy hA hK hro hZ hN [4] (by decide) rfl [(false, 3)] rfl (by decide) [0, 1, 2, 3] rfl (fun _ h => by cases h) (fun _ h => by cases h) rfl) rfl rfl hl.1 rfl (lv_room (Nat.le_of_ble_eq_true rfl)) zd_M_power_77 ⟨Nat.le_of_ble_eq_true rfl, Nat.le_of_ble_eq_true rfl⟩) hdy hA [4] [0, 1, 2, 3] rfl rfl (by decide) (by decide) (fun u H locs hw hdy => ?_)
        obtain ⟨f11, rfl⟩ : ∃ z, z = u := ⟨_, rfl⟩
        have hdy : kz_dy (dC, dI) vwCl A s.heap H locs [(qf, .inl (cI, 8, .inl f6)), (qw, .inl (cI, 16, .inl f7)), (ql, .inl (cI, 8, .inl f8)), (qr, .inl (cI, 8, .inl f9)), (o, .inl (cI, 8, .inl f11))] := hdy.sub [0, 1, 2, 3, 4] (by decide) rfl
        exact kz_vret F (f6, f7, f8, f9, f11) hdy (trivial) zd_M_power_80
      · have hc25 : ¬ 256 ≤ k20 := fun h9 => hc25 ((nI_leI (by omega) (by omega)).mpr h9)
        refine lv_aload_n hx hb zd_M_power_28 rfl (lv_at hl 1 rfl) ?_
        refine lv_aload_n hx hb zd_M_power_29 rfl (lv_at hl 1 rfl) ?_
        refine va_get (D := (dC, dI)) (ci := 1) (v := .ref qr) (C := zR_M) (T := zT_M) (N := 6) hx hb hts (fun w h => kz_c (zi_M w h)) hown hK (hro.at hdy.2.2) 0 rfl rfl 4 (by decide) (hts _ (kz_c mw_98)) (fun _ h9 => h9) rfl zd_M_power_30 ?_
        refine lv_aload_n hx hb zd_M_power_33 rfl (lv_at hl 1 rfl) ?_
        refine va_get (D := (dC, dI)) (ci := 1) (v := .ref qr) (C := zR_M) (T := zT_M) (N := 6) hx hb hts (fun w h => kz_c (zi_M w h)) hown hK (hro.at hdy.2.2) 0 rfl rfl 4 (by decide) (hts _ (kz_c mw_98)) (fun _ h9 => h9) rfl zd_M_power_34 ?_
        refine lv_aload_n hx hb zd_M_power_37 rfl (lv_at hl 1 rfl) ?_
        refine va_get (D := (dC, dI)) (ci := 1) (v := .ref qr) (C := zR_M) (T := zT_M) (N := 6) hx hb hts (fun w h => kz_c (zi_M w h)) hown hK (hro.at hdy.2.2) 0 rfl rfl 4 (by decide) (hts _ (kz_c mw_98)) (fun _ h9 => h9) rfl zd_M_power_38 ?_
        refine kz_callv (wk := [(o, .inl (cI, 8, .inl f10))]) (va_runV (As := [.ref qr, .ref qr, .ref qr]) (rest := []) ⟨hx, hb, hml, hown, hts⟩ (c_Mod_multiply2 l dC dI cI cAA cB cL qf qw ql qr h qs qr f6 f7 f8 f9 (sh) gqs _) (cwV 3 hts (kz_g (kz_mc mw_255 (kz_mc mw_257 (kz_mc mw_6 (kz_mc mw_41 kz_mn)))) mw_258) rfl rfl rfl (by decide +kernel) ⟨Nat.le_of_ble_eq_true rfl, Nat.le_of_ble_eq_true rfl⟩) (kz_preVr hdy hA hK hro hZ hN [0, 1, 2, 3] (by decide) rfl [(true, 0), (true, 1)] rfl (by decide) [0, 1, 2, 3] rfl (fun _ h => by cases h) (fun _ h => by cases h) rfl (ci := 1) (q0 := 0) rfl rfl rfl) rfl rfl hl.1 rfl (lv_room (Nat.le_of_ble_eq_true rfl)) zd_M_power_41 ⟨Nat.le_of_ble_eq_true rfl, Nat.le_of_ble_eq_true rfl⟩) hdy hA [0, 1, 2, 3] [4] rfl rfl (by decide) (by decide) (fun u H locs hw hdy => ?_)
        obtain ⟨f12, f13, f14, f15⟩ := u
        have hdy : kz_dy (dC, dI) vwCl A s.heap H locs [(qf, .inl (cI, 8, .inl f12)), (qw, .inl (cI, 16, .inl f13)), (ql, .inl (cI, 8, .inl f14)), (qr, .inl (cI, 8, .inl f15)), (o, .inl (cI, 8, .inl f10))] := hdy.sub [1, 2, 3, 4, 0] (by decide) rfl
        refine lv_aload_n hx hb zd_M_power_44 rfl (lv_at hl 3 rfl) ?_
        refine lv_iload hx hb zd_M_power_45 (lv_at hl 0 rfl) ?_
        refine kz_calli (wk := [(qf, .inl (cI, 8, .inl f12)), (qw, .inl (cI, 16, .inl f13)), (ql, .inl (cI, 8, .inl f14)), (qr, .inl (cI, 8, .inl f15)), (o, .inl (cI, 8, .inl f10))]) (va_runS (As := [.ref x, .int (nI (k20))]) (rest := []) ⟨hx, hb, hml, hown, hts⟩ (c_Words_hasBit l dC dI cI cAA cB cL x gx k20 _ (by first | omega | assumption)) (va_cwS 2 hts (kz_g (kz_mc mw_281 (kz_mc mw_241 (kz_mc mw_50 kz_mn))) mw_242) rfl rfl rfl (by decide +kernel) ⟨Nat.le_of_ble_eq_true rfl, Nat.le_of_ble_eq_true rfl⟩) (kz_preS hdy hA hK hro hZ hN [] (by decide) rfl [(true, 3)] rfl (by decide) [0, 1, 2, 3] rfl (fun _ h => by cases h) (fun _ h => by cases h) rfl) rfl rfl hl.1 rfl (lv_room (Nat.le_of_ble_eq_true rfl)) zd_M_power_47 ⟨Nat.le_of_ble_eq_true rfl, Nat.le_of_ble_eq_true rfl⟩) hdy hA [] [0, 1, 2, 3, 4] rfl rfl (by decide) (by decide) (fun r u H locs hw hdy => ?_)
        obtain ⟨r16, rfl⟩ : ∃ z, z = r := ⟨_, rfl⟩
        try dsimp only at hw
        obtain ⟨hzr16, -⟩ := hw
        have hdy : kz_dy (dC, dI) vwCl A s.heap H locs [(qf, .inl (cI, 8, .inl f12)), (qw, .inl (cI, 16, .inl f13)), (ql, .inl (cI, 8, .inl f14)), (qr, .inl (cI, 8, .inl f15)), (o, .inl (cI, 8, .inl f10))] := hdy.sub [0, 1, 2, 3, 4] (by decide) rfl
        refine lv_if_eq (tgt := 66) hx hb zd_M_power_50 (by decide) (fun hc50 => ?_) (fun hc50 => ?_)
        · refine lv_iinc (v := (nI (k20 + 1))) (lv' := [(4, .int (nI (k20 + 1))), (0, .ref h), (1, .ref a), (2, .ref x), (3, .ref o)]) hx hb zd_M_power_66 hl (k := 0) rfl (nI_1 _) (by decide) rfl (fun ls hl => ?_)
          refine lv_goto (tgt := 20) hx hb zd_M_power_69 (by decide) ?_
          exact ih20 (k20 + 1) f12 f13 f14 f15 f10 _ _ _ (by omega) (by omega) hdy (lv_sub hl [0, 1, 2, 3, 4] rfl)
        · refine lv_aload_n hx hb zd_M_power_53 rfl (lv_at hl 1 rfl) ?_
          refine lv_aload_n hx hb zd_M_power_54 rfl (lv_at hl 1 rfl) ?_
          refine va_get (D := (dC, dI)) (ci := 1) (v := .ref qr) (C := zR_M) (T := zT_M) (N := 6) hx hb hts (fun w h => kz_c (zi_M w h)) hown hK (hro.at hdy.2.2) 0 rfl rfl 4 (by decide) (hts _ (kz_c mw_98)) (fun _ h9 => h9) rfl zd_M_power_55 ?_
          refine lv_aload_n hx hb zd_M_power_58 rfl (lv_at hl 2 rfl) ?_
          refine lv_aload_n hx hb zd_M_power_59 rfl (lv_at hl 1 rfl) ?_
          refine va_get (D := (dC, dI)) (ci := 1) (v := .ref qr) (C := zR_M) (T := zT_M) (N := 6) hx hb hts (fun w h => kz_c (zi_M w h)) hown hK (hro.at hdy.2.2) 0 rfl rfl 4 (by decide) (hts _ (kz_c mw_98)) (fun _ h9 => h9) rfl zd_M_power_60 ?_
          refine kz_callv (wk := [(o, .inl (cI, 8, .inl f10))]) (va_runV (As := [.ref qr, .ref a, .ref qr]) (rest := []) ⟨hx, hb, hml, hown, hts⟩ (c_Mod_multiply3 l dC dI cI cAA cB cL qf qw ql qr h qs qr a f12 f13 f14 f15 (sh) gqs ga _) (cwV 3 hts (kz_g (kz_mc mw_255 (kz_mc mw_257 (kz_mc mw_6 (kz_mc mw_41 kz_mn)))) mw_258) rfl rfl rfl (by decide +kernel) ⟨Nat.le_of_ble_eq_true rfl, Nat.le_of_ble_eq_true rfl⟩) (kz_preVr hdy hA hK hro hZ hN [0, 1, 2, 3] (by decide) rfl [(true, 0), (true, 1), (true, 2)] rfl (by decide) [0, 1, 2, 3] rfl (fun _ h => by cases h) (fun _ h => by cases h) rfl (ci := 1) (q0 := 0) rfl rfl rfl) rfl rfl hl.1 rfl (lv_room (Nat.le_of_ble_eq_true rfl)) zd_M_power_63 ⟨Nat.le_of_ble_eq_true rfl, Nat.le_of_ble_eq_true rfl⟩) hdy hA [0, 1, 2, 3] [4] rfl rfl (by decide) (by decide) (fun u H locs hw hdy => ?_)
          obtain ⟨f17, f18, f19, f20⟩ := u
          have hdy : kz_dy (dC, dI) vwCl A s.heap H locs [(qf, .inl (cI, 8, .inl f17)), (qw, .inl (cI, 16, .inl f18)), (ql, .inl (cI, 8, .inl f19)), (qr, .inl (cI, 8, .inl f20)), (o, .inl (cI, 8, .inl f10))] := hdy.sub [1, 2, 3, 4, 0] (by decide) rfl
          refine lv_iinc (v := (nI (k20 + 1))) (lv' := [(4, .int (nI (k20 + 1))), (0, .ref h), (1, .ref a), (2, .ref x), (3, .ref o)]) hx hb zd_M_power_66 hl (k := 0) rfl (nI_1 _) (by decide) rfl (fun ls hl => ?_)
          refine lv_goto (tgt := 20) hx hb zd_M_power_69 (by decide) ?_
          exact ih20 (k20 + 1) f17 f18 f19 f20 f10 _ _ _ (by omega) (by omega) hdy (lv_sub hl [0, 1, 2, 3, 4] rfl)
  exact lp20 (256 - b5 + 1) b5 f1 f2 f3 f4 go _ _ _ (by omega) (by omega) hdy (lv_sub hl [0, 1, 2, 3, 4] rfl)
end
section
set_option maxHeartbeats 4000000 in
set_option maxRecDepth 100000 in
/-- KeyMeeting$Host.takeLowHalf([I[I)V -/
theorem c_Host_takeLowHalf (l : Launch) (dC : Nat → ClassId) (dI : Nat → Nat → Nat) (cI cAA cB cL : ClassId) (o a : Nat) (go : Nat → Int32) (ga : Nat → Int32) (sz : Nat) : Met l zy_H_takeLowHalf zw_H_takeLowHalf { frames := 0, cells := 0, slots := 0, locals := 0 } (kz_Pc (dC, dI) vwCl [(cI, .int), (cAA, .array .int), (cB, .byte), (cL, .long)] [] [] [.ref a, .ref o] [(o, .inl (cI, 8, .inl go))] [(a, .inl (cI, 8, .inl ga))] sz) (va_Qv (fun _ => True) (kz_B (dC, dI) vwCl (va_A [(o, .inl (cI, 8, .inl go))] sz) (fun u : (Nat → Int32) => [(o, .inl (cI, 8, .inl u))])) (va_A [(o, .inl (cI, 8, .inl go))] sz)) 0 0 (va_A [(o, .inl (cI, 8, .inl go))] sz) := by
  refine kz_met (Qc := fun A => va_Qv (fun _ => True) (kz_B (dC, dI) vwCl A (fun u : (Nat → Int32) => [(o, .inl (cI, 8, .inl u))])) A) (cc := zc_H_takeLowHalf) (maxL := 3) (ret := none) (by decide) rfl (Nat.le_of_ble_eq_true rfl) ?_
  intro p e s m below meth c A ls F hA hdy hK hro hZ hN hl
  obtain ⟨hx, hb, hml, hr, hown, hlocks, hts, hnm⟩ := id F
  have hl : lv_has ls 3 [(0, .ref a), (1, .ref o)] := hl
  refine lv_iconst (v := (nI (4))) hx hb zd_H_takeLowHalf_0 (by decide) ?_
  refine lv_istore_n (lv' := [(2, .int (nI (4))), (0, .ref a), (1, .ref o)]) hx hb zd_H_takeLowHalf_1 rfl hl (by decide) rfl (fun ls hl => ?_)
  have lp2 : ∀ (n2 k2 : Nat) (f1 : Nat → Int32) (H : Heap) (locs : List Loc) (ls : Array Slot), k2 ≤ 8 → 8 - k2 < n2 → kz_dy (dC, dI) vwCl A s.heap H locs [(o, .inl (cI, 8, .inl f1))] → lv_has ls 3 [(2, .int (nI (k2))), (0, .ref a), (1, .ref o)] → W p l e { frames := 0, cells := 0, slots := 0, locals := 0 } s m ([.ref a, .ref o] : List Value).toArray below meth c H locs 0 0 (MQ below (va_Qv (fun _ => True) (kz_B (dC, dI) vwCl A (fun u : (Nat → Int32) => [(o, .inl (cI, 8, .inl u))])) A) ([.ref a, .ref o] : List Value).toArray s 0 0 A) (F0 m 2 ls []) := by
    intro n2
    induction n2 with
    | zero => intro k2; intros; omega
    | succ n2 ih2 =>
      intro k2 f1 H locs ls hi2 hn2 hdy hl
      refine lv_iload_n hx hb zd_H_takeLowHalf_2 rfl (lv_at hl 0 rfl) ?_
      refine lv_bipush (v := (nI (8))) hx hb zd_H_takeLowHalf_3 (by decide) ?_
      refine lv_icmp_ge (tgt := 20) hx hb zd_H_takeLowHalf_5 (by decide) (fun hc5 => ?_) (fun hc5 => ?_)
      · have hc5 : 8 ≤ k2 := (nI_leI (by omega) (by omega)).mp hc5
        exact kz_vret F (f1) hdy (trivial) zd_H_takeLowHalf_20
      · have hc5 : ¬ 8 ≤ k2 := fun h9 => hc5 ((nI_leI (by omega) (by omega)).mpr h9)
        refine lv_aload_n hx hb zd_H_takeLowHalf_8 rfl (lv_at hl 2 rfl) ?_
        refine lv_iload_n hx hb zd_H_takeLowHalf_9 rfl (lv_at hl 0 rfl) ?_
        refine lv_aload_n hx hb zd_H_takeLowHalf_10 rfl (lv_at hl 1 rfl) ?_
        refine lv_iload_n hx hb zd_H_takeLowHalf_11 rfl (lv_at hl 0 rfl) ?_
        refine va_iald hx hb hK (hro.at hdy.2.2) 0 0 rfl rfl (vp_in_nI (by omega) (by omega)) zd_H_takeLowHalf_12 ?_
        refine lv_topi (fun x2 _ => ?_)
        refine va_iast hx hb hK hdy.1 hdy.2.1 hdy.2.2 0 0 rfl rfl (vp_in_nI (by omega) (by omega)) zd_H_takeLowHalf_13 (fun H locs hP hD hS => ?_)
        obtain ⟨f3, hdy⟩ : ∃ f3 : Nat → Int32, kz_dy (dC, dI) vwCl A s.heap H locs [(o, .inl (cI, 8, .inl f3))] := ⟨_, hP, hD, hS⟩
        refine lv_iinc (v := (nI (k2 + 1))) (lv' := [(2, .int (nI (k2 + 1))), (0, .ref a), (1, .ref o)]) hx hb zd_H_takeLowHalf_14 hl (k := 0) rfl (nI_1 _) (by decide) rfl (fun ls hl => ?_)
        refine lv_goto (tgt := 2) hx hb zd_H_takeLowHalf_17 (by decide) ?_
        exact ih2 (k2 + 1) f3 _ _ _ (by omega) (by omega) hdy (lv_sub hl [0, 1, 2] rfl)
  exact lp2 (8 - 4 + 1) 4 go _ _ _ (by omega) (by omega) hdy (lv_sub hl [0, 1, 2] rfl)

set_option maxHeartbeats 4000000 in
set_option maxRecDepth 100000 in
/-- KeyMeeting$Host.multiplyBoth([I)V -/
theorem c_Host_multiplyBoth (l : Launch) (dC : Nat → ClassId) (dI : Nat → Nat → Nat) (cI cAA cB cL : ClassId) (hw16 o h pr inv hp hq : Nat) (ghw16 : Nat → Int32) (go : Nat → Int32) (ghp : Nat → Int32) (ghq : Nat → Int32) (sz : Nat) : Met l zy_H_multiplyBoth zw_H_multiplyBoth { frames := 2, cells := 0, slots := 0, locals := 52 } (kz_Pc (dC, dI) vwCl [(cI, .int), (cAA, .array .int), (cB, .byte), (cL, .long)] [] [] [.ref h, .ref o] [(hw16, .inl (cI, 16, .inl ghw16)), (o, .inl (cI, 8, .inl go))] [(h, .inr (2, [.ref pr, .ref inv, .ref hp, .ref hq, .ref hw16])), (hp, .inl (cI, 8, .inl ghp)), (hq, .inl (cI, 8, .inl ghq))] sz) (va_Qv (fun _ => True) (kz_B (dC, dI) vwCl (va_A [(hw16, .inl (cI, 16, .inl ghw16)), (o, .inl (cI, 8, .inl go))] sz) (fun u : (Nat → Int32) × (Nat → Int32) => [(hw16, .inl (cI, 16, .inl u.1)), (o, .inl (cI, 8, .inl u.2))])) (va_A [(hw16, .inl (cI, 16, .inl ghw16)), (o, .inl (cI, 8, .inl go))] sz)) 0 0 (va_A [(hw16, .inl (cI, 16, .inl ghw16)), (o, .inl (cI, 8, .inl go))] sz) := by
  refine kz_met (Qc := fun A => va_Qv (fun _ => True) (kz_B (dC, dI) vwCl A (fun u : (Nat → Int32) × (Nat → Int32) => [(hw16, .inl (cI, 16, .inl u.1)), (o, .inl (cI, 8, .inl u.2))])) A) (cc := zc_H_multiplyBoth) (maxL := 2) (ret := none) (by decide) rfl (Nat.le_of_ble_eq_true rfl) ?_
  intro p e s m below meth c A ls F hA hdy hK hro hZ hN hl
  obtain ⟨hx, hb, hml, hr, hown, hlocks, hts, hnm⟩ := id F
  have hl : lv_has ls 2 [(0, .ref h), (1, .ref o)] := hl
  refine lv_aload_n hx hb zd_H_multiplyBoth_0 rfl (lv_at hl 0 rfl) ?_
  refine va_get (D := (dC, dI)) (ci := 2) (v := .ref hp) (C := zR_H) (T := zT_H) (N := 5) hx hb hts (fun w h => kz_c (zi_H w h)) hown hK (hro.at hdy.2.2) 0 rfl rfl 2 (by decide) (hts _ (kz_c mw_73)) (fun _ h9 => h9) rfl zd_H_multiplyBoth_1 ?_
  refine lv_aload_n hx hb zd_H_multiplyBoth_4 rfl (lv_at hl 0 rfl) ?_
  refine va_get (D := (dC, dI)) (ci := 2) (v := .ref hq) (C := zR_H) (T := zT_H) (N := 5) hx hb hts (fun w h => kz_c (zi_H w h)) hown hK (hro.at hdy.2.2) 0 rfl rfl 3 (by decide) (hts _ (kz_c mw_74)) (fun _ h9 => h9) rfl zd_H_multiplyBoth_5 ?_
  refine lv_aload_n hx hb zd_H_multiplyBoth_8 rfl (lv_at hl 0 rfl) ?_
  refine va_get (D := (dC, dI)) (ci := 2) (v := .ref hw16) (C := zR_H) (T := zT_H) (N := 5) hx hb hts (fun w h => kz_c (zi_H w h)) hown hK (hro.at hdy.2.2) 0 rfl rfl 4 (by decide) (hts _ (kz_c mw_75)) (fun _ h9 => h9) rfl zd_H_multiplyBoth_9 ?_
  refine kz_callv (wk := [(o, .inl (cI, 8, .inl go))]) (va_runS (As := [.ref hp, .ref hq, .ref hw16]) (rest := []) ⟨hx, hb, hml, hown, hts⟩ (c_Words_multiply l dC dI cI cAA cB cL hw16 hp hq ghw16 ghp ghq _) (va_cwS 3 hts (kz_g (kz_mc mw_203 (kz_mc mw_204 (kz_mc mw_50 kz_mn))) mw_205) rfl rfl rfl (by decide +kernel) ⟨Nat.le_of_ble_eq_true rfl, Nat.le_of_ble_eq_true rfl⟩) (kz_preS hdy hA hK hro hZ hN [0] (by decide) rfl [(true, 1), (true, 2)] rfl (by decide) [0, 1, 2, 3] rfl (fun _ h => by cases h) (fun _ h => by cases h) rfl) rfl rfl hl.1 rfl (lv_room (Nat.le_of_ble_eq_true rfl)) zd_H_multiplyBoth_12 ⟨Nat.le_of_ble_eq_true rfl, Nat.le_of_ble_eq_true rfl⟩) hdy hA [0] [1] rfl rfl (by decide) (by decide) (fun u H locs hw hdy => ?_)
  obtain ⟨f1, rfl⟩ : ∃ z, z = u := ⟨_, rfl⟩
  have hdy : kz_dy (dC, dI) vwCl A s.heap H locs [(hw16, .inl (cI, 16, .inl f1)), (o, .inl (cI, 8, .inl go))] := hdy.sub [1, 0] (by decide) rfl
  refine lv_aload_n hx hb zd_H_multiplyBoth_15 rfl (lv_at hl 0 rfl) ?_
  refine va_get (D := (dC, dI)) (ci := 2) (v := .ref hw16) (C := zR_H) (T := zT_H) (N := 5) hx hb hts (fun w h => kz_c (zi_H w h)) hown hK (hro.at hdy.2.2) 0 rfl rfl 4 (by decide) (hts _ (kz_c mw_75)) (fun _ h9 => h9) rfl zd_H_multiplyBoth_16 ?_
  refine lv_bipush (v := (nI (8))) hx hb zd_H_multiplyBoth_19 (by decide) ?_
  refine lv_aload_n hx hb zd_H_multiplyBoth_21 rfl (lv_at hl 1 rfl) ?_
  refine lv_iconst (v := (nI (0))) hx hb zd_H_multiplyBoth_22 (by decide) ?_
  refine lv_bipush (v := (nI (8))) hx hb zd_H_multiplyBoth_23 (by decide) ?_
  refine va_copyi hx hb (hml.trans hl.1.symm) hown (hts _ (kz_c mw_212)) (hts _ (kz_c mw_214)) (hts _ (kz_c mw_213)) (hts _ (kz_c mw_51)) hK hdy.1 hdy.2.1 hdy.2.2 0 1 0 0 rfl rfl rfl rfl rfl (nI_pos (by omega)) (nI_pos (by omega)) (nI_pos (by omega)) (by (repeat rw [nI_clamp (by omega)]) <;> omega) (by (repeat rw [nI_clamp (by omega)]) <;> omega) (fun _ _ => rfl) (Nat.le_of_ble_eq_true rfl) (Nat.le_of_ble_eq_true rfl) zd_H_multiplyBoth_25 (fun H locs hP hD hS => ?_)
  obtain ⟨f2, hdy⟩ : ∃ f2 : Nat → Int32, kz_dy (dC, dI) vwCl A s.heap H locs [(hw16, .inl (cI, 16, .inl f1)), (o, .inl (cI, 8, .inl f2))] := ⟨_, hP, hD, hS⟩
  exact kz_vret F (f1, f2) hdy (trivial) zd_H_multiplyBoth_28

set_option maxHeartbeats 4000000 in
set_option maxRecDepth 100000 in
/-- KeyMeeting$Host.restOfInverse()J -/
theorem c_Host_restOfInverse (l : Launch) (dC : Nat → ClassId) (dI : Nat → Nat → Nat) (cI cAA cB cL : ClassId) (h pr inv hp hq hw16 : Nat) (ginv : Nat → Int32) (sz : Nat) : Met l zy_H_restOfInverse zw_H_restOfInverse { frames := 0, cells := 0, slots := 0, locals := 0 } (kz_Pc (dC, dI) vwCl [(cI, .int), (cAA, .array .int), (cB, .byte), (cL, .long)] [] [] [.ref h] [] [(h, .inr (2, [.ref pr, .ref inv, .ref hp, .ref hq, .ref hw16])), (inv, .inl (cI, 8, .inl ginv))] sz) (va_Ql (fun _ _ => True) (kz_B (dC, dI) vwCl (va_A [] sz) (fun u : Unit => [])) (va_A [] sz)) 0 0 (va_A [] sz) := by
  refine kz_met (Qc := fun A => va_Ql (fun _ _ => True) (kz_B (dC, dI) vwCl A (fun u : Unit => [])) A) (cc := zc_H_restOfInverse) (maxL := 4) (ret := some .long) (by decide) rfl (Nat.le_of_ble_eq_true rfl) ?_
  intro p e s m below meth c A ls F hA hdy hK hro hZ hN hl
  obtain ⟨hx, hb, hml, hr, hown, hlocks, hts, hnm⟩ := id F
  have hl : lv_has ls 4 [(0, .ref h)] := hl
  refine lv_lconst (v := 0) hx hb zd_H_restOfInverse_0 (by decide) ?_
  refine lv_lstore_n (lv' := [(1, .long 0), (0, .ref h)]) hx hb zd_H_restOfInverse_1 rfl hl (by decide) rfl (fun ls hl => ?_)
  refine lv_iconst (v := (nI (0))) hx hb zd_H_restOfInverse_2 (by decide) ?_
  refine lv_istore_n (lv' := [(3, .int (nI (0))), (1, .long 0), (0, .ref h)]) hx hb zd_H_restOfInverse_3 rfl hl (by decide) rfl (fun ls hl => ?_)
  have lp4 : ∀ (n4 k4 : Nat) (y1 : Int64) (H : Heap) (locs : List Loc) (ls : Array Slot), k4 ≤ 8 → 8 - k4 < n4 → kz_dy (dC, dI) vwCl A s.heap H locs [] → lv_has ls 4 [(3, .int (nI (k4))), (1, .long y1), (0, .ref h)] → W p l e { frames := 0, cells := 0, slots := 0, locals := 0 } s m ([.ref h] : List Value).toArray below meth c H locs 0 0 (MQ below (va_Ql (fun _ _ => True) (kz_B (dC, dI) vwCl A (fun u : Unit => [])) A) ([.ref h] : List Value).toArray s 0 0 A) (F0 m 4 ls []) := by
    intro n4
    induction n4 with
    | zero => intro k4; intros; omega
    | succ n4 ih4 =>
      intro k4 y1 H locs ls hi4 hn4 hdy hl
      refine lv_iload_n hx hb zd_H_restOfInverse_4 rfl (lv_at hl 0 rfl) ?_
      refine lv_bipush (v := (nI (8))) hx hb zd_H_restOfInverse_5 (by decide) ?_
      refine lv_icmp_ge (tgt := 37) hx hb zd_H_restOfInverse_7 (by decide) (fun hc7 => ?_) (fun hc7 => ?_)
      · have hc7 : 8 ≤ k4 := (nI_leI (by omega) (by omega)).mp hc7
        refine lv_lload_n hx hb zd_H_restOfInverse_37 rfl (lv_at hl 1 rfl) ?_
        exact kz_lret F () hdy (trivial) zd_H_restOfInverse_38
      · have hc7 : ¬ 8 ≤ k4 := fun h9 => hc7 ((nI_leI (by omega) (by omega)).mpr h9)
        refine lv_lload_n hx hb zd_H_restOfInverse_10 rfl (lv_at hl 1 rfl) ?_
        refine lv_bipush (v := (nI (32))) hx hb zd_H_restOfInverse_11 (by decide) ?_
        refine lv_lshl hx hb zd_H_restOfInverse_13 rfl ?_
        refine lv_topl (fun y2 _ => ?_)
        refine lv_aload_n hx hb zd_H_restOfInverse_14 rfl (lv_at hl 2 rfl) ?_
        refine va_get (D := (dC, dI)) (ci := 2) (v := .ref inv) (C := zR_H) (T := zT_H) (N := 5) hx hb hts (fun w h => kz_c (zi_H w h)) hown hK (hro.at hdy.2.2) 0 rfl rfl 1 (by decide) (hts _ (kz_c mw_71)) (fun _ h9 => h9) rfl zd_H_restOfInverse_15 ?_
        refine lv_iload_n hx hb zd_H_restOfInverse_18 rfl (lv_at hl 0 rfl) ?_
        refine va_iald hx hb hK (hro.at hdy.2.2) 1 0 rfl rfl (vp_in_nI (by omega) (by omega)) zd_H_restOfInverse_19 ?_
        refine lv_topi (fun x3 _ => ?_)
        refine lv_i2l hx hb zd_H_restOfInverse_20 rfl ?_
        refine lv_topl (fun y4 _ => ?_)
        refine lv_ldc2 (v := (4294967295)) hx hb hown (hts _ (kz_c mw_224)) zd_H_restOfInverse_21 ?_
        refine kz_mask hx hb zd_H_restOfInverse_24 (fun y5 hy5 => ?_)
        refine lv_lor hx hb zd_H_restOfInverse_25 ?_
        refine lv_topl (fun y6 _ => ?_)
        refine lv_ldc2 (v := (65537)) hx hb hown (hts _ (kz_c mw_225)) zd_H_restOfInverse_26 ?_
        refine lv_lrem hx hb zd_H_restOfInverse_29 (by decide) ?_
        refine lv_topl (fun y7 _ => ?_)
        refine lv_lstore_n (lv' := [(1, .long y7), (3, .int (nI (k4))), (0, .ref h)]) hx hb zd_H_restOfInverse_30 rfl hl (by decide) rfl (fun ls hl => ?_)
        refine lv_iinc (v := (nI (k4 + 1))) (lv' := [(3, .int (nI (k4 + 1))), (1, .long y7), (0, .ref h)]) hx hb zd_H_restOfInverse_31 hl (k := 1) rfl (nI_1 _) (by decide) rfl (fun ls hl => ?_)
        refine lv_goto (tgt := 4) hx hb zd_H_restOfInverse_34 (by decide) ?_
        exact ih4 (k4 + 1) (y7) _ _ _ (by omega) (by omega) hdy (lv_sub hl [0, 1, 2] rfl)
  exact lp4 (8 - 0 + 1) 0 (0) _ _ _ (by omega) (by omega) hdy (lv_sub hl [0, 1, 2] rfl)

set_option maxHeartbeats 4000000 in
set_option maxRecDepth 100000 in
/-- KeyMeeting$Host.inverseOfSmall(J)J -/
theorem c_Host_inverseOfSmall (l : Launch) (dC : Nat → ClassId) (dI : Nat → Nat → Nat) (cI cAA cB cL : ClassId) (v : Int64) (sz : Nat) : Met l zy_H_inverseOfSmall zw_H_inverseOfSmall { frames := 0, cells := 0, slots := 0, locals := 0 } (kz_Pc (dC, dI) vwCl [(cI, .int), (cAA, .array .int), (cB, .byte), (cL, .long)] [] [] [.long v] [] [] sz) (va_Ql (fun _ _ => True) (kz_B (dC, dI) vwCl (va_A [] sz) (fun u : Unit => [])) (va_A [] sz)) 0 0 (va_A [] sz) := by
  refine kz_met (Qc := fun A => va_Ql (fun _ _ => True) (kz_B (dC, dI) vwCl A (fun u : Unit => [])) A) (cc := zc_H_inverseOfSmall) (maxL := 5) (ret := some .long) (by decide) rfl (Nat.le_of_ble_eq_true rfl) ?_
  intro p e s m below meth c A ls F hA hdy hK hro hZ hN hl
  obtain ⟨hx, hb, hml, hr, hown, hlocks, hts, hnm⟩ := id F
  have hl : lv_has ls 5 [(0, .long v)] := hl
  refine lv_lconst (v := 1) hx hb zd_H_inverseOfSmall_0 (by decide) ?_
  refine lv_lstore_n (lv' := [(2, .long 1), (0, .long v)]) hx hb zd_H_inverseOfSmall_1 rfl hl (by decide) rfl (fun ls hl => ?_)
  refine lv_iconst (v := (nI (0))) hx hb zd_H_inverseOfSmall_2 (by decide) ?_
  refine lv_istore (lv' := [(4, .int (nI (0))), (2, .long 1), (0, .long v)]) hx hb zd_H_inverseOfSmall_3 hl (by decide) rfl (fun ls hl => ?_)
  have lp5 : ∀ (n5 k5 : Nat) (y1 : Int64) (H : Heap) (locs : List Loc) (ls : Array Slot), k5 ≤ 16 → 16 - k5 < n5 → kz_dy (dC, dI) vwCl A s.heap H locs [] → lv_has ls 5 [(4, .int (nI (k5))), (2, .long y1), (0, .long v)] → W p l e { frames := 0, cells := 0, slots := 0, locals := 0 } s m ([.long v] : List Value).toArray below meth c H locs 0 0 (MQ below (va_Ql (fun _ _ => True) (kz_B (dC, dI) vwCl A (fun u : Unit => [])) A) ([.long v] : List Value).toArray s 0 0 A) (F0 m 5 ls []) := by
    intro n5
    induction n5 with
    | zero => intro k5; intros; omega
    | succ n5 ih5 =>
      intro k5 y1 H locs ls hi5 hn5 hdy hl
      refine lv_iload hx hb zd_H_inverseOfSmall_5 (lv_at hl 0 rfl) ?_
      refine lv_bipush (v := (nI (16))) hx hb zd_H_inverseOfSmall_7 (by decide) ?_
      refine lv_icmp_ge (tgt := 32) hx hb zd_H_inverseOfSmall_9 (by decide) (fun hc9 => ?_) (fun hc9 => ?_)
      · have hc9 : 16 ≤ k5 := (nI_leI (by omega) (by omega)).mp hc9
        refine lv_lload_n hx hb zd_H_inverseOfSmall_32 rfl (lv_at hl 1 rfl) ?_
        exact kz_lret F () hdy (trivial) zd_H_inverseOfSmall_33
      · have hc9 : ¬ 16 ≤ k5 := fun h9 => hc9 ((nI_leI (by omega) (by omega)).mpr h9)
        refine lv_lload_n hx hb zd_H_inverseOfSmall_12 rfl (lv_at hl 1 rfl) ?_
        refine lv_lload_n hx hb zd_H_inverseOfSmall_13 rfl (lv_at hl 1 rfl) ?_
        refine lv_lmul hx hb zd_H_inverseOfSmall_14 ?_
        refine lv_topl (fun y2 _ => ?_)
        refine lv_ldc2 (v := (65537)) hx hb hown (hts _ (kz_c mw_225)) zd_H_inverseOfSmall_15 ?_
        refine lv_lrem hx hb zd_H_inverseOfSmall_18 (by decide) ?_
        refine lv_topl (fun y3 _ => ?_)
        refine lv_lload_n hx hb zd_H_inverseOfSmall_19 rfl (lv_at hl 2 rfl) ?_
        refine lv_lmul hx hb zd_H_inverseOfSmall_20 ?_
        refine lv_topl (fun y4 _ => ?_)
        refine lv_ldc2 (v := (65537)) hx hb hown (hts _ (kz_c mw_225)) zd_H_inverseOfSmall_21 ?_
        refine lv_lrem hx hb zd_H_inverseOfSmall_24 (by decide) ?_
        refine lv_topl (fun y5 _ => ?_)
        refine lv_lstore_n (lv' := [(2, .long y5), (4, .int (nI (k5))), (0, .long v)]) hx hb zd_H_inverseOfSmall_25 rfl hl (by decide) rfl (fun ls hl => ?_)
        refine lv_iinc (v := (nI (k5 + 1))) (lv' := [(4, .int (nI (k5 + 1))), (2, .long y5), (0, .long v)]) hx hb zd_H_inverseOfSmall_26 hl (k := 1) rfl (nI_1 _) (by decide) rfl (fun ls hl => ?_)
        refine lv_goto (tgt := 5) hx hb zd_H_inverseOfSmall_29 (by decide) ?_
        exact ih5 (k5 + 1) (y5) _ _ _ (by omega) (by omega) hdy (lv_sub hl [0, 1, 2] rfl)
  exact lp5 (16 - 0 + 1) 0 (1) _ _ _ (by omega) (by omega) hdy (lv_sub hl [0, 1, 2] rfl)

set_option maxHeartbeats 4000000 in
set_option maxRecDepth 100000 in
/-- KeyMeeting$Host.divideInverse(J)V -/
theorem c_Host_divideInverse (l : Launch) (dC : Nat → ClassId) (dI : Nat → Nat → Nat) (cI cAA cB cL : ClassId) (inv h pr hp hq hw16 : Nat) (ginv : Nat → Int32) (v : Int64) (sz : Nat) : Met l zy_H_divideInverse zw_H_divideInverse { frames := 0, cells := 0, slots := 0, locals := 0 } (kz_Pc (dC, dI) vwCl [(cI, .int), (cAA, .array .int), (cB, .byte), (cL, .long)] [] [] [.ref h, .long v] [(inv, .inl (cI, 8, .inl ginv))] [(h, .inr (2, [.ref pr, .ref inv, .ref hp, .ref hq, .ref hw16]))] sz) (va_Qv (fun _ => True) (kz_B (dC, dI) vwCl (va_A [(inv, .inl (cI, 8, .inl ginv))] sz) (fun u : (Nat → Int32) => [(inv, .inl (cI, 8, .inl u))])) (va_A [(inv, .inl (cI, 8, .inl ginv))] sz)) 0 0 (va_A [(inv, .inl (cI, 8, .inl ginv))] sz) := by
  refine kz_met (Qc := fun A => va_Qv (fun _ => True) (kz_B (dC, dI) vwCl A (fun u : (Nat → Int32) => [(inv, .inl (cI, 8, .inl u))])) A) (cc := zc_H_divideInverse) (maxL := 8) (ret := none) (by decide) rfl (Nat.le_of_ble_eq_true rfl) ?_
  intro p e s m below meth c A ls F hA hdy hK hro hZ hN hl
  obtain ⟨hx, hb, hml, hr, hown, hlocks, hts, hnm⟩ := id F
  have hl : lv_has ls 8 [(0, .ref h), (1, .long v)] := hl
  refine lv_lload_n hx hb zd_H_divideInverse_0 rfl (lv_at hl 1 rfl) ?_
  refine lv_lstore_n (lv' := [(3, .long v), (0, .ref h), (1, .long v)]) hx hb zd_H_divideInverse_1 rfl hl (by decide) rfl (fun ls hl => ?_)
  refine lv_iconst (v := (nI (0))) hx hb zd_H_divideInverse_2 (by decide) ?_
  refine lv_istore (lv' := [(5, .int (nI (0))), (3, .long v), (0, .ref h), (1, .long v)]) hx hb zd_H_divideInverse_3 hl (by decide) rfl (fun ls hl => ?_)
  have lp5 : ∀ (n5 k5 : Nat) (y1 : Int64) (f2 : Nat → Int32) (H : Heap) (locs : List Loc) (ls : Array Slot), k5 ≤ 8 → 8 - k5 < n5 → kz_dy (dC, dI) vwCl A s.heap H locs [(inv, .inl (cI, 8, .inl f2))] → lv_has ls 8 [(5, .int (nI (k5))), (3, .long y1), (0, .ref h), (1, .long v)] → W p l e { frames := 0, cells := 0, slots := 0, locals := 0 } s m ([.ref h, .long v] : List Value).toArray below meth c H locs 0 0 (MQ below (va_Qv (fun _ => True) (kz_B (dC, dI) vwCl A (fun u : (Nat → Int32) => [(inv, .inl (cI, 8, .inl u))])) A) ([.ref h, .long v] : List Value).toArray s 0 0 A) (F0 m 5 ls []) := by
    intro n5
    induction n5 with
    | zero => intro k5; intros; omega
    | succ n5 ih5 =>
      intro k5 y1 f2 H locs ls hi5 hn5 hdy hl
      refine lv_iload hx hb zd_H_divideInverse_5 (lv_at hl 0 rfl) ?_
      refine lv_bipush (v := (nI (8))) hx hb zd_H_divideInverse_7 (by decide) ?_
      refine lv_icmp_ge (tgt := 58) hx hb zd_H_divideInverse_9 (by decide) (fun hc9 => ?_) (fun hc9 => ?_)
      · have hc9 : 8 ≤ k5 := (nI_leI (by omega) (by omega)).mp hc9
        exact kz_vret F (f2) hdy (trivial) zd_H_divideInverse_58
      · have hc9 : ¬ 8 ≤ k5 := fun h9 => hc9 ((nI_leI (by omega) (by omega)).mpr h9)
        refine lv_lload_n hx hb zd_H_divideInverse_12 rfl (lv_at hl 1 rfl) ?_
        refine lv_bipush (v := (nI (32))) hx hb zd_H_divideInverse_13 (by decide) ?_
        refine lv_lshl hx hb zd_H_divideInverse_15 rfl ?_
        refine lv_topl (fun y3 _ => ?_)
        refine lv_aload_n hx hb zd_H_divideInverse_16 rfl (lv_at hl 2 rfl) ?_
        refine va_get (D := (dC, dI)) (ci := 2) (v := .ref inv) (C := zR_H) (T := zT_H) (N := 5) hx hb hts (fun w h => kz_c (zi_H w h)) hown hK (hro.at hdy.2.2) 0 rfl rfl 1 (by decide) (hts _ (kz_c mw_71)) (fun _ h9 => h9) rfl zd_H_divideInverse_17 ?_
        refine lv_iload hx hb zd_H_divideInverse_20 (lv_at hl 0 rfl) ?_
        refine va_iald hx hb hK hdy.1 0 0 rfl rfl (vp_in_nI (by omega) (by omega)) zd_H_divideInverse_22 ?_
        refine lv_topi (fun x4 _ => ?_)
        refine lv_i2l hx hb zd_H_divideInverse_23 rfl ?_
        refine lv_topl (fun y5 _ => ?_)
        refine lv_ldc2 (v := (4294967295)) hx hb hown (hts _ (kz_c mw_224)) zd_H_divideInverse_24 ?_
        refine kz_mask hx hb zd_H_divideInverse_27 (fun y6 hy6 => ?_)
        refine lv_lor hx hb zd_H_divideInverse_28 ?_
        refine lv_topl (fun y7 _ => ?_)
        refine lv_lstore (lv' := [(6, .long y7), (5, .int (nI (k5))), (3, .long y1), (0, .ref h), (1, .long v)]) hx hb zd_H_divideInverse_29 hl (by decide) rfl (fun ls hl => ?_)
        refine lv_aload_n hx hb zd_H_divideInverse_31 rfl (lv_at hl 3 rfl) ?_
        refine va_get (D := (dC, dI)) (ci := 2) (v := .ref inv) (C := zR_H) (T := zT_H) (N := 5) hx hb hts (fun w h => kz_c (zi_H w h)) hown hK (hro.at hdy.2.2) 0 rfl rfl 1 (by decide) (hts _ (kz_c mw_71)) (fun _ h9 => h9) rfl zd_H_divideInverse_32 ?_
        refine lv_iload hx hb zd_H_divideInverse_35 (lv_at hl 1 rfl) ?_
        refine lv_lload hx hb zd_H_divideInverse_37 (lv_at hl 0 rfl) ?_
        refine lv_ldc2 (v := (65537)) hx hb hown (hts _ (kz_c mw_225)) zd_H_divideInverse_39 ?_
        refine lv_ldiv hx hb zd_H_divideInverse_42 (by decide) ?_
        refine lv_topl (fun y8 _ => ?_)
        refine lv_l2i hx hb zd_H_divideInverse_43 rfl ?_
        refine lv_topi (fun x9 _ => ?_)
        refine va_iast hx hb hK hdy.1 hdy.2.1 hdy.2.2 0 0 rfl rfl (vp_in_nI (by omega) (by omega)) zd_H_divideInverse_44 (fun H locs hP hD hS => ?_)
        obtain ⟨f10, hdy⟩ : ∃ f10 : Nat → Int32, kz_dy (dC, dI) vwCl A s.heap H locs [(inv, .inl (cI, 8, .inl f10))] := ⟨_, hP, hD, hS⟩
        refine lv_lload hx hb zd_H_divideInverse_45 (lv_at hl 0 rfl) ?_
        refine lv_ldc2 (v := (65537)) hx hb hown (hts _ (kz_c mw_225)) zd_H_divideInverse_47 ?_
        refine lv_lrem hx hb zd_H_divideInverse_50 (by decide) ?_
        refine lv_topl (fun y11 _ => ?_)
        refine lv_lstore_n (lv' := [(3, .long y11), (6, .long y7), (5, .int (nI (k5))), (0, .ref h), (1, .long v)]) hx hb zd_H_divideInverse_51 rfl hl (by decide) rfl (fun ls hl => ?_)
        refine lv_iinc (v := (nI (k5 + 1))) (lv' := [(5, .int (nI (k5 + 1))), (3, .long y11), (6, .long y7), (0, .ref h), (1, .long v)]) hx hb zd_H_divideInverse_52 hl (k := 2) rfl (nI_1 _) (by decide) rfl (fun ls hl => ?_)
        refine lv_goto (tgt := 5) hx hb zd_H_divideInverse_55 (by decide) ?_
        exact ih5 (k5 + 1) (y11) f10 _ _ _ (by omega) (by omega) hdy (lv_sub hl [0, 1, 3, 4] rfl)
  exact lp5 (8 - 0 + 1) 0 (v) ginv _ _ _ (by omega) (by omega) hdy (lv_sub hl [0, 1, 2, 3] rfl)

set_option maxHeartbeats 4000000 in
set_option maxRecDepth 100000 in
/-- KeyMeeting$Host.invert()Z -/
theorem c_Host_invert (l : Launch) (dC : Nat → ClassId) (dI : Nat → Nat → Nat) (cI cAA cB cL : ClassId) (inv h pr hp hq hw16 : Nat) (ginv : Nat → Int32) (sz : Nat) : Met l zy_H_invert zw_H_invert { frames := 1, cells := 0, slots := 0, locals := 27 } (kz_Pc (dC, dI) vwCl [(cI, .int), (cAA, .array .int), (cB, .byte), (cL, .long)] [] [] [.ref h] [(inv, .inl (cI, 8, .inl ginv))] [(h, .inr (2, [.ref pr, .ref inv, .ref hp, .ref hq, .ref hw16]))] sz) (va_Qi (fun (r : Int32) (u : (Nat → Int32)) => (r = 0 ∨ r = 1) ∧ True) (kz_B (dC, dI) vwCl (va_A [(inv, .inl (cI, 8, .inl ginv))] sz) (fun u : (Nat → Int32) => [(inv, .inl (cI, 8, .inl u))])) (va_A [(inv, .inl (cI, 8, .inl ginv))] sz)) 0 0 (va_A [(inv, .inl (cI, 8, .inl ginv))] sz) := by
  refine kz_met (Qc := fun A => va_Qi (fun (r : Int32) (u : (Nat → Int32)) => (r = 0 ∨ r = 1) ∧ True) (kz_B (dC, dI) vwCl A (fun u : (Nat → Int32) => [(inv, .inl (cI, 8, .inl u))])) A) (cc := zc_H_invert) (maxL := 10) (ret := some .boolean) (by decide) rfl (Nat.le_of_ble_eq_true rfl) ?_
  intro p e s m below meth c A ls F hA hdy hK hro hZ hN hl
  obtain ⟨hx, hb, hml, hr, hown, hlocks, hts, hnm⟩ := id F
  have hl : lv_has ls 10 [(0, .ref h)] := hl
  refine lv_aload_n hx hb zd_H_invert_0 rfl (lv_at hl 0 rfl) ?_
  refine kz_calll (wk := [(inv, .inl (cI, 8, .inl ginv))]) (va_runV (As := []) (rest := []) ⟨hx, hb, hml, hown, hts⟩ (c_Host_restOfInverse l dC dI cI cAA cB cL h pr inv hp hq hw16 ginv _) (cwV 0 hts (kz_g (kz_mc mw_220 (kz_mc mw_222 (kz_mc mw_4 (kz_mc mw_40 kz_mn)))) mw_223) rfl rfl rfl (by decide +kernel) ⟨Nat.le_of_ble_eq_true rfl, Nat.le_of_ble_eq_true rfl⟩) (kz_preVr hdy hA hK hro hZ hN [] (by decide) rfl [(true, 0), (false, 0)] rfl (by decide) [0, 1, 2, 3] rfl (fun _ h => by cases h) (fun _ h => by cases h) rfl (ci := 2) (q0 := 0) rfl rfl rfl) rfl rfl hl.1 rfl (lv_room (Nat.le_of_ble_eq_true rfl)) zd_H_invert_1 ⟨Nat.le_of_ble_eq_true rfl, Nat.le_of_ble_eq_true rfl⟩) hdy hA [] [0] rfl rfl (by decide) (by decide) (fun r u H locs hw hdy => ?_)
  obtain ⟨y1, rfl⟩ : ∃ z, z = r := ⟨_, rfl⟩
  have hdy : kz_dy (dC, dI) vwCl A s.heap H locs [(inv, .inl (cI, 8, .inl ginv))] := hdy.sub [0] (by decide) rfl
  refine lv_lstore_n (lv' := [(1, .long y1), (0, .ref h)]) hx hb zd_H_invert_4 rfl hl (by decide) rfl (fun ls hl => ?_)
  refine lv_lload_n hx hb zd_H_invert_5 rfl (lv_at hl 0 rfl) ?_
  refine lv_lconst (v := 0) hx hb zd_H_invert_6 (by decide) ?_
  refine kz_lne (tgt := 13) hx hb zd_H_invert_7 zd_H_invert_8 (by decide) (fun hc8 => ?_) (fun hc8 => ?_)
  · refine lv_ldc2 (v := (65537)) hx hb hown (hts _ (kz_c mw_225)) zd_H_invert_13 ?_
    refine lv_lload_n hx hb zd_H_invert_16 rfl (lv_at hl 0 rfl) ?_
    refine kz_calll (wk := [(inv, .inl (cI, 8, .inl ginv))]) (va_runS (As := [.long y1]) (rest := [.long (65537)]) ⟨hx, hb, hml, hown, hts⟩ (c_Host_inverseOfSmall l dC dI cI cAA cB cL (y1) _) (va_cwS 1 hts (kz_g (kz_mc mw_226 (kz_mc mw_227 (kz_mc mw_40 kz_mn))) mw_228) rfl rfl rfl (by decide +kernel) ⟨Nat.le_of_ble_eq_true rfl, Nat.le_of_ble_eq_true rfl⟩) (kz_preS hdy hA hK hro hZ hN [] (by decide) rfl [] rfl (by decide) [0, 1, 2, 3] rfl (fun _ h => by cases h) (fun _ h => by cases h) rfl) rfl rfl hl.1 rfl (lv_room (Nat.le_of_ble_eq_true rfl)) zd_H_invert_17 ⟨Nat.le_of_ble_eq_true rfl, Nat.le_of_ble_eq_true rfl⟩) hdy hA [] [0] rfl rfl (by decide) (by decide) (fun r u H locs hw hdy => ?_)
    obtain ⟨y2, rfl⟩ : ∃ z, z = r := ⟨_, rfl⟩
    have hdy : kz_dy (dC, dI) vwCl A s.heap H locs [(inv, .inl (cI, 8, .inl ginv))] := hdy.sub [0] (by decide) rfl
    refine lv_lsub hx hb zd_H_invert_20 ?_
    refine lv_topl (fun y3 _ => ?_)
    refine lv_lstore_n (lv' := [(3, .long y3), (1, .long y1), (0, .ref h)]) hx hb zd_H_invert_21 rfl hl (by decide) rfl (fun ls hl => ?_)
    refine lv_lconst (v := 1) hx hb zd_H_invert_22 (by decide) ?_
    refine lv_lstore (lv' := [(5, .long 1), (3, .long y3), (1, .long y1), (0, .ref h)]) hx hb zd_H_invert_23 hl (by decide) rfl (fun ls hl => ?_)
    refine lv_bipush (v := (nI (7))) hx hb zd_H_invert_25 (by decide) ?_
    refine lv_istore (lv' := [(7, .int (nI (7))), (5, .long 1), (3, .long y3), (1, .long y1), (0, .ref h)]) hx hb zd_H_invert_27 hl (by decide) rfl (fun ls hl => ?_)
    have lp29 : ∀ (k29 : Nat) (y4 : Int64) (f5 : Nat → Int32) (H : Heap) (locs : List Loc) (ls : Array Slot), k29 ≤ 8 → kz_dy (dC, dI) vwCl A s.heap H locs [(inv, .inl (cI, 8, .inl f5))] → lv_has ls 10 [(7, .int (nI k29 - 1)), (5, .long y4), (3, .long y3), (1, .long y1), (0, .ref h)] → W p l e { frames := 1, cells := 0, slots := 0, locals := 27 } s m ([.ref h] : List Value).toArray below meth c H locs 0 0 (MQ below (va_Qi (fun (r : Int32) (u : (Nat → Int32)) => (r = 0 ∨ r = 1) ∧ True) (kz_B (dC, dI) vwCl A (fun u : (Nat → Int32) => [(inv, .inl (cI, 8, .inl u))])) A) ([.ref h] : List Value).toArray s 0 0 A) (F0 m 29 ls []) := by
      intro k29
      induction k29 with
      | zero =>
        intro y4 f5 H locs ls hi29 hdy hl
        refine lv_iload hx hb zd_H_invert_29 (lv_at hl 0 rfl) ?_
        refine lv_if_lt (tgt := 76) hx hb zd_H_invert_31 (by decide) (fun hc31 => ?_) (fun hc31 => ?_)
        · refine lv_aload_n hx hb zd_H_invert_76 rfl (lv_at hl 4 rfl) ?_
          refine lv_lload hx hb zd_H_invert_77 (lv_at hl 1 rfl) ?_
          refine kz_callv (wk := []) (va_runV (As := [.long y4]) (rest := []) ⟨hx, hb, hml, hown, hts⟩ (c_Host_divideInverse l dC dI cI cAA cB cL inv h pr hp hq hw16 f5 (y4) _) (cwV 1 hts (kz_g (kz_mc mw_229 (kz_mc mw_231 (kz_mc mw_5 (kz_mc mw_40 kz_mn)))) mw_232) rfl rfl rfl (by decide +kernel) ⟨Nat.le_of_ble_eq_true rfl, Nat.le_of_ble_eq_true rfl⟩) (kz_preVr hdy hA hK hro hZ hN [0] (by decide) rfl [(true, 0)] rfl (by decide) [0, 1, 2, 3] rfl (fun _ h => by cases h) (fun _ h => by cases h) rfl (ci := 2) (q0 := 0) rfl rfl rfl) rfl rfl hl.1 rfl (lv_room (Nat.le_of_ble_eq_true rfl)) zd_H_invert_79 ⟨Nat.le_of_ble_eq_true rfl, Nat.le_of_ble_eq_true rfl⟩) hdy hA [0] [] rfl rfl (by decide) (by decide) (fun u H locs hw hdy => ?_)
          obtain ⟨f6, rfl⟩ : ∃ z, z = u := ⟨_, rfl⟩
          have hdy : kz_dy (dC, dI) vwCl A s.heap H locs [(inv, .inl (cI, 8, .inl f6))] := hdy.sub [0] (by decide) rfl
          refine lv_iconst (v := (nI (1))) hx hb zd_H_invert_82 (by decide) ?_
          exact kz_zret F (f6) hdy (by first | exact Or.inl rfl | exact Or.inr rfl | assumption) (⟨by first | exact Or.inl rfl | exact Or.inr rfl | assumption, trivial⟩) zd_H_invert_83
        · exact absurd (by decide) hc31
      | succ k29 ih29 =>
        intro y4 f5 H locs ls hi29 hdy hl
        rw [nI_pred] at hl
        refine lv_iload hx hb zd_H_invert_29 (lv_at hl 0 rfl) ?_
        refine lv_if_lt (tgt := 76) hx hb zd_H_invert_31 (by decide) (fun hc31 => ?_) (fun hc31 => ?_)
        · exact absurd hc31 (nI_pos (by omega))
        · refine lv_lload_n hx hb zd_H_invert_34 rfl (lv_at hl 2 rfl) ?_
          refine lv_aload_n hx hb zd_H_invert_35 rfl (lv_at hl 4 rfl) ?_
          refine va_get (D := (dC, dI)) (ci := 2) (v := .ref inv) (C := zR_H) (T := zT_H) (N := 5) hx hb hts (fun w h => kz_c (zi_H w h)) hown hK (hro.at hdy.2.2) 0 rfl rfl 1 (by decide) (hts _ (kz_c mw_71)) (fun _ h9 => h9) rfl zd_H_invert_36 ?_
          refine lv_iload hx hb zd_H_invert_39 (lv_at hl 0 rfl) ?_
          refine va_iald hx hb hK hdy.1 0 0 rfl rfl (vp_in_nI (by omega) (by omega)) zd_H_invert_41 ?_
          refine lv_topi (fun x7 _ => ?_)
          refine lv_i2l hx hb zd_H_invert_42 rfl ?_
          refine lv_topl (fun y8 _ => ?_)
          refine lv_ldc2 (v := (4294967295)) hx hb hown (hts _ (kz_c mw_224)) zd_H_invert_43 ?_
          refine kz_mask hx hb zd_H_invert_46 (fun y9 hy9 => ?_)
          refine lv_lmul hx hb zd_H_invert_47 ?_
          refine lv_topl (fun y10 _ => ?_)
          refine lv_lload hx hb zd_H_invert_48 (lv_at hl 1 rfl) ?_
          refine lv_ladd hx hb zd_H_invert_50 ?_
          refine lv_topl (fun y11 _ => ?_)
          refine lv_lstore (lv' := [(8, .long y11), (7, .int (nI (k29))), (5, .long y4), (3, .long y3), (1, .long y1), (0, .ref h)]) hx hb zd_H_invert_51 hl (by decide) rfl (fun ls hl => ?_)
          refine lv_aload_n hx hb zd_H_invert_53 rfl (lv_at hl 5 rfl) ?_
          refine va_get (D := (dC, dI)) (ci := 2) (v := .ref inv) (C := zR_H) (T := zT_H) (N := 5) hx hb hts (fun w h => kz_c (zi_H w h)) hown hK (hro.at hdy.2.2) 0 rfl rfl 1 (by decide) (hts _ (kz_c mw_71)) (fun _ h9 => h9) rfl zd_H_invert_54 ?_
          refine lv_iload hx hb zd_H_invert_57 (lv_at hl 1 rfl) ?_
          refine lv_lload hx hb zd_H_invert_59 (lv_at hl 0 rfl) ?_
          refine lv_l2i hx hb zd_H_invert_61 rfl ?_
          refine lv_topi (fun x12 _ => ?_)
          refine va_iast hx hb hK hdy.1 hdy.2.1 hdy.2.2 0 0 rfl rfl (vp_in_nI (by omega) (by omega)) zd_H_invert_62 (fun H locs hP hD hS => ?_)
          obtain ⟨f13, hdy⟩ : ∃ f13 : Nat → Int32, kz_dy (dC, dI) vwCl A s.heap H locs [(inv, .inl (cI, 8, .inl f13))] := ⟨_, hP, hD, hS⟩
          refine lv_lload hx hb zd_H_invert_63 (lv_at hl 0 rfl) ?_
          refine lv_bipush (v := (nI (32))) hx hb zd_H_invert_65 (by decide) ?_
          refine lv_lushr hx hb zd_H_invert_67 rfl ?_
          refine lv_topl (fun y14 _ => ?_)
          refine lv_lstore (lv' := [(5, .long y14), (8, .long y11), (7, .int (nI (k29))), (3, .long y3), (1, .long y1), (0, .ref h)]) hx hb zd_H_invert_68 hl (by decide) rfl (fun ls hl => ?_)
          refine lv_iinc (v := (nI (k29) - 1)) (lv' := [(7, .int (nI (k29) - 1)), (5, .long y14), (8, .long y11), (3, .long y3), (1, .long y1), (0, .ref h)]) hx hb zd_H_invert_70 hl (k := 2) rfl (kz_m1 _) (by decide) rfl (fun ls hl => ?_)
          refine lv_goto (tgt := 29) hx hb zd_H_invert_73 (by decide) ?_
          exact ih29 (y14) f13 _ _ _ (by omega) hdy (lv_sub hl [0, 1, 3, 4, 5] rfl)
    exact lp29 8 (1) ginv _ _ _ (by omega) hdy (lv_sub hl [0, 1, 2, 3, 4] rfl)
  · refine lv_iconst (v := (nI (0))) hx hb zd_H_invert_11 (by decide) ?_
    exact kz_zret F (ginv) hdy (by first | exact Or.inl rfl | exact Or.inr rfl | assumption) (⟨by first | exact Or.inl rfl | exact Or.inr rfl | assumption, trivial⟩) zd_H_invert_12

set_option maxHeartbeats 4000000 in
set_option maxRecDepth 100000 in
/-- KeyMeeting$Host.take([I[I)Z -/
theorem c_Host_take (l : Launch) (dC : Nat → ClassId) (dI : Nat → Nat → Nat) (cI cAA cB cL : ClassId) (pr inv hp hq hw16 h a b : Nat) (gpr : Nat → Int32) (ginv : Nat → Int32) (ghp : Nat → Int32) (ghq : Nat → Int32) (ghw16 : Nat → Int32) (ga : Nat → Int32) (gb : Nat → Int32) (sz : Nat) : Met l zy_H_take zw_H_take { frames := 3, cells := 0, slots := 0, locals := 73 } (kz_Pc (dC, dI) vwCl [(cI, .int), (cAA, .array .int), (cB, .byte), (cL, .long)] [] [] [.ref h, .ref a, .ref b] [(pr, .inl (cI, 8, .inl gpr)), (inv, .inl (cI, 8, .inl ginv)), (hp, .inl (cI, 8, .inl ghp)), (hq, .inl (cI, 8, .inl ghq)), (hw16, .inl (cI, 16, .inl ghw16))] [(h, .inr (2, [.ref pr, .ref inv, .ref hp, .ref hq, .ref hw16])), (a, .inl (cI, 8, .inl ga)), (b, .inl (cI, 8, .inl gb))] sz) (va_Qi (fun (r : Int32) (u : (Nat → Int32) × (Nat → Int32) × (Nat → Int32) × (Nat → Int32) × (Nat → Int32)) => (r = 0 ∨ r = 1) ∧ True) (kz_B (dC, dI) vwCl (va_A [(pr, .inl (cI, 8, .inl gpr)), (inv, .inl (cI, 8, .inl ginv)), (hp, .inl (cI, 8, .inl ghp)), (hq, .inl (cI, 8, .inl ghq)), (hw16, .inl (cI, 16, .inl ghw16))] sz) (fun u : (Nat → Int32) × (Nat → Int32) × (Nat → Int32) × (Nat → Int32) × (Nat → Int32) => [(pr, .inl (cI, 8, .inl u.1)), (inv, .inl (cI, 8, .inl u.2.1)), (hp, .inl (cI, 8, .inl u.2.2.1)), (hq, .inl (cI, 8, .inl u.2.2.2.1)), (hw16, .inl (cI, 16, .inl u.2.2.2.2))])) (va_A [(pr, .inl (cI, 8, .inl gpr)), (inv, .inl (cI, 8, .inl ginv)), (hp, .inl (cI, 8, .inl ghp)), (hq, .inl (cI, 8, .inl ghq)), (hw16, .inl (cI, 16, .inl ghw16))] sz)) 0 0 (va_A [(pr, .inl (cI, 8, .inl gpr)), (inv, .inl (cI, 8, .inl ginv)), (hp, .inl (cI, 8, .inl ghp)), (hq, .inl (cI, 8, .inl ghq)), (hw16, .inl (cI, 16, .inl ghw16))] sz) := by
  refine kz_met (Qc := fun A => va_Qi (fun (r : Int32) (u : (Nat → Int32) × (Nat → Int32) × (Nat → Int32) × (Nat → Int32) × (Nat → Int32)) => (r = 0 ∨ r = 1) ∧ True) (kz_B (dC, dI) vwCl A (fun u : (Nat → Int32) × (Nat → Int32) × (Nat → Int32) × (Nat → Int32) × (Nat → Int32) => [(pr, .inl (cI, 8, .inl u.1)), (inv, .inl (cI, 8, .inl u.2.1)), (hp, .inl (cI, 8, .inl u.2.2.1)), (hq, .inl (cI, 8, .inl u.2.2.2.1)), (hw16, .inl (cI, 16, .inl u.2.2.2.2))])) A) (cc := zc_H_take) (maxL := 3) (ret := some .boolean) (by decide) rfl (Nat.le_of_ble_eq_true rfl) ?_
  intro p e s m below meth c A ls F hA hdy hK hro hZ hN hl
  obtain ⟨hx, hb, hml, hr, hown, hlocks, hts, hnm⟩ := id F
  have hl : lv_has ls 3 [(0, .ref h), (1, .ref a), (2, .ref b)] := hl
  refine lv_aload_n hx hb zd_H_take_0 rfl (lv_at hl 1 rfl) ?_
  refine lv_aload_n hx hb zd_H_take_1 rfl (lv_at hl 0 rfl) ?_
  refine va_get (D := (dC, dI)) (ci := 2) (v := .ref hp) (C := zR_H) (T := zT_H) (N := 5) hx hb hts (fun w h => kz_c (zi_H w h)) hown hK (hro.at hdy.2.2) 0 rfl rfl 2 (by decide) (hts _ (kz_c mw_73)) (fun _ h9 => h9) rfl zd_H_take_2 ?_
  refine kz_callv (wk := [(pr, .inl (cI, 8, .inl gpr)), (inv, .inl (cI, 8, .inl ginv)), (hq, .inl (cI, 8, .inl ghq)), (hw16, .inl (cI, 16, .inl ghw16))]) (va_runS (As := [.ref a, .ref hp]) (rest := []) ⟨hx, hb, hml, hown, hts⟩ (c_Host_takeLowHalf l dC dI cI cAA cB cL hp a ghp ga _) (va_cwS 2 hts (kz_g (kz_mc mw_195 (kz_mc mw_196 (kz_mc mw_40 kz_mn))) mw_197) rfl rfl rfl (by decide +kernel) ⟨Nat.le_of_ble_eq_true rfl, Nat.le_of_ble_eq_true rfl⟩) (kz_preS hdy hA hK hro hZ hN [2] (by decide) rfl [(true, 1)] rfl (by decide) [0, 1, 2, 3] rfl (fun _ h => by cases h) (fun _ h => by cases h) rfl) rfl rfl hl.1 rfl (lv_room (Nat.le_of_ble_eq_true rfl)) zd_H_take_5 ⟨Nat.le_of_ble_eq_true rfl, Nat.le_of_ble_eq_true rfl⟩) hdy hA [2] [0, 1, 3, 4] rfl rfl (by decide) (by decide) (fun u H locs hw hdy => ?_)
  obtain ⟨f1, rfl⟩ : ∃ z, z = u := ⟨_, rfl⟩
  have hdy : kz_dy (dC, dI) vwCl A s.heap H locs [(pr, .inl (cI, 8, .inl gpr)), (inv, .inl (cI, 8, .inl ginv)), (hp, .inl (cI, 8, .inl f1)), (hq, .inl (cI, 8, .inl ghq)), (hw16, .inl (cI, 16, .inl ghw16))] := hdy.sub [0, 1, 4, 2, 3] (by decide) rfl
  refine lv_aload_n hx hb zd_H_take_8 rfl (lv_at hl 2 rfl) ?_
  refine lv_aload_n hx hb zd_H_take_9 rfl (lv_at hl 0 rfl) ?_
  refine va_get (D := (dC, dI)) (ci := 2) (v := .ref hq) (C := zR_H) (T := zT_H) (N := 5) hx hb hts (fun w h => kz_c (zi_H w h)) hown hK (hro.at hdy.2.2) 0 rfl rfl 3 (by decide) (hts _ (kz_c mw_74)) (fun _ h9 => h9) rfl zd_H_take_10 ?_
  refine kz_callv (wk := [(pr, .inl (cI, 8, .inl gpr)), (inv, .inl (cI, 8, .inl ginv)), (hp, .inl (cI, 8, .inl f1)), (hw16, .inl (cI, 16, .inl ghw16))]) (va_runS (As := [.ref b, .ref hq]) (rest := []) ⟨hx, hb, hml, hown, hts⟩ (c_Host_takeLowHalf l dC dI cI cAA cB cL hq b ghq gb _) (va_cwS 2 hts (kz_g (kz_mc mw_195 (kz_mc mw_196 (kz_mc mw_40 kz_mn))) mw_197) rfl rfl rfl (by decide +kernel) ⟨Nat.le_of_ble_eq_true rfl, Nat.le_of_ble_eq_true rfl⟩) (kz_preS hdy hA hK hro hZ hN [3] (by decide) rfl [(true, 2)] rfl (by decide) [0, 1, 2, 3] rfl (fun _ h => by cases h) (fun _ h => by cases h) rfl) rfl rfl hl.1 rfl (lv_room (Nat.le_of_ble_eq_true rfl)) zd_H_take_13 ⟨Nat.le_of_ble_eq_true rfl, Nat.le_of_ble_eq_true rfl⟩) hdy hA [3] [0, 1, 2, 4] rfl rfl (by decide) (by decide) (fun u H locs hw hdy => ?_)
  obtain ⟨f2, rfl⟩ : ∃ z, z = u := ⟨_, rfl⟩
  have hdy : kz_dy (dC, dI) vwCl A s.heap H locs [(pr, .inl (cI, 8, .inl gpr)), (inv, .inl (cI, 8, .inl ginv)), (hp, .inl (cI, 8, .inl f1)), (hq, .inl (cI, 8, .inl f2)), (hw16, .inl (cI, 16, .inl ghw16))] := hdy.sub [0, 1, 2, 4, 3] (by decide) rfl
  refine lv_aload_n hx hb zd_H_take_16 rfl (lv_at hl 0 rfl) ?_
  refine va_get (D := (dC, dI)) (ci := 2) (v := .ref hp) (C := zR_H) (T := zT_H) (N := 5) hx hb hts (fun w h => kz_c (zi_H w h)) hown hK (hro.at hdy.2.2) 0 rfl rfl 2 (by decide) (hts _ (kz_c mw_73)) (fun _ h9 => h9) rfl zd_H_take_17 ?_
  refine lv_iconst (v := (nI (3))) hx hb zd_H_take_20 (by decide) ?_
  refine kz_calli (wk := [(pr, .inl (cI, 8, .inl gpr)), (inv, .inl (cI, 8, .inl ginv)), (hp, .inl (cI, 8, .inl f1)), (hq, .inl (cI, 8, .inl f2)), (hw16, .inl (cI, 16, .inl ghw16))]) (va_runS (As := [.ref hp, .int (nI (3))]) (rest := []) ⟨hx, hb, hml, hown, hts⟩ (c_Words_atLeast l dC dI cI cAA cB cL hp f1 ((nI (3))) _) (va_cwS 2 hts (kz_g (kz_mc mw_198 (kz_mc mw_178 (kz_mc mw_50 kz_mn))) mw_179) rfl rfl rfl (by decide +kernel) ⟨Nat.le_of_ble_eq_true rfl, Nat.le_of_ble_eq_true rfl⟩) (kz_preS hdy hA hK hro hZ hN [] (by decide) rfl [(false, 2)] rfl (by decide) [0, 1, 2, 3] rfl (fun _ h => by cases h) (fun _ h => by cases h) rfl) rfl rfl hl.1 rfl (lv_room (Nat.le_of_ble_eq_true rfl)) zd_H_take_21 ⟨Nat.le_of_ble_eq_true rfl, Nat.le_of_ble_eq_true rfl⟩) hdy hA [] [0, 1, 2, 3, 4] rfl rfl (by decide) (by decide) (fun r u H locs hw hdy => ?_)
  obtain ⟨r3, rfl⟩ : ∃ z, z = r := ⟨_, rfl⟩
  try dsimp only at hw
  obtain ⟨hzr3, -⟩ := hw
  have hdy : kz_dy (dC, dI) vwCl A s.heap H locs [(pr, .inl (cI, 8, .inl gpr)), (inv, .inl (cI, 8, .inl ginv)), (hp, .inl (cI, 8, .inl f1)), (hq, .inl (cI, 8, .inl f2)), (hw16, .inl (cI, 16, .inl ghw16))] := hdy.sub [0, 1, 2, 3, 4] (by decide) rfl
  refine lv_if_eq (tgt := 38) hx hb zd_H_take_24 (by decide) (fun hc24 => ?_) (fun hc24 => ?_)
  · refine lv_iconst (v := (nI (0))) hx hb zd_H_take_38 (by decide) ?_
    exact kz_zret F (gpr, ginv, f1, f2, ghw16) hdy (by first | exact Or.inl rfl | exact Or.inr rfl | assumption) (⟨by first | exact Or.inl rfl | exact Or.inr rfl | assumption, trivial⟩) zd_H_take_39
  · refine lv_aload_n hx hb zd_H_take_27 rfl (lv_at hl 0 rfl) ?_
    refine va_get (D := (dC, dI)) (ci := 2) (v := .ref hq) (C := zR_H) (T := zT_H) (N := 5) hx hb hts (fun w h => kz_c (zi_H w h)) hown hK (hro.at hdy.2.2) 0 rfl rfl 3 (by decide) (hts _ (kz_c mw_74)) (fun _ h9 => h9) rfl zd_H_take_28 ?_
    refine lv_iconst (v := (nI (3))) hx hb zd_H_take_31 (by decide) ?_
    refine kz_calli (wk := [(pr, .inl (cI, 8, .inl gpr)), (inv, .inl (cI, 8, .inl ginv)), (hp, .inl (cI, 8, .inl f1)), (hq, .inl (cI, 8, .inl f2)), (hw16, .inl (cI, 16, .inl ghw16))]) (va_runS (As := [.ref hq, .int (nI (3))]) (rest := []) ⟨hx, hb, hml, hown, hts⟩ (c_Words_atLeast l dC dI cI cAA cB cL hq f2 ((nI (3))) _) (va_cwS 2 hts (kz_g (kz_mc mw_198 (kz_mc mw_178 (kz_mc mw_50 kz_mn))) mw_179) rfl rfl rfl (by decide +kernel) ⟨Nat.le_of_ble_eq_true rfl, Nat.le_of_ble_eq_true rfl⟩) (kz_preS hdy hA hK hro hZ hN [] (by decide) rfl [(false, 3)] rfl (by decide) [0, 1, 2, 3] rfl (fun _ h => by cases h) (fun _ h => by cases h) rfl) rfl rfl hl.1 rfl (lv_room (Nat.le_of_ble_eq_true rfl)) zd_H_take_32 ⟨Nat.le_of_ble_eq_true rfl, Nat.le_of_ble_eq_true rfl⟩) hdy hA [] [0, 1, 2, 3, 4] rfl rfl (by decide) (by decide) (fun r u H locs hw hdy => ?_)
    obtain ⟨r4, rfl⟩ : ∃ z, z = r := ⟨_, rfl⟩
    try dsimp only at hw
    obtain ⟨hzr4, -⟩ := hw
    have hdy : kz_dy (dC, dI) vwCl A s.heap H locs [(pr, .inl (cI, 8, .inl gpr)), (inv, .inl (cI, 8, .inl ginv)), (hp, .inl (cI, 8, .inl f1)), (hq, .inl (cI, 8, .inl f2)), (hw16, .inl (cI, 16, .inl ghw16))] := hdy.sub [0, 1, 2, 3, 4] (by decide) rfl
    refine lv_if_ne (tgt := 40) hx hb zd_H_take_35 (by decide) (fun hc35 => ?_) (fun hc35 => ?_)
    · refine lv_aload_n hx hb zd_H_take_40 rfl (lv_at hl 0 rfl) ?_
      refine lv_aload_n hx hb zd_H_take_41 rfl (lv_at hl 0 rfl) ?_
      refine va_get (D := (dC, dI)) (ci := 2) (v := .ref pr) (C := zR_H) (T := zT_H) (N := 5) hx hb hts (fun w h => kz_c (zi_H w h)) hown hK (hro.at hdy.2.2) 0 rfl rfl 0 (by decide) (hts _ (kz_c mw_69)) (fun _ h9 => h9) rfl zd_H_take_42 ?_
      refine kz_callv (wk := [(inv, .inl (cI, 8, .inl ginv)), (hp, .inl (cI, 8, .inl f1)), (hq, .inl (cI, 8, .inl f2))]) (va_runV (As := [.ref pr]) (rest := []) ⟨hx, hb, hml, hown, hts⟩ (c_Host_multiplyBoth l dC dI cI cAA cB cL hw16 pr h pr inv hp hq ghw16 gpr f1 f2 _) (cwV 1 hts (kz_g (kz_mc mw_199 (kz_mc mw_201 (kz_mc mw_2 (kz_mc mw_40 kz_mn)))) mw_202) rfl rfl rfl (by decide +kernel) ⟨Nat.le_of_ble_eq_true rfl, Nat.le_of_ble_eq_true rfl⟩) (kz_preVr hdy hA hK hro hZ hN [4, 0] (by decide) rfl [(true, 0), (false, 2), (false, 3)] rfl (by decide) [0, 1, 2, 3] rfl (fun _ h => by cases h) (fun _ h => by cases h) rfl (ci := 2) (q0 := 0) rfl rfl rfl) rfl rfl hl.1 rfl (lv_room (Nat.le_of_ble_eq_true rfl)) zd_H_take_45 ⟨Nat.le_of_ble_eq_true rfl, Nat.le_of_ble_eq_true rfl⟩) hdy hA [4, 0] [1, 2, 3] rfl rfl (by decide) (by decide) (fun u H locs hw hdy => ?_)
      obtain ⟨f5, f6⟩ := u
      have hdy : kz_dy (dC, dI) vwCl A s.heap H locs [(pr, .inl (cI, 8, .inl f6)), (inv, .inl (cI, 8, .inl ginv)), (hp, .inl (cI, 8, .inl f1)), (hq, .inl (cI, 8, .inl f2)), (hw16, .inl (cI, 16, .inl f5))] := hdy.sub [4, 0, 1, 2, 3] (by decide) rfl
      refine lv_aload_n hx hb zd_H_take_48 rfl (lv_at hl 0 rfl) ?_
      refine va_get (D := (dC, dI)) (ci := 2) (v := .ref hp) (C := zR_H) (T := zT_H) (N := 5) hx hb hts (fun w h => kz_c (zi_H w h)) hown hK (hro.at hdy.2.2) 0 rfl rfl 2 (by decide) (hts _ (kz_c mw_73)) (fun _ h9 => h9) rfl zd_H_take_49 ?_
      refine lv_iconst (v := (nI (1))) hx hb zd_H_take_52 (by decide) ?_
      refine lv_aload_n hx hb zd_H_take_53 rfl (lv_at hl 0 rfl) ?_
      refine va_get (D := (dC, dI)) (ci := 2) (v := .ref hp) (C := zR_H) (T := zT_H) (N := 5) hx hb hts (fun w h => kz_c (zi_H w h)) hown hK (hro.at hdy.2.2) 0 rfl rfl 2 (by decide) (hts _ (kz_c mw_73)) (fun _ h9 => h9) rfl zd_H_take_54 ?_
      refine kz_callv (wk := [(pr, .inl (cI, 8, .inl f6)), (inv, .inl (cI, 8, .inl ginv)), (hq, .inl (cI, 8, .inl f2)), (hw16, .inl (cI, 16, .inl f5))]) (va_runS (As := [.ref hp, .int (nI (1)), .ref hp]) (rest := []) ⟨hx, hb, hml, hown, hts⟩ (c_Words_subtract1 l dC dI cI cAA cB cL hp f1 ((nI (1))) _) (va_cwS 3 hts (kz_g (kz_mc mw_215 (kz_mc mw_186 (kz_mc mw_50 kz_mn))) mw_187) rfl rfl rfl (by decide +kernel) ⟨Nat.le_of_ble_eq_true rfl, Nat.le_of_ble_eq_true rfl⟩) (kz_preS hdy hA hK hro hZ hN [2] (by decide) rfl [] rfl (by decide) [0, 1, 2, 3] rfl (fun _ h => by cases h) (fun _ h => by cases h) rfl) rfl rfl hl.1 rfl (lv_room (Nat.le_of_ble_eq_true rfl)) zd_H_take_57 ⟨Nat.le_of_ble_eq_true rfl, Nat.le_of_ble_eq_true rfl⟩) hdy hA [2] [0, 1, 3, 4] rfl rfl (by decide) (by decide) (fun u H locs hw hdy => ?_)
      obtain ⟨f7, rfl⟩ : ∃ z, z = u := ⟨_, rfl⟩
      have hdy : kz_dy (dC, dI) vwCl A s.heap H locs [(pr, .inl (cI, 8, .inl f6)), (inv, .inl (cI, 8, .inl ginv)), (hp, .inl (cI, 8, .inl f7)), (hq, .inl (cI, 8, .inl f2)), (hw16, .inl (cI, 16, .inl f5))] := hdy.sub [0, 1, 4, 2, 3] (by decide) rfl
      refine lv_aload_n hx hb zd_H_take_60 rfl (lv_at hl 0 rfl) ?_
      refine va_get (D := (dC, dI)) (ci := 2) (v := .ref hq) (C := zR_H) (T := zT_H) (N := 5) hx hb hts (fun w h => kz_c (zi_H w h)) hown hK (hro.at hdy.2.2) 0 rfl rfl 3 (by decide) (hts _ (kz_c mw_74)) (fun _ h9 => h9) rfl zd_H_take_61 ?_
      refine lv_iconst (v := (nI (1))) hx hb zd_H_take_64 (by decide) ?_
      refine lv_aload_n hx hb zd_H_take_65 rfl (lv_at hl 0 rfl) ?_
      refine va_get (D := (dC, dI)) (ci := 2) (v := .ref hq) (C := zR_H) (T := zT_H) (N := 5) hx hb hts (fun w h => kz_c (zi_H w h)) hown hK (hro.at hdy.2.2) 0 rfl rfl 3 (by decide) (hts _ (kz_c mw_74)) (fun _ h9 => h9) rfl zd_H_take_66 ?_
      refine kz_callv (wk := [(pr, .inl (cI, 8, .inl f6)), (inv, .inl (cI, 8, .inl ginv)), (hp, .inl (cI, 8, .inl f7)), (hw16, .inl (cI, 16, .inl f5))]) (va_runS (As := [.ref hq, .int (nI (1)), .ref hq]) (rest := []) ⟨hx, hb, hml, hown, hts⟩ (c_Words_subtract1 l dC dI cI cAA cB cL hq f2 ((nI (1))) _) (va_cwS 3 hts (kz_g (kz_mc mw_215 (kz_mc mw_186 (kz_mc mw_50 kz_mn))) mw_187) rfl rfl rfl (by decide +kernel) ⟨Nat.le_of_ble_eq_true rfl, Nat.le_of_ble_eq_true rfl⟩) (kz_preS hdy hA hK hro hZ hN [3] (by decide) rfl [] rfl (by decide) [0, 1, 2, 3] rfl (fun _ h => by cases h) (fun _ h => by cases h) rfl) rfl rfl hl.1 rfl (lv_room (Nat.le_of_ble_eq_true rfl)) zd_H_take_69 ⟨Nat.le_of_ble_eq_true rfl, Nat.le_of_ble_eq_true rfl⟩) hdy hA [3] [0, 1, 2, 4] rfl rfl (by decide) (by decide) (fun u H locs hw hdy => ?_)
      obtain ⟨f8, rfl⟩ : ∃ z, z = u := ⟨_, rfl⟩
      have hdy : kz_dy (dC, dI) vwCl A s.heap H locs [(pr, .inl (cI, 8, .inl f6)), (inv, .inl (cI, 8, .inl ginv)), (hp, .inl (cI, 8, .inl f7)), (hq, .inl (cI, 8, .inl f8)), (hw16, .inl (cI, 16, .inl f5))] := hdy.sub [0, 1, 2, 4, 3] (by decide) rfl
      refine lv_aload_n hx hb zd_H_take_72 rfl (lv_at hl 0 rfl) ?_
      refine lv_aload_n hx hb zd_H_take_73 rfl (lv_at hl 0 rfl) ?_
      refine va_get (D := (dC, dI)) (ci := 2) (v := .ref inv) (C := zR_H) (T := zT_H) (N := 5) hx hb hts (fun w h => kz_c (zi_H w h)) hown hK (hro.at hdy.2.2) 0 rfl rfl 1 (by decide) (hts _ (kz_c mw_71)) (fun _ h9 => h9) rfl zd_H_take_74 ?_
      refine kz_callv (wk := [(pr, .inl (cI, 8, .inl f6)), (hp, .inl (cI, 8, .inl f7)), (hq, .inl (cI, 8, .inl f8))]) (va_runV (As := [.ref inv]) (rest := []) ⟨hx, hb, hml, hown, hts⟩ (c_Host_multiplyBoth l dC dI cI cAA cB cL hw16 inv h pr inv hp hq f5 ginv f7 f8 _) (cwV 1 hts (kz_g (kz_mc mw_199 (kz_mc mw_201 (kz_mc mw_2 (kz_mc mw_40 kz_mn)))) mw_202) rfl rfl rfl (by decide +kernel) ⟨Nat.le_of_ble_eq_true rfl, Nat.le_of_ble_eq_true rfl⟩) (kz_preVr hdy hA hK hro hZ hN [4, 1] (by decide) rfl [(true, 0), (false, 2), (false, 3)] rfl (by decide) [0, 1, 2, 3] rfl (fun _ h => by cases h) (fun _ h => by cases h) rfl (ci := 2) (q0 := 0) rfl rfl rfl) rfl rfl hl.1 rfl (lv_room (Nat.le_of_ble_eq_true rfl)) zd_H_take_77 ⟨Nat.le_of_ble_eq_true rfl, Nat.le_of_ble_eq_true rfl⟩) hdy hA [4, 1] [0, 2, 3] rfl rfl (by decide) (by decide) (fun u H locs hw hdy => ?_)
      obtain ⟨f9, f10⟩ := u
      have hdy : kz_dy (dC, dI) vwCl A s.heap H locs [(pr, .inl (cI, 8, .inl f6)), (inv, .inl (cI, 8, .inl f10)), (hp, .inl (cI, 8, .inl f7)), (hq, .inl (cI, 8, .inl f8)), (hw16, .inl (cI, 16, .inl f9))] := hdy.sub [0, 4, 1, 2, 3] (by decide) rfl
      refine lv_aload_n hx hb zd_H_take_80 rfl (lv_at hl 0 rfl) ?_
      refine kz_calli (wk := [(pr, .inl (cI, 8, .inl f6)), (hp, .inl (cI, 8, .inl f7)), (hq, .inl (cI, 8, .inl f8)), (hw16, .inl (cI, 16, .inl f9))]) (va_runV (As := []) (rest := []) ⟨hx, hb, hml, hown, hts⟩ (c_Host_invert l dC dI cI cAA cB cL inv h pr hp hq hw16 f10 _) (cwV 0 hts (kz_g (kz_mc mw_216 (kz_mc mw_218 (kz_mc mw_3 (kz_mc mw_40 kz_mn)))) mw_219) rfl rfl rfl (by decide +kernel) ⟨Nat.le_of_ble_eq_true rfl, Nat.le_of_ble_eq_true rfl⟩) (kz_preVr hdy hA hK hro hZ hN [1] (by decide) rfl [(true, 0)] rfl (by decide) [0, 1, 2, 3] rfl (fun _ h => by cases h) (fun _ h => by cases h) rfl (ci := 2) (q0 := 0) rfl rfl rfl) rfl rfl hl.1 rfl (lv_room (Nat.le_of_ble_eq_true rfl)) zd_H_take_81 ⟨Nat.le_of_ble_eq_true rfl, Nat.le_of_ble_eq_true rfl⟩) hdy hA [1] [0, 2, 3, 4] rfl rfl (by decide) (by decide) (fun r u H locs hw hdy => ?_)
      obtain ⟨r12, rfl⟩ : ∃ z, z = r := ⟨_, rfl⟩
      obtain ⟨f11, rfl⟩ : ∃ z, z = u := ⟨_, rfl⟩
      try dsimp only at hw
      obtain ⟨hzr12, -⟩ := hw
      have hdy : kz_dy (dC, dI) vwCl A s.heap H locs [(pr, .inl (cI, 8, .inl f6)), (inv, .inl (cI, 8, .inl f11)), (hp, .inl (cI, 8, .inl f7)), (hq, .inl (cI, 8, .inl f8)), (hw16, .inl (cI, 16, .inl f9))] := hdy.sub [0, 4, 1, 2, 3] (by decide) rfl
      exact kz_zret F (f6, f11, f7, f8, f9) hdy (by first | exact Or.inl rfl | exact Or.inr rfl | assumption) (⟨by first | exact Or.inl rfl | exact Or.inr rfl | assumption, trivial⟩) zd_H_take_84
    · refine lv_iconst (v := (nI (0))) hx hb zd_H_take_38 (by decide) ?_
      exact kz_zret F (gpr, ginv, f1, f2, ghw16) hdy (by first | exact Or.inl rfl | exact Or.inr rfl | assumption) (⟨by first | exact Or.inl rfl | exact Or.inr rfl | assumption, trivial⟩) zd_H_take_39
end
section
set_option maxHeartbeats 4000000 in
set_option maxRecDepth 100000 in
/-- KeyMeeting$Digest.turn(II)I -/
theorem c_Dig_turn (l : Launch) (dC : Nat → ClassId) (dI : Nat → Nat → Nat) (cI cAA cB cL : ClassId) (v : Int32) (k : Int32) (sz : Nat) : Met l zy_D_turn zw_D_turn { frames := 0, cells := 0, slots := 0, locals := 0 } (kz_Pc (dC, dI) vwCl [(cI, .int), (cAA, .array .int), (cB, .byte), (cL, .long)] [] [] [.int v, .int k] [] [] sz) (va_Qi (fun _ _ => True) (kz_B (dC, dI) vwCl (va_A [] sz) (fun u : Unit => [])) (va_A [] sz)) 0 0 (va_A [] sz) := by
  refine kz_met (Qc := fun A => va_Qi (fun _ _ => True) (kz_B (dC, dI) vwCl A (fun u : Unit => [])) A) (cc := zc_D_turn) (maxL := 2) (ret := some .int) (by decide) rfl (Nat.le_of_ble_eq_true rfl) ?_
  intro p e s m below meth c A ls F hA hdy hK hro hZ hN hl
  obtain ⟨hx, hb, hml, hr, hown, hlocks, hts, hnm⟩ := id F
  have hl : lv_has ls 2 [(0, .int v), (1, .int k)] := hl
  refine lv_iload_n hx hb zd_D_turn_0 rfl (lv_at hl 0 rfl) ?_
  refine lv_iload_n hx hb zd_D_turn_1 rfl (lv_at hl 1 rfl) ?_
  refine lv_iushr hx hb zd_D_turn_2 rfl ?_
  refine lv_topi (fun x1 _ => ?_)
  refine lv_iload_n hx hb zd_D_turn_3 rfl (lv_at hl 0 rfl) ?_
  refine lv_bipush (v := (nI (32))) hx hb zd_D_turn_4 (by decide) ?_
  refine lv_iload_n hx hb zd_D_turn_6 rfl (lv_at hl 1 rfl) ?_
  refine lv_isub hx hb zd_D_turn_7 ?_
  refine lv_topi (fun x2 _ => ?_)
  refine lv_ishl hx hb zd_D_turn_8 ?_
  refine lv_topi (fun x3 _ => ?_)
  refine lv_ior hx hb zd_D_turn_9 ?_
  refine lv_topi (fun x4 _ => ?_)
  exact kz_iret F () hdy (trivial) zd_D_turn_10

set_option maxHeartbeats 4000000 in
set_option maxRecDepth 100000 in
/-- KeyMeeting$Digest.spreadRow()V -/
theorem c_Dig_spreadRow (l : Launch) (dC : Nat → ClassId) (dI : Nat → Nat → Nat) (cI cAA cB cL : ClassId) (ro h su : Nat) (gro : Nat → Int32) (ct : Nat) (sz : Nat) : Met l zy_D_spreadRow zw_D_spreadRow { frames := 1, cells := 0, slots := 0, locals := 21 } (kz_Pc (dC, dI) vwCl [(cI, .int), (cAA, .array .int), (cB, .byte), (cL, .long)] [] [] [.ref h] [(ro, .inl (cI, 64, .inl gro))] [(h, .inr (3, [.ref su, .ref ro, .int (nI (ct))]))] sz) (va_Qv (fun _ => True) (kz_B (dC, dI) vwCl (va_A [(ro, .inl (cI, 64, .inl gro))] sz) (fun u : (Nat → Int32) => [(ro, .inl (cI, 64, .inl u))])) (va_A [(ro, .inl (cI, 64, .inl gro))] sz)) 0 0 (va_A [(ro, .inl (cI, 64, .inl gro))] sz) := by
  refine kz_met (Qc := fun A => va_Qv (fun _ => True) (kz_B (dC, dI) vwCl A (fun u : (Nat → Int32) => [(ro, .inl (cI, 64, .inl u))])) A) (cc := zc_D_spreadRow) (maxL := 6) (ret := none) (by decide) rfl (Nat.le_of_ble_eq_true rfl) ?_
  intro p e s m below meth c A ls F hA hdy hK hro hZ hN hl
  obtain ⟨hx, hb, hml, hr, hown, hlocks, hts, hnm⟩ := id F
  have hl : lv_has ls 6 [(0, .ref h)] := hl
  refine lv_bipush (v := (nI (16))) hx hb zd_D_spreadRow_0 (by decide) ?_
  refine lv_istore_n (lv' := [(1, .int (nI (16))), (0, .ref h)]) hx hb zd_D_spreadRow_2 rfl hl (by decide) rfl (fun ls hl => ?_)
  have lp3 : ∀ (n3 k3 : Nat) (f1 : Nat → Int32) (H : Heap) (locs : List Loc) (ls : Array Slot), k3 ≤ 64 → 64 - k3 < n3 → 16 ≤ k3 → kz_dy (dC, dI) vwCl A s.heap H locs [(ro, .inl (cI, 64, .inl f1))] → lv_has ls 6 [(1, .int (nI (k3))), (0, .ref h)] → W p l e { frames := 1, cells := 0, slots := 0, locals := 21 } s m ([.ref h] : List Value).toArray below meth c H locs 0 0 (MQ below (va_Qv (fun _ => True) (kz_B (dC, dI) vwCl A (fun u : (Nat → Int32) => [(ro, .inl (cI, 64, .inl u))])) A) ([.ref h] : List Value).toArray s 0 0 A) (F0 m 3 ls []) := by
    intro n3
    induction n3 with
    | zero => intro k3; intros; omega
    | succ n3 ih3 =>
      intro k3 f1 H locs ls hi3 hn3 hblow hdy hl
      refine lv_iload_n hx hb zd_D_spreadRow_3 rfl (lv_at hl 0 rfl) ?_
      refine lv_bipush (v := (nI (64))) hx hb zd_D_spreadRow_4 (by decide) ?_
      refine lv_icmp_ge (tgt := 106) hx hb zd_D_spreadRow_6 (by decide) (fun hc6 => ?_) (fun hc6 => ?_)
      · have hc6 : 64 ≤ k3 := (nI_leI (by omega) (by omega)).mp hc6
        exact kz_vret F (f1) hdy (trivial) zd_D_spreadRow_106
      · have hc6 : ¬ 64 ≤ k3 := fun h9 => hc6 ((nI_leI (by omega) (by omega)).mpr h9)
        refine lv_aload_n hx hb zd_D_spreadRow_9 rfl (lv_at hl 1 rfl) ?_
        refine va_get (D := (dC, dI)) (ci := 3) (v := .ref ro) (C := zR_D) (T := zT_D) (N := 3) hx hb hts (fun w h => kz_c (zi_D w h)) hown hK (hro.at hdy.2.2) 0 rfl rfl 1 (by decide) (hts _ (kz_c mw_120)) (fun _ h9 => h9) rfl zd_D_spreadRow_10 ?_
        refine lv_iload_n hx hb zd_D_spreadRow_13 rfl (lv_at hl 0 rfl) ?_
        refine lv_bipush (v := (nI (15))) hx hb zd_D_spreadRow_14 (by decide) ?_
        refine kz_isub hx hb zd_D_spreadRow_16 (pk_sub (by omega)) ?_
        refine va_iald hx hb hK hdy.1 0 0 rfl rfl (vp_in_nI (by omega) (by omega)) zd_D_spreadRow_17 ?_
        refine lv_topi (fun x2 _ => ?_)
        refine lv_istore_n (lv' := [(2, .int x2), (1, .int (nI (k3))), (0, .ref h)]) hx hb zd_D_spreadRow_18 rfl hl (by decide) rfl (fun ls hl => ?_)
        refine lv_iload_n hx hb zd_D_spreadRow_19 rfl (lv_at hl 0 rfl) ?_
        refine lv_bipush (v := (nI (7))) hx hb zd_D_spreadRow_20 (by decide) ?_
        refine kz_calli (wk := [(ro, .inl (cI, 64, .inl f1))]) (va_runS (As := [.int x2, .int (nI (7))]) (rest := []) ⟨hx, hb, hml, hown, hts⟩ (c_Dig_turn l dC dI cI cAA cB cL (x2) ((nI (7))) _) (va_cwS 2 hts (kz_g (kz_mc mw_322 (kz_mc mw_323 (kz_mc mw_42 kz_mn))) mw_324) rfl rfl rfl (by decide +kernel) ⟨Nat.le_of_ble_eq_true rfl, Nat.le_of_ble_eq_true rfl⟩) (kz_preS hdy hA hK hro hZ hN [] (by decide) rfl [] rfl (by decide) [0, 1, 2, 3] rfl (fun _ h => by cases h) (fun _ h => by cases h) rfl) rfl rfl hl.1 rfl (lv_room (Nat.le_of_ble_eq_true rfl)) zd_D_spreadRow_22 ⟨Nat.le_of_ble_eq_true rfl, Nat.le_of_ble_eq_true rfl⟩) hdy hA [] [0] rfl rfl (by decide) (by decide) (fun r u H locs hw hdy => ?_)
        obtain ⟨r3, rfl⟩ : ∃ z, z = r := ⟨_, rfl⟩
        have hdy : kz_dy (dC, dI) vwCl A s.heap H locs [(ro, .inl (cI, 64, .inl f1))] := hdy.sub [0] (by decide) rfl
        refine lv_iload_n hx hb zd_D_spreadRow_25 rfl (lv_at hl 0 rfl) ?_
        refine lv_bipush (v := (nI (18))) hx hb zd_D_spreadRow_26 (by decide) ?_
        refine kz_calli (wk := [(ro, .inl (cI, 64, .inl f1))]) (va_runS (As := [.int x2, .int (nI (18))]) (rest := [.int r3]) ⟨hx, hb, hml, hown, hts⟩ (c_Dig_turn l dC dI cI cAA cB cL (x2) ((nI (18))) _) (va_cwS 2 hts (kz_g (kz_mc mw_322 (kz_mc mw_323 (kz_mc mw_42 kz_mn))) mw_324) rfl rfl rfl (by decide +kernel) ⟨Nat.le_of_ble_eq_true rfl, Nat.le_of_ble_eq_true rfl⟩) (kz_preS hdy hA hK hro hZ hN [] (by decide) rfl [] rfl (by decide) [0, 1, 2, 3] rfl (fun _ h => by cases h) (fun _ h => by cases h) rfl) rfl rfl hl.1 rfl (lv_room (Nat.le_of_ble_eq_true rfl)) zd_D_spreadRow_28 ⟨Nat.le_of_ble_eq_true rfl, Nat.le_of_ble_eq_true rfl⟩) hdy hA [] [0] rfl rfl (by decide) (by decide) (fun r u H locs hw hdy => ?_)
        obtain ⟨r4, rfl⟩ : ∃ z, z = r := ⟨_, rfl⟩
        have hdy : kz_dy (dC, dI) vwCl A s.heap H locs [(ro, .inl (cI, 64, .inl f1))] := hdy.sub [0] (by decide) rfl
        refine lv_ixor hx hb zd_D_spreadRow_31 ?_
        refine lv_topi (fun x5 _ => ?_)
        refine lv_iload_n hx hb zd_D_spreadRow_32 rfl (lv_at hl 0 rfl) ?_
        refine lv_iconst (v := (nI (3))) hx hb zd_D_spreadRow_33 (by decide) ?_
        refine lv_iushr hx hb zd_D_spreadRow_34 rfl ?_
        refine lv_topi (fun x6 _ => ?_)
        refine lv_ixor hx hb zd_D_spreadRow_35 ?_
        refine lv_topi (fun x7 _ => ?_)
        refine lv_istore_n (lv' := [(3, .int x7), (2, .int x2), (1, .int (nI (k3))), (0, .ref h)]) hx hb zd_D_spreadRow_36 rfl hl (by decide) rfl (fun ls hl => ?_)
        refine lv_aload_n hx hb zd_D_spreadRow_37 rfl (lv_at hl 3 rfl) ?_
        refine va_get (D := (dC, dI)) (ci := 3) (v := .ref ro) (C := zR_D) (T := zT_D) (N := 3) hx hb hts (fun w h => kz_c (zi_D w h)) hown hK (hro.at hdy.2.2) 0 rfl rfl 1 (by decide) (hts _ (kz_c mw_120)) (fun _ h9 => h9) rfl zd_D_spreadRow_38 ?_
        refine lv_iload_n hx hb zd_D_spreadRow_41 rfl (lv_at hl 2 rfl) ?_
        refine lv_iconst (v := (nI (2))) hx hb zd_D_spreadRow_42 (by decide) ?_
        refine kz_isub hx hb zd_D_spreadRow_43 (pk_sub (by omega)) ?_
        refine va_iald hx hb hK hdy.1 0 0 rfl rfl (vp_in_nI (by omega) (by omega)) zd_D_spreadRow_44 ?_
        refine lv_topi (fun x8 _ => ?_)
        refine lv_istore (lv' := [(4, .int x8), (3, .int x7), (2, .int x2), (1, .int (nI (k3))), (0, .ref h)]) hx hb zd_D_spreadRow_45 hl (by decide) rfl (fun ls hl => ?_)
        refine lv_iload hx hb zd_D_spreadRow_47 (lv_at hl 0 rfl) ?_
        refine lv_bipush (v := (nI (17))) hx hb zd_D_spreadRow_49 (by decide) ?_
        refine kz_calli (wk := [(ro, .inl (cI, 64, .inl f1))]) (va_runS (As := [.int x8, .int (nI (17))]) (rest := []) ⟨hx, hb, hml, hown, hts⟩ (c_Dig_turn l dC dI cI cAA cB cL (x8) ((nI (17))) _) (va_cwS 2 hts (kz_g (kz_mc mw_322 (kz_mc mw_323 (kz_mc mw_42 kz_mn))) mw_324) rfl rfl rfl (by decide +kernel) ⟨Nat.le_of_ble_eq_true rfl, Nat.le_of_ble_eq_true rfl⟩) (kz_preS hdy hA hK hro hZ hN [] (by decide) rfl [] rfl (by decide) [0, 1, 2, 3] rfl (fun _ h => by cases h) (fun _ h => by cases h) rfl) rfl rfl hl.1 rfl (lv_room (Nat.le_of_ble_eq_true rfl)) zd_D_spreadRow_51 ⟨Nat.le_of_ble_eq_true rfl, Nat.le_of_ble_eq_true rfl⟩) hdy hA [] [0] rfl rfl (by decide) (by decide) (fun r u H locs hw hdy => ?_)
        obtain ⟨r9, rfl⟩ : ∃ z, z = r := ⟨_, rfl⟩
        have hdy : kz_dy (dC, dI) vwCl A s.heap H locs [(ro, .inl (cI, 64, .inl f1))] := hdy.sub [0] (by decide) rfl
        refine lv_iload hx hb zd_D_spreadRow_54 (lv_at hl 0 rfl) ?_
        refine lv_bipush (v := (nI (19))) hx hb zd_D_spreadRow_56 (by decide) ?_
        refine kz_calli (wk := [(ro, .inl (cI, 64, .inl f1))]) (va_runS (As := [.int x8, .int (nI (19))]) (rest := [.int r9]) ⟨hx, hb, hml, hown, hts⟩ (c_Dig_turn l dC dI cI cAA cB cL (x8) ((nI (19))) _) (va_cwS 2 hts (kz_g (kz_mc mw_322 (kz_mc mw_323 (kz_mc mw_42 kz_mn))) mw_324) rfl rfl rfl (by decide +kernel) ⟨Nat.le_of_ble_eq_true rfl, Nat.le_of_ble_eq_true rfl⟩) (kz_preS hdy hA hK hro hZ hN [] (by decide) rfl [] rfl (by decide) [0, 1, 2, 3] rfl (fun _ h => by cases h) (fun _ h => by cases h) rfl) rfl rfl hl.1 rfl (lv_room (Nat.le_of_ble_eq_true rfl)) zd_D_spreadRow_58 ⟨Nat.le_of_ble_eq_true rfl, Nat.le_of_ble_eq_true rfl⟩) hdy hA [] [0] rfl rfl (by decide) (by decide) (fun r u H locs hw hdy => ?_)
        obtain ⟨r10, rfl⟩ : ∃ z, z = r := ⟨_, rfl⟩
        have hdy : kz_dy (dC, dI) vwCl A s.heap H locs [(ro, .inl (cI, 64, .inl f1))] := hdy.sub [0] (by decide) rfl
        refine lv_ixor hx hb zd_D_spreadRow_61 ?_
        refine lv_topi (fun x11 _ => ?_)
        refine lv_iload hx hb zd_D_spreadRow_62 (lv_at hl 0 rfl) ?_
        refine lv_bipush (v := (nI (10))) hx hb zd_D_spreadRow_64 (by decide) ?_
        refine lv_iushr hx hb zd_D_spreadRow_66 rfl ?_
        refine lv_topi (fun x12 _ => ?_)
        refine lv_ixor hx hb zd_D_spreadRow_67 ?_
        refine lv_topi (fun x13 _ => ?_)
        refine lv_istore (lv' := [(5, .int x13), (4, .int x8), (3, .int x7), (2, .int x2), (1, .int (nI (k3))), (0, .ref h)]) hx hb zd_D_spreadRow_68 hl (by decide) rfl (fun ls hl => ?_)
        refine lv_aload_n hx hb zd_D_spreadRow_70 rfl (lv_at hl 5 rfl) ?_
        refine va_get (D := (dC, dI)) (ci := 3) (v := .ref ro) (C := zR_D) (T := zT_D) (N := 3) hx hb hts (fun w h => kz_c (zi_D w h)) hown hK (hro.at hdy.2.2) 0 rfl rfl 1 (by decide) (hts _ (kz_c mw_120)) (fun _ h9 => h9) rfl zd_D_spreadRow_71 ?_
        refine lv_iload_n hx hb zd_D_spreadRow_74 rfl (lv_at hl 4 rfl) ?_
        refine lv_aload_n hx hb zd_D_spreadRow_75 rfl (lv_at hl 5 rfl) ?_
        refine va_get (D := (dC, dI)) (ci := 3) (v := .ref ro) (C := zR_D) (T := zT_D) (N := 3) hx hb hts (fun w h => kz_c (zi_D w h)) hown hK (hro.at hdy.2.2) 0 rfl rfl 1 (by decide) (hts _ (kz_c mw_120)) (fun _ h9 => h9) rfl zd_D_spreadRow_76 ?_
        refine lv_iload_n hx hb zd_D_spreadRow_79 rfl (lv_at hl 4 rfl) ?_
        refine lv_bipush (v := (nI (16))) hx hb zd_D_spreadRow_80 (by decide) ?_
        refine kz_isub hx hb zd_D_spreadRow_82 (pk_sub (by omega)) ?_
        refine va_iald hx hb hK hdy.1 0 0 rfl rfl (vp_in_nI (by omega) (by omega)) zd_D_spreadRow_83 ?_
        refine lv_topi (fun x14 _ => ?_)
        refine lv_iload_n hx hb zd_D_spreadRow_84 rfl (lv_at hl 2 rfl) ?_
        refine lv_iadd hx hb zd_D_spreadRow_85 ?_
        refine lv_topi (fun x15 _ => ?_)
        refine lv_aload_n hx hb zd_D_spreadRow_86 rfl (lv_at hl 5 rfl) ?_
        refine va_get (D := (dC, dI)) (ci := 3) (v := .ref ro) (C := zR_D) (T := zT_D) (N := 3) hx hb hts (fun w h => kz_c (zi_D w h)) hown hK (hro.at hdy.2.2) 0 rfl rfl 1 (by decide) (hts _ (kz_c mw_120)) (fun _ h9 => h9) rfl zd_D_spreadRow_87 ?_
        refine lv_iload_n hx hb zd_D_spreadRow_90 rfl (lv_at hl 4 rfl) ?_
        refine lv_bipush (v := (nI (7))) hx hb zd_D_spreadRow_91 (by decide) ?_
        refine kz_isub hx hb zd_D_spreadRow_93 (pk_sub (by omega)) ?_
        refine va_iald hx hb hK hdy.1 0 0 rfl rfl (vp_in_nI (by omega) (by omega)) zd_D_spreadRow_94 ?_
        refine lv_topi (fun x16 _ => ?_)
        refine lv_iadd hx hb zd_D_spreadRow_95 ?_
        refine lv_topi (fun x17 _ => ?_)
        refine lv_iload hx hb zd_D_spreadRow_96 (lv_at hl 0 rfl) ?_
        refine lv_iadd hx hb zd_D_spreadRow_98 ?_
        refine lv_topi (fun x18 _ => ?_)
        refine va_iast hx hb hK hdy.1 hdy.2.1 hdy.2.2 0 0 rfl rfl (vp_in_nI (by omega) (by omega)) zd_D_spreadRow_99 (fun H locs hP hD hS => ?_)
        obtain ⟨f19, hdy⟩ : ∃ f19 : Nat → Int32, kz_dy (dC, dI) vwCl A s.heap H locs [(ro, .inl (cI, 64, .inl f19))] := ⟨_, hP, hD, hS⟩
        refine lv_iinc (v := (nI (k3 + 1))) (lv' := [(1, .int (nI (k3 + 1))), (5, .int x13), (4, .int x8), (3, .int x7), (2, .int x2), (0, .ref h)]) hx hb zd_D_spreadRow_100 hl (k := 4) rfl (nI_1 _) (by decide) rfl (fun ls hl => ?_)
        refine lv_goto (tgt := 3) hx hb zd_D_spreadRow_103 (by decide) ?_
        exact ih3 (k3 + 1) f19 _ _ _ (by omega) (by omega) (by omega) hdy (lv_sub hl [0, 5] rfl)
  exact lp3 (64 - 16 + 1) 16 gro _ _ _ (by omega) (by omega) (by omega) hdy (lv_sub hl [0, 1] rfl)

set_option maxHeartbeats 4000000 in
set_option maxRecDepth 100000 in
/-- KeyMeeting$Digest.mixRow()V -/
theorem c_Dig_mixRow (l : Launch) (dC : Nat → ClassId) (dI : Nat → Nat → Nat) (cI cAA cB cL : ClassId) (su ro h roots : Nat) (gsu : Nat → Int32) (gro : Nat → Int32) (ct : Nat) (groots : Nat → Int32) (sz : Nat) : Met l zy_D_mixRow zw_D_mixRow { frames := 2, cells := 0, slots := 0, locals := 46 } (kz_Pc (dC, dI) vwCl [(cI, .int), (cAA, .array .int), (cB, .byte), (cL, .long)] [("KeyMeeting$Digest", "ROOTS", "[I", .ref roots)] [] [.ref h] [(su, .inl (cI, 8, .inl gsu)), (ro, .inl (cI, 64, .inl gro))] [(h, .inr (3, [.ref su, .ref ro, .int (nI (ct))])), (roots, .inl (cI, 64, .inl groots))] sz) (va_Qv (fun _ => True) (kz_B (dC, dI) vwCl (va_A [(su, .inl (cI, 8, .inl gsu)), (ro, .inl (cI, 64, .inl gro))] sz) (fun u : (Nat → Int32) × (Nat → Int32) => [(su, .inl (cI, 8, .inl u.1)), (ro, .inl (cI, 64, .inl u.2))])) (va_A [(su, .inl (cI, 8, .inl gsu)), (ro, .inl (cI, 64, .inl gro))] sz)) 0 0 (va_A [(su, .inl (cI, 8, .inl gsu)), (ro, .inl (cI, 64, .inl gro))] sz) := by
  refine kz_met (Qc := fun A => va_Qv (fun _ => True) (kz_B (dC, dI) vwCl A (fun u : (Nat → Int32) × (Nat → Int32) => [(su, .inl (cI, 8, .inl u.1)), (ro, .inl (cI, 64, .inl u.2))])) A) (cc := zc_D_mixRow) (maxL := 12) (ret := none) (by decide) rfl (Nat.le_of_ble_eq_true rfl) ?_
  intro p e s m below meth c A ls F hA hdy hK hro hZ hN hl
  obtain ⟨hx, hb, hml, hr, hown, hlocks, hts, hnm⟩ := id F
  have hl : lv_has ls 12 [(0, .ref h)] := hl
  refine lv_aload_n hx hb zd_D_mixRow_0 rfl (lv_at hl 0 rfl) ?_
  refine kz_callv (wk := [(su, .inl (cI, 8, .inl gsu))]) (va_runV (As := []) (rest := []) ⟨hx, hb, hml, hown, hts⟩ (c_Dig_spreadRow l dC dI cI cAA cB cL ro h su gro ct _) (cwV 0 hts (kz_g (kz_mc mw_318 (kz_mc mw_320 (kz_mc mw_15 (kz_mc mw_42 kz_mn)))) mw_321) rfl rfl rfl (by decide +kernel) ⟨Nat.le_of_ble_eq_true rfl, Nat.le_of_ble_eq_true rfl⟩) (kz_preVr hdy hA hK hro hZ hN [1] (by decide) rfl [(true, 0)] rfl (by decide) [0, 1, 2, 3] rfl (fun _ h => by cases h) (fun _ h => by cases h) rfl (ci := 3) (q0 := 0) rfl rfl rfl) rfl rfl hl.1 rfl (lv_room (Nat.le_of_ble_eq_true rfl)) zd_D_mixRow_1 ⟨Nat.le_of_ble_eq_true rfl, Nat.le_of_ble_eq_true rfl⟩) hdy hA [1] [0] rfl rfl (by decide) (by decide) (fun u H locs hw hdy => ?_)
  obtain ⟨f1, rfl⟩ : ∃ z, z = u := ⟨_, rfl⟩
  have hdy : kz_dy (dC, dI) vwCl A s.heap H locs [(su, .inl (cI, 8, .inl gsu)), (ro, .inl (cI, 64, .inl f1))] := hdy.sub [0, 1] (by decide) rfl
  refine lv_aload_n hx hb zd_D_mixRow_4 rfl (lv_at hl 0 rfl) ?_
  refine va_get (D := (dC, dI)) (ci := 3) (v := .ref su) (C := zR_D) (T := zT_D) (N := 3) hx hb hts (fun w h => kz_c (zi_D w h)) hown hK (hro.at hdy.2.2) 0 rfl rfl 0 (by decide) (hts _ (kz_c mw_119)) (fun _ h9 => h9) rfl zd_D_mixRow_5 ?_
  refine lv_iconst (v := (nI (0))) hx hb zd_D_mixRow_8 (by decide) ?_
  refine va_iald hx hb hK hdy.1 0 0 rfl rfl (vp_in_nI (by omega) (by omega)) zd_D_mixRow_9 ?_
  refine lv_topi (fun x2 _ => ?_)
  refine lv_istore_n (lv' := [(1, .int x2), (0, .ref h)]) hx hb zd_D_mixRow_10 rfl hl (by decide) rfl (fun ls hl => ?_)
  refine lv_aload_n hx hb zd_D_mixRow_11 rfl (lv_at hl 1 rfl) ?_
  refine va_get (D := (dC, dI)) (ci := 3) (v := .ref su) (C := zR_D) (T := zT_D) (N := 3) hx hb hts (fun w h => kz_c (zi_D w h)) hown hK (hro.at hdy.2.2) 0 rfl rfl 0 (by decide) (hts _ (kz_c mw_119)) (fun _ h9 => h9) rfl zd_D_mixRow_12 ?_
  refine lv_iconst (v := (nI (1))) hx hb zd_D_mixRow_15 (by decide) ?_
  refine va_iald hx hb hK hdy.1 0 0 rfl rfl (vp_in_nI (by omega) (by omega)) zd_D_mixRow_16 ?_
  refine lv_topi (fun x3 _ => ?_)
  refine lv_istore_n (lv' := [(2, .int x3), (1, .int x2), (0, .ref h)]) hx hb zd_D_mixRow_17 rfl hl (by decide) rfl (fun ls hl => ?_)
  refine lv_aload_n hx hb zd_D_mixRow_18 rfl (lv_at hl 2 rfl) ?_
  refine va_get (D := (dC, dI)) (ci := 3) (v := .ref su) (C := zR_D) (T := zT_D) (N := 3) hx hb hts (fun w h => kz_c (zi_D w h)) hown hK (hro.at hdy.2.2) 0 rfl rfl 0 (by decide) (hts _ (kz_c mw_119)) (fun _ h9 => h9) rfl zd_D_mixRow_19 ?_
  refine lv_iconst (v := (nI (2))) hx hb zd_D_mixRow_22 (by decide) ?_
  refine va_iald hx hb hK hdy.1 0 0 rfl rfl (vp_in_nI (by omega) (by omega)) zd_D_mixRow_23 ?_
  refine lv_topi (fun x4 _ => ?_)
  refine lv_istore_n (lv' := [(3, .int x4), (2, .int x3), (1, .int x2), (0, .ref h)]) hx hb zd_D_mixRow_24 rfl hl (by decide) rfl (fun ls hl => ?_)
  refine lv_aload_n hx hb zd_D_mixRow_25 rfl (lv_at hl 3 rfl) ?_
  refine va_get (D := (dC, dI)) (ci := 3) (v := .ref su) (C := zR_D) (T := zT_D) (N := 3) hx hb hts (fun w h => kz_c (zi_D w h)) hown hK (hro.at hdy.2.2) 0 rfl rfl 0 (by decide) (hts _ (kz_c mw_119)) (fun _ h9 => h9) rfl zd_D_mixRow_26 ?_
  refine lv_iconst (v := (nI (3))) hx hb zd_D_mixRow_29 (by decide) ?_
  refine va_iald hx hb hK hdy.1 0 0 rfl rfl (vp_in_nI (by omega) (by omega)) zd_D_mixRow_30 ?_
  refine lv_topi (fun x5 _ => ?_)
  refine lv_istore (lv' := [(4, .int x5), (3, .int x4), (2, .int x3), (1, .int x2), (0, .ref h)]) hx hb zd_D_mixRow_31 hl (by decide) rfl (fun ls hl => ?_)
  refine lv_aload_n hx hb zd_D_mixRow_33 rfl (lv_at hl 4 rfl) ?_
  refine va_get (D := (dC, dI)) (ci := 3) (v := .ref su) (C := zR_D) (T := zT_D) (N := 3) hx hb hts (fun w h => kz_c (zi_D w h)) hown hK (hro.at hdy.2.2) 0 rfl rfl 0 (by decide) (hts _ (kz_c mw_119)) (fun _ h9 => h9) rfl zd_D_mixRow_34 ?_
  refine lv_iconst (v := (nI (4))) hx hb zd_D_mixRow_37 (by decide) ?_
  refine va_iald hx hb hK hdy.1 0 0 rfl rfl (vp_in_nI (by omega) (by omega)) zd_D_mixRow_38 ?_
  refine lv_topi (fun x6 _ => ?_)
  refine lv_istore (lv' := [(5, .int x6), (4, .int x5), (3, .int x4), (2, .int x3), (1, .int x2), (0, .ref h)]) hx hb zd_D_mixRow_39 hl (by decide) rfl (fun ls hl => ?_)
  refine lv_aload_n hx hb zd_D_mixRow_41 rfl (lv_at hl 5 rfl) ?_
  refine va_get (D := (dC, dI)) (ci := 3) (v := .ref su) (C := zR_D) (T := zT_D) (N := 3) hx hb hts (fun w h => kz_c (zi_D w h)) hown hK (hro.at hdy.2.2) 0 rfl rfl 0 (by decide) (hts _ (kz_c mw_119)) (fun _ h9 => h9) rfl zd_D_mixRow_42 ?_
  refine lv_iconst (v := (nI (5))) hx hb zd_D_mixRow_45 (by decide) ?_
  refine va_iald hx hb hK hdy.1 0 0 rfl rfl (vp_in_nI (by omega) (by omega)) zd_D_mixRow_46 ?_
  refine lv_topi (fun x7 _ => ?_)
  refine lv_istore (lv' := [(6, .int x7), (5, .int x6), (4, .int x5), (3, .int x4), (2, .int x3), (1, .int x2), (0, .ref h)]) hx hb zd_D_mixRow_47 hl (by decide) rfl (fun ls hl => ?_)
  refine lv_aload_n hx hb zd_D_mixRow_49 rfl (lv_at hl 6 rfl) ?_
  refine va_get (D := (dC, dI)) (ci := 3) (v := .ref su) (C := zR_D) (T := zT_D) (N := 3) hx hb hts (fun w h => kz_c (zi_D w h)) hown hK (hro.at hdy.2.2) 0 rfl rfl 0 (by decide) (hts _ (kz_c mw_119)) (fun _ h9 => h9) rfl zd_D_mixRow_50 ?_
  refine lv_bipush (v := (nI (6))) hx hb zd_D_mixRow_53 (by decide) ?_
  refine va_iald hx hb hK hdy.1 0 0 rfl rfl (vp_in_nI (by omega) (by omega)) zd_D_mixRow_55 ?_
  refine lv_topi (fun x8 _ => ?_)
  refine lv_istore (lv' := [(7, .int x8), (6, .int x7), (5, .int x6), (4, .int x5), (3, .int x4), (2, .int x3), (1, .int x2), (0, .ref h)]) hx hb zd_D_mixRow_56 hl (by decide) rfl (fun ls hl => ?_)
  refine lv_aload_n hx hb zd_D_mixRow_58 rfl (lv_at hl 7 rfl) ?_
  refine va_get (D := (dC, dI)) (ci := 3) (v := .ref su) (C := zR_D) (T := zT_D) (N := 3) hx hb hts (fun w h => kz_c (zi_D w h)) hown hK (hro.at hdy.2.2) 0 rfl rfl 0 (by decide) (hts _ (kz_c mw_119)) (fun _ h9 => h9) rfl zd_D_mixRow_59 ?_
  refine lv_bipush (v := (nI (7))) hx hb zd_D_mixRow_62 (by decide) ?_
  refine va_iald hx hb hK hdy.1 0 0 rfl rfl (vp_in_nI (by omega) (by omega)) zd_D_mixRow_64 ?_
  refine lv_topi (fun x9 _ => ?_)
  refine lv_istore (lv' := [(8, .int x9), (7, .int x8), (6, .int x7), (5, .int x6), (4, .int x5), (3, .int x4), (2, .int x3), (1, .int x2), (0, .ref h)]) hx hb zd_D_mixRow_65 hl (by decide) rfl (fun ls hl => ?_)
  refine lv_iconst (v := (nI (0))) hx hb zd_D_mixRow_67 (by decide) ?_
  refine lv_istore (lv' := [(9, .int (nI (0))), (8, .int x9), (7, .int x8), (6, .int x7), (5, .int x6), (4, .int x5), (3, .int x4), (2, .int x3), (1, .int x2), (0, .ref h)]) hx hb zd_D_mixRow_68 hl (by decide) rfl (fun ls hl => ?_)
  have lp70 : ∀ (n70 k70 : Nat) (x10 : Int32) (x11 : Int32) (x12 : Int32) (x13 : Int32) (x14 : Int32) (x15 : Int32) (x16 : Int32) (x17 : Int32) (f18 : Nat → Int32) (f19 : Nat → Int32) (H : Heap) (locs : List Loc) (ls : Array Slot), k70 ≤ 64 → 64 - k70 < n70 → kz_dy (dC, dI) vwCl A s.heap H locs [(su, .inl (cI, 8, .inl f18)), (ro, .inl (cI, 64, .inl f19))] → lv_has ls 12 [(9, .int (nI (k70))), (8, .int x10), (7, .int x11), (6, .int x12), (5, .int x13), (4, .int x14), (3, .int x15), (2, .int x16), (1, .int x17), (0, .ref h)] → W p l e { frames := 2, cells := 0, slots := 0, locals := 46 } s m ([.ref h] : List Value).toArray below meth c H locs 0 0 (MQ below (va_Qv (fun _ => True) (kz_B (dC, dI) vwCl A (fun u : (Nat → Int32) × (Nat → Int32) => [(su, .inl (cI, 8, .inl u.1)), (ro, .inl (cI, 64, .inl u.2))])) A) ([.ref h] : List Value).toArray s 0 0 A) (F0 m 70 ls []) := by
    intro n70
    induction n70 with
    | zero => intro k70; intros; omega
    | succ n70 ih70 =>
      intro k70 x10 x11 x12 x13 x14 x15 x16 x17 f18 f19 H locs ls hi70 hn70 hdy hl
      refine lv_iload hx hb zd_D_mixRow_70 (lv_at hl 0 rfl) ?_
      refine lv_bipush (v := (nI (64))) hx hb zd_D_mixRow_72 (by decide) ?_
      refine lv_icmp_ge (tgt := 205) hx hb zd_D_mixRow_74 (by decide) (fun hc74 => ?_) (fun hc74 => ?_)
      · have hc74 : 64 ≤ k70 := (nI_leI (by omega) (by omega)).mp hc74
        refine lv_aload_n hx hb zd_D_mixRow_205 rfl (lv_at hl 9 rfl) ?_
        refine va_get (D := (dC, dI)) (ci := 3) (v := .ref su) (C := zR_D) (T := zT_D) (N := 3) hx hb hts (fun w h => kz_c (zi_D w h)) hown hK (hro.at hdy.2.2) 0 rfl rfl 0 (by decide) (hts _ (kz_c mw_119)) (fun _ h9 => h9) rfl zd_D_mixRow_206 ?_
        refine lv_iconst (v := (nI (0))) hx hb zd_D_mixRow_209 (by decide) ?_
        refine lv_dup2_11 hx hb zd_D_mixRow_210 rfl rfl ?_
        refine va_iald hx hb hK hdy.1 0 0 rfl rfl (vp_in_nI (by omega) (by omega)) zd_D_mixRow_211 ?_
        refine lv_topi (fun x20 _ => ?_)
        refine lv_iload_n hx hb zd_D_mixRow_212 rfl (lv_at hl 8 rfl) ?_
        refine lv_iadd hx hb zd_D_mixRow_213 ?_
        refine lv_topi (fun x21 _ => ?_)
        refine va_iast hx hb hK hdy.1 hdy.2.1 hdy.2.2 0 0 rfl rfl (vp_in_nI (by omega) (by omega)) zd_D_mixRow_214 (fun H locs hP hD hS => ?_)
        obtain ⟨f22, hdy⟩ : ∃ f22 : Nat → Int32, kz_dy (dC, dI) vwCl A s.heap H locs [(su, .inl (cI, 8, .inl f22)), (ro, .inl (cI, 64, .inl f19))] := ⟨_, hP, hD, hS⟩
        refine lv_aload_n hx hb zd_D_mixRow_215 rfl (lv_at hl 9 rfl) ?_
        refine va_get (D := (dC, dI)) (ci := 3) (v := .ref su) (C := zR_D) (T := zT_D) (N := 3) hx hb hts (fun w h => kz_c (zi_D w h)) hown hK (hro.at hdy.2.2) 0 rfl rfl 0 (by decide) (hts _ (kz_c mw_119)) (fun _ h9 => h9) rfl zd_D_mixRow_216 ?_
        refine lv_iconst (v := (nI (1))) hx hb zd_D_mixRow_219 (by decide) ?_
        refine lv_dup2_11 hx hb zd_D_mixRow_220 rfl rfl ?_
        refine va_iald hx hb hK hdy.1 0 0 rfl rfl (vp_in_nI (by omega) (by omega)) zd_D_mixRow_221 ?_
        refine lv_topi (fun x23 _ => ?_)
        refine lv_iload_n hx hb zd_D_mixRow_222 rfl (lv_at hl 7 rfl) ?_
        refine lv_iadd hx hb zd_D_mixRow_223 ?_
        refine lv_topi (fun x24 _ => ?_)
        refine va_iast hx hb hK hdy.1 hdy.2.1 hdy.2.2 0 0 rfl rfl (vp_in_nI (by omega) (by omega)) zd_D_mixRow_224 (fun H locs hP hD hS => ?_)
        obtain ⟨f25, hdy⟩ : ∃ f25 : Nat → Int32, kz_dy (dC, dI) vwCl A s.heap H locs [(su, .inl (cI, 8, .inl f25)), (ro, .inl (cI, 64, .inl f19))] := ⟨_, hP, hD, hS⟩
        refine lv_aload_n hx hb zd_D_mixRow_225 rfl (lv_at hl 9 rfl) ?_
        refine va_get (D := (dC, dI)) (ci := 3) (v := .ref su) (C := zR_D) (T := zT_D) (N := 3) hx hb hts (fun w h => kz_c (zi_D w h)) hown hK (hro.at hdy.2.2) 0 rfl rfl 0 (by decide) (hts _ (kz_c mw_119)) (fun _ h9 => h9) rfl zd_D_mixRow_226 ?_
        refine lv_iconst (v := (nI (2))) hx hb zd_D_mixRow_229 (by decide) ?_
        refine lv_dup2_11 hx hb zd_D_mixRow_230 rfl rfl ?_
        refine va_iald hx hb hK hdy.1 0 0 rfl rfl (vp_in_nI (by omega) (by omega)) zd_D_mixRow_231 ?_
        refine lv_topi (fun x26 _ => ?_)
        refine lv_iload_n hx hb zd_D_mixRow_232 rfl (lv_at hl 6 rfl) ?_
        refine lv_iadd hx hb zd_D_mixRow_233 ?_
        refine lv_topi (fun x27 _ => ?_)
        refine va_iast hx hb hK hdy.1 hdy.2.1 hdy.2.2 0 0 rfl rfl (vp_in_nI (by omega) (by omega)) zd_D_mixRow_234 (fun H locs hP hD hS => ?_)
        obtain ⟨f28, hdy⟩ : ∃ f28 : Nat → Int32, kz_dy (dC, dI) vwCl A s.heap H locs [(su, .inl (cI, 8, .inl f28)), (ro, .inl (cI, 64, .inl f19))] := ⟨_, hP, hD, hS⟩
        refine lv_aload_n hx hb zd_D_mixRow_235 rfl (lv_at hl 9 rfl) ?_
        refine va_get (D := (dC, dI)) (ci := 3) (v := .ref su) (C := zR_D) (T := zT_D) (N := 3) hx hb hts (fun w h => kz_c (zi_D w h)) hown hK (hro.at hdy.2.2) 0 rfl rfl 0 (by decide) (hts _ (kz_c mw_119)) (fun _ h9 => h9) rfl zd_D_mixRow_236 ?_
        refine lv_iconst (v := (nI (3))) hx hb zd_D_mixRow_239 (by decide) ?_
        refine lv_dup2_11 hx hb zd_D_mixRow_240 rfl rfl ?_
        refine va_iald hx hb hK hdy.1 0 0 rfl rfl (vp_in_nI (by omega) (by omega)) zd_D_mixRow_241 ?_
        refine lv_topi (fun x29 _ => ?_)
        refine lv_iload hx hb zd_D_mixRow_242 (lv_at hl 5 rfl) ?_
        refine lv_iadd hx hb zd_D_mixRow_244 ?_
        refine lv_topi (fun x30 _ => ?_)
        refine va_iast hx hb hK hdy.1 hdy.2.1 hdy.2.2 0 0 rfl rfl (vp_in_nI (by omega) (by omega)) zd_D_mixRow_245 (fun H locs hP hD hS => ?_)
        obtain ⟨f31, hdy⟩ : ∃ f31 : Nat → Int32, kz_dy (dC, dI) vwCl A s.heap H locs [(su, .inl (cI, 8, .inl f31)), (ro, .inl (cI, 64, .inl f19))] := ⟨_, hP, hD, hS⟩
        refine lv_aload_n hx hb zd_D_mixRow_246 rfl (lv_at hl 9 rfl) ?_
        refine va_get (D := (dC, dI)) (ci := 3) (v := .ref su) (C := zR_D) (T := zT_D) (N := 3) hx hb hts (fun w h => kz_c (zi_D w h)) hown hK (hro.at hdy.2.2) 0 rfl rfl 0 (by decide) (hts _ (kz_c mw_119)) (fun _ h9 => h9) rfl zd_D_mixRow_247 ?_
        refine lv_iconst (v := (nI (4))) hx hb zd_D_mixRow_250 (by decide) ?_
        refine lv_dup2_11 hx hb zd_D_mixRow_251 rfl rfl ?_
        refine va_iald hx hb hK hdy.1 0 0 rfl rfl (vp_in_nI (by omega) (by omega)) zd_D_mixRow_252 ?_
        refine lv_topi (fun x32 _ => ?_)
        refine lv_iload hx hb zd_D_mixRow_253 (lv_at hl 4 rfl) ?_
        refine lv_iadd hx hb zd_D_mixRow_255 ?_
        refine lv_topi (fun x33 _ => ?_)
        refine va_iast hx hb hK hdy.1 hdy.2.1 hdy.2.2 0 0 rfl rfl (vp_in_nI (by omega) (by omega)) zd_D_mixRow_256 (fun H locs hP hD hS => ?_)
        obtain ⟨f34, hdy⟩ : ∃ f34 : Nat → Int32, kz_dy (dC, dI) vwCl A s.heap H locs [(su, .inl (cI, 8, .inl f34)), (ro, .inl (cI, 64, .inl f19))] := ⟨_, hP, hD, hS⟩
        refine lv_aload_n hx hb zd_D_mixRow_257 rfl (lv_at hl 9 rfl) ?_
        refine va_get (D := (dC, dI)) (ci := 3) (v := .ref su) (C := zR_D) (T := zT_D) (N := 3) hx hb hts (fun w h => kz_c (zi_D w h)) hown hK (hro.at hdy.2.2) 0 rfl rfl 0 (by decide) (hts _ (kz_c mw_119)) (fun _ h9 => h9) rfl zd_D_mixRow_258 ?_
        refine lv_iconst (v := (nI (5))) hx hb zd_D_mixRow_261 (by decide) ?_
        refine lv_dup2_11 hx hb zd_D_mixRow_262 rfl rfl ?_
        refine va_iald hx hb hK hdy.1 0 0 rfl rfl (vp_in_nI (by omega) (by omega)) zd_D_mixRow_263 ?_
        refine lv_topi (fun x35 _ => ?_)
        refine lv_iload hx hb zd_D_mixRow_264 (lv_at hl 3 rfl) ?_
        refine lv_iadd hx hb zd_D_mixRow_266 ?_
        refine lv_topi (fun x36 _ => ?_)
        refine va_iast hx hb hK hdy.1 hdy.2.1 hdy.2.2 0 0 rfl rfl (vp_in_nI (by omega) (by omega)) zd_D_mixRow_267 (fun H locs hP hD hS => ?_)
        obtain ⟨f37, hdy⟩ : ∃ f37 : Nat → Int32, kz_dy (dC, dI) vwCl A s.heap H locs [(su, .inl (cI, 8, .inl f37)), (ro, .inl (cI, 64, .inl f19))] := ⟨_, hP, hD, hS⟩
        refine lv_aload_n hx hb zd_D_mixRow_268 rfl (lv_at hl 9 rfl) ?_
        refine va_get (D := (dC, dI)) (ci := 3) (v := .ref su) (C := zR_D) (T := zT_D) (N := 3) hx hb hts (fun w h => kz_c (zi_D w h)) hown hK (hro.at hdy.2.2) 0 rfl rfl 0 (by decide) (hts _ (kz_c mw_119)) (fun _ h9 => h9) rfl zd_D_mixRow_269 ?_
        refine lv_bipush (v := (nI (6))) hx hb zd_D_mixRow_272 (by decide) ?_
        refine lv_dup2_11 hx hb zd_D_mixRow_274 rfl rfl ?_
        refine va_iald hx hb hK hdy.1 0 0 rfl rfl (vp_in_nI (by omega) (by omega)) zd_D_mixRow_275 ?_
        refine lv_topi (fun x38 _ => ?_)
        refine lv_iload hx hb zd_D_mixRow_276 (lv_at hl 2 rfl) ?_
        refine lv_iadd hx hb zd_D_mixRow_278 ?_
        refine lv_topi (fun x39 _ => ?_)
        refine va_iast hx hb hK hdy.1 hdy.2.1 hdy.2.2 0 0 rfl rfl (vp_in_nI (by omega) (by omega)) zd_D_mixRow_279 (fun H locs hP hD hS => ?_)
        obtain ⟨f40, hdy⟩ : ∃ f40 : Nat → Int32, kz_dy (dC, dI) vwCl A s.heap H locs [(su, .inl (cI, 8, .inl f40)), (ro, .inl (cI, 64, .inl f19))] := ⟨_, hP, hD, hS⟩
        refine lv_aload_n hx hb zd_D_mixRow_280 rfl (lv_at hl 9 rfl) ?_
        refine va_get (D := (dC, dI)) (ci := 3) (v := .ref su) (C := zR_D) (T := zT_D) (N := 3) hx hb hts (fun w h => kz_c (zi_D w h)) hown hK (hro.at hdy.2.2) 0 rfl rfl 0 (by decide) (hts _ (kz_c mw_119)) (fun _ h9 => h9) rfl zd_D_mixRow_281 ?_
        refine lv_bipush (v := (nI (7))) hx hb zd_D_mixRow_284 (by decide) ?_
        refine lv_dup2_11 hx hb zd_D_mixRow_286 rfl rfl ?_
        refine va_iald hx hb hK hdy.1 0 0 rfl rfl (vp_in_nI (by omega) (by omega)) zd_D_mixRow_287 ?_
        refine lv_topi (fun x41 _ => ?_)
        refine lv_iload hx hb zd_D_mixRow_288 (lv_at hl 1 rfl) ?_
        refine lv_iadd hx hb zd_D_mixRow_290 ?_
        refine lv_topi (fun x42 _ => ?_)
        refine va_iast hx hb hK hdy.1 hdy.2.1 hdy.2.2 0 0 rfl rfl (vp_in_nI (by omega) (by omega)) zd_D_mixRow_291 (fun H locs hP hD hS => ?_)
        obtain ⟨f43, hdy⟩ : ∃ f43 : Nat → Int32, kz_dy (dC, dI) vwCl A s.heap H locs [(su, .inl (cI, 8, .inl f43)), (ro, .inl (cI, 64, .inl f19))] := ⟨_, hP, hD, hS⟩
        exact kz_vret F (f43, f19) hdy (trivial) zd_D_mixRow_292
      · have hc74 : ¬ 64 ≤ k70 := fun h9 => hc74 ((nI_leI (by omega) (by omega)).mpr h9)
        refine lv_iload hx hb zd_D_mixRow_77 (lv_at hl 1 rfl) ?_
        refine lv_iload hx hb zd_D_mixRow_79 (lv_at hl 4 rfl) ?_
        refine lv_bipush (v := (nI (6))) hx hb zd_D_mixRow_81 (by decide) ?_
        refine kz_calli (wk := [(su, .inl (cI, 8, .inl f18)), (ro, .inl (cI, 64, .inl f19))]) (va_runS (As := [.int x13, .int (nI (6))]) (rest := [.int x10]) ⟨hx, hb, hml, hown, hts⟩ (c_Dig_turn l dC dI cI cAA cB cL (x13) ((nI (6))) _) (va_cwS 2 hts (kz_g (kz_mc mw_322 (kz_mc mw_323 (kz_mc mw_42 kz_mn))) mw_324) rfl rfl rfl (by decide +kernel) ⟨Nat.le_of_ble_eq_true rfl, Nat.le_of_ble_eq_true rfl⟩) (kz_preS hdy hA hK hro hZ hN [] (by decide) rfl [] rfl (by decide) [0, 1, 2, 3] rfl (fun _ h => by cases h) (fun _ h => by cases h) rfl) rfl rfl hl.1 rfl (lv_room (Nat.le_of_ble_eq_true rfl)) zd_D_mixRow_83 ⟨Nat.le_of_ble_eq_true rfl, Nat.le_of_ble_eq_true rfl⟩) hdy hA [] [0, 1] rfl rfl (by decide) (by decide) (fun r u H locs hw hdy => ?_)
        obtain ⟨r44, rfl⟩ : ∃ z, z = r := ⟨_, rfl⟩
        have hdy : kz_dy (dC, dI) vwCl A s.heap H locs [(su, .inl (cI, 8, .inl f18)), (ro, .inl (cI, 64, .inl f19))] := hdy.sub [0, 1] (by decide) rfl
        refine lv_iload hx hb zd_D_mixRow_86 (lv_at hl 4 rfl) ?_
        refine lv_bipush (v := (nI (11))) hx hb zd_D_mixRow_88 (by decide) ?_
        refine kz_calli (wk := [(su, .inl (cI, 8, .inl f18)), (ro, .inl (cI, 64, .inl f19))]) (va_runS (As := [.int x13, .int (nI (11))]) (rest := [.int r44, .int x10]) ⟨hx, hb, hml, hown, hts⟩ (c_Dig_turn l dC dI cI cAA cB cL (x13) ((nI (11))) _) (va_cwS 2 hts (kz_g (kz_mc mw_322 (kz_mc mw_323 (kz_mc mw_42 kz_mn))) mw_324) rfl rfl rfl (by decide +kernel) ⟨Nat.le_of_ble_eq_true rfl, Nat.le_of_ble_eq_true rfl⟩) (kz_preS hdy hA hK hro hZ hN [] (by decide) rfl [] rfl (by decide) [0, 1, 2, 3] rfl (fun _ h => by cases h) (fun _ h => by cases h) rfl) rfl rfl hl.1 rfl (lv_room (Nat.le_of_ble_eq_true rfl)) zd_D_mixRow_90 ⟨Nat.le_of_ble_eq_true rfl, Nat.le_of_ble_eq_true rfl⟩) hdy hA [] [0, 1] rfl rfl (by decide) (by decide) (fun r u H locs hw hdy => ?_)
        obtain ⟨r45, rfl⟩ : ∃ z, z = r := ⟨_, rfl⟩
        have hdy : kz_dy (dC, dI) vwCl A s.heap H locs [(su, .inl (cI, 8, .inl f18)), (ro, .inl (cI, 64, .inl f19))] := hdy.sub [0, 1] (by decide) rfl
        refine lv_ixor hx hb zd_D_mixRow_93 ?_
        refine lv_topi (fun x46 _ => ?_)
        refine lv_iload hx hb zd_D_mixRow_94 (lv_at hl 4 rfl) ?_
        refine lv_bipush (v := (nI (25))) hx hb zd_D_mixRow_96 (by decide) ?_
        refine kz_calli (wk := [(su, .inl (cI, 8, .inl f18)), (ro, .inl (cI, 64, .inl f19))]) (va_runS (As := [.int x13, .int (nI (25))]) (rest := [.int x46, .int x10]) ⟨hx, hb, hml, hown, hts⟩ (c_Dig_turn l dC dI cI cAA cB cL (x13) ((nI (25))) _) (va_cwS 2 hts (kz_g (kz_mc mw_322 (kz_mc mw_323 (kz_mc mw_42 kz_mn))) mw_324) rfl rfl rfl (by decide +kernel) ⟨Nat.le_of_ble_eq_true rfl, Nat.le_of_ble_eq_true rfl⟩) (kz_preS hdy hA hK hro hZ hN [] (by decide) rfl [] rfl (by decide) [0, 1, 2, 3] rfl (fun _ h => by cases h) (fun _ h => by cases h) rfl) rfl rfl hl.1 rfl (lv_room (Nat.le_of_ble_eq_true rfl)) zd_D_mixRow_98 ⟨Nat.le_of_ble_eq_true rfl, Nat.le_of_ble_eq_true rfl⟩) hdy hA [] [0, 1] rfl rfl (by decide) (by decide) (fun r u H locs hw hdy => ?_)
        obtain ⟨r47, rfl⟩ : ∃ z, z = r := ⟨_, rfl⟩
        have hdy : kz_dy (dC, dI) vwCl A s.heap H locs [(su, .inl (cI, 8, .inl f18)), (ro, .inl (cI, 64, .inl f19))] := hdy.sub [0, 1] (by decide) rfl
        refine lv_ixor hx hb zd_D_mixRow_101 ?_
        refine lv_topi (fun x48 _ => ?_)
        refine lv_iadd hx hb zd_D_mixRow_102 ?_
        refine lv_topi (fun x49 _ => ?_)
        refine lv_iload hx hb zd_D_mixRow_103 (lv_at hl 4 rfl) ?_
        refine lv_iload hx hb zd_D_mixRow_105 (lv_at hl 3 rfl) ?_
        refine lv_iand hx hb zd_D_mixRow_107 ?_
        refine lv_topi (fun x50 _ => ?_)
        refine lv_iload hx hb zd_D_mixRow_108 (lv_at hl 4 rfl) ?_
        refine lv_iconst (v := (-1)) hx hb zd_D_mixRow_110 (by decide) ?_
        refine lv_ixor hx hb zd_D_mixRow_111 ?_
        refine lv_topi (fun x51 _ => ?_)
        refine lv_iload hx hb zd_D_mixRow_112 (lv_at hl 2 rfl) ?_
        refine lv_iand hx hb zd_D_mixRow_114 ?_
        refine lv_topi (fun x52 _ => ?_)
        refine lv_ixor hx hb zd_D_mixRow_115 ?_
        refine lv_topi (fun x53 _ => ?_)
        refine lv_iadd hx hb zd_D_mixRow_116 ?_
        refine lv_topi (fun x54 _ => ?_)
        refine va_gets hx hb (hZ _ (List.mem_of_getElem? (i := 0) rfl)) hdy.2.2 hown (hts _ (kz_c mw_325)) (fun _ h9 => h9) zd_D_mixRow_117 ?_
        refine lv_iload hx hb zd_D_mixRow_120 (lv_at hl 0 rfl) ?_
        refine va_iald hx hb hK (hro.at hdy.2.2) 1 0 rfl rfl (vp_in_nI (by omega) (by omega)) zd_D_mixRow_122 ?_
        refine lv_topi (fun x55 _ => ?_)
        refine lv_iadd hx hb zd_D_mixRow_123 ?_
        refine lv_topi (fun x56 _ => ?_)
        refine lv_aload_n hx hb zd_D_mixRow_124 rfl (lv_at hl 9 rfl) ?_
        refine va_get (D := (dC, dI)) (ci := 3) (v := .ref ro) (C := zR_D) (T := zT_D) (N := 3) hx hb hts (fun w h => kz_c (zi_D w h)) hown hK (hro.at hdy.2.2) 0 rfl rfl 1 (by decide) (hts _ (kz_c mw_120)) (fun _ h9 => h9) rfl zd_D_mixRow_125 ?_
        refine lv_iload hx hb zd_D_mixRow_128 (lv_at hl 0 rfl) ?_
        refine va_iald hx hb hK hdy.1 1 0 rfl rfl (vp_in_nI (by omega) (by omega)) zd_D_mixRow_130 ?_
        refine lv_topi (fun x57 _ => ?_)
        refine lv_iadd hx hb zd_D_mixRow_131 ?_
        refine lv_topi (fun x58 _ => ?_)
        refine lv_istore (lv' := [(10, .int x58), (9, .int (nI (k70))), (8, .int x10), (7, .int x11), (6, .int x12), (5, .int x13), (4, .int x14), (3, .int x15), (2, .int x16), (1, .int x17), (0, .ref h)]) hx hb zd_D_mixRow_132 hl (by decide) rfl (fun ls hl => ?_)
        refine lv_iload_n hx hb zd_D_mixRow_134 rfl (lv_at hl 9 rfl) ?_
        refine lv_iconst (v := (nI (2))) hx hb zd_D_mixRow_135 (by decide) ?_
        refine kz_calli (wk := [(su, .inl (cI, 8, .inl f18)), (ro, .inl (cI, 64, .inl f19))]) (va_runS (As := [.int x17, .int (nI (2))]) (rest := []) ⟨hx, hb, hml, hown, hts⟩ (c_Dig_turn l dC dI cI cAA cB cL (x17) ((nI (2))) _) (va_cwS 2 hts (kz_g (kz_mc mw_322 (kz_mc mw_323 (kz_mc mw_42 kz_mn))) mw_324) rfl rfl rfl (by decide +kernel) ⟨Nat.le_of_ble_eq_true rfl, Nat.le_of_ble_eq_true rfl⟩) (kz_preS hdy hA hK hro hZ hN [] (by decide) rfl [] rfl (by decide) [0, 1, 2, 3] rfl (fun _ h => by cases h) (fun _ h => by cases h) rfl) rfl rfl hl.1 rfl (lv_room (Nat.le_of_ble_eq_true rfl)) zd_D_mixRow_136 ⟨Nat.le_of_ble_eq_true rfl, Nat.le_of_ble_eq_true rfl⟩) hdy hA [] [0, 1] rfl rfl (by decide) (by decide) (fun r u H locs hw hdy => ?_)
        obtain ⟨r59, rfl⟩ : ∃ z, z = r := ⟨_, rfl⟩
        have hdy : kz_dy (dC, dI) vwCl A s.heap H locs [(su, .inl (cI, 8, .inl f18)), (ro, .inl (cI, 64, .inl f19))] := hdy.sub [0, 1] (by decide) rfl
        refine lv_iload_n hx hb zd_D_mixRow_139 rfl (lv_at hl 9 rfl) ?_
        refine lv_bipush (v := (nI (13))) hx hb zd_D_mixRow_140 (by decide) ?_
        refine kz_calli (wk := [(su, .inl (cI, 8, .inl f18)), (ro, .inl (cI, 64, .inl f19))]) (va_runS (As := [.int x17, .int (nI (13))]) (rest := [.int r59]) ⟨hx, hb, hml, hown, hts⟩ (c_Dig_turn l dC dI cI cAA cB cL (x17) ((nI (13))) _) (va_cwS 2 hts (kz_g (kz_mc mw_322 (kz_mc mw_323 (kz_mc mw_42 kz_mn))) mw_324) rfl rfl rfl (by decide +kernel) ⟨Nat.le_of_ble_eq_true rfl, Nat.le_of_ble_eq_true rfl⟩) (kz_preS hdy hA hK hro hZ hN [] (by decide) rfl [] rfl (by decide) [0, 1, 2, 3] rfl (fun _ h => by cases h) (fun _ h => by cases h) rfl) rfl rfl hl.1 rfl (lv_room (Nat.le_of_ble_eq_true rfl)) zd_D_mixRow_142 ⟨Nat.le_of_ble_eq_true rfl, Nat.le_of_ble_eq_true rfl⟩) hdy hA [] [0, 1] rfl rfl (by decide) (by decide) (fun r u H locs hw hdy => ?_)
        obtain ⟨r60, rfl⟩ : ∃ z, z = r := ⟨_, rfl⟩
        have hdy : kz_dy (dC, dI) vwCl A s.heap H locs [(su, .inl (cI, 8, .inl f18)), (ro, .inl (cI, 64, .inl f19))] := hdy.sub [0, 1] (by decide) rfl
        refine lv_ixor hx hb zd_D_mixRow_145 ?_
        refine lv_topi (fun x61 _ => ?_)
        refine lv_iload_n hx hb zd_D_mixRow_146 rfl (lv_at hl 9 rfl) ?_
        refine lv_bipush (v := (nI (22))) hx hb zd_D_mixRow_147 (by decide) ?_
        refine kz_calli (wk := [(su, .inl (cI, 8, .inl f18)), (ro, .inl (cI, 64, .inl f19))]) (va_runS (As := [.int x17, .int (nI (22))]) (rest := [.int x61]) ⟨hx, hb, hml, hown, hts⟩ (c_Dig_turn l dC dI cI cAA cB cL (x17) ((nI (22))) _) (va_cwS 2 hts (kz_g (kz_mc mw_322 (kz_mc mw_323 (kz_mc mw_42 kz_mn))) mw_324) rfl rfl rfl (by decide +kernel) ⟨Nat.le_of_ble_eq_true rfl, Nat.le_of_ble_eq_true rfl⟩) (kz_preS hdy hA hK hro hZ hN [] (by decide) rfl [] rfl (by decide) [0, 1, 2, 3] rfl (fun _ h => by cases h) (fun _ h => by cases h) rfl) rfl rfl hl.1 rfl (lv_room (Nat.le_of_ble_eq_true rfl)) zd_D_mixRow_149 ⟨Nat.le_of_ble_eq_true rfl, Nat.le_of_ble_eq_true rfl⟩) hdy hA [] [0, 1] rfl rfl (by decide) (by decide) (fun r u H locs hw hdy => ?_)
        obtain ⟨r62, rfl⟩ : ∃ z, z = r := ⟨_, rfl⟩
        have hdy : kz_dy (dC, dI) vwCl A s.heap H locs [(su, .inl (cI, 8, .inl f18)), (ro, .inl (cI, 64, .inl f19))] := hdy.sub [0, 1] (by decide) rfl
        refine lv_ixor hx hb zd_D_mixRow_152 ?_
        refine lv_topi (fun x63 _ => ?_)
        refine lv_iload_n hx hb zd_D_mixRow_153 rfl (lv_at hl 9 rfl) ?_
        refine lv_iload_n hx hb zd_D_mixRow_154 rfl (lv_at hl 8 rfl) ?_
        refine lv_iand hx hb zd_D_mixRow_155 ?_
        refine lv_topi (fun x64 _ => ?_)
        refine lv_iload_n hx hb zd_D_mixRow_156 rfl (lv_at hl 9 rfl) ?_
        refine lv_iload_n hx hb zd_D_mixRow_157 rfl (lv_at hl 7 rfl) ?_
        refine lv_iand hx hb zd_D_mixRow_158 ?_
        refine lv_topi (fun x65 _ => ?_)
        refine lv_ixor hx hb zd_D_mixRow_159 ?_
        refine lv_topi (fun x66 _ => ?_)
        refine lv_iload_n hx hb zd_D_mixRow_160 rfl (lv_at hl 8 rfl) ?_
        refine lv_iload_n hx hb zd_D_mixRow_161 rfl (lv_at hl 7 rfl) ?_
        refine lv_iand hx hb zd_D_mixRow_162 ?_
        refine lv_topi (fun x67 _ => ?_)
        refine lv_ixor hx hb zd_D_mixRow_163 ?_
        refine lv_topi (fun x68 _ => ?_)
        refine lv_iadd hx hb zd_D_mixRow_164 ?_
        refine lv_topi (fun x69 _ => ?_)
        refine lv_istore (lv' := [(11, .int x69), (10, .int x58), (9, .int (nI (k70))), (8, .int x10), (7, .int x11), (6, .int x12), (5, .int x13), (4, .int x14), (3, .int x15), (2, .int x16), (1, .int x17), (0, .ref h)]) hx hb zd_D_mixRow_165 hl (by decide) rfl (fun ls hl => ?_)
        refine lv_iload hx hb zd_D_mixRow_167 (lv_at hl 4 rfl) ?_
        refine lv_istore (lv' := [(8, .int x11), (11, .int x69), (10, .int x58), (9, .int (nI (k70))), (7, .int x11), (6, .int x12), (5, .int x13), (4, .int x14), (3, .int x15), (2, .int x16), (1, .int x17), (0, .ref h)]) hx hb zd_D_mixRow_169 hl (by decide) rfl (fun ls hl => ?_)
        refine lv_iload hx hb zd_D_mixRow_171 (lv_at hl 5 rfl) ?_
        refine lv_istore (lv' := [(7, .int x12), (8, .int x11), (11, .int x69), (10, .int x58), (9, .int (nI (k70))), (6, .int x12), (5, .int x13), (4, .int x14), (3, .int x15), (2, .int x16), (1, .int x17), (0, .ref h)]) hx hb zd_D_mixRow_173 hl (by decide) rfl (fun ls hl => ?_)
        refine lv_iload hx hb zd_D_mixRow_175 (lv_at hl 6 rfl) ?_
        refine lv_istore (lv' := [(6, .int x13), (7, .int x12), (8, .int x11), (11, .int x69), (10, .int x58), (9, .int (nI (k70))), (5, .int x13), (4, .int x14), (3, .int x15), (2, .int x16), (1, .int x17), (0, .ref h)]) hx hb zd_D_mixRow_177 hl (by decide) rfl (fun ls hl => ?_)
        refine lv_iload hx hb zd_D_mixRow_179 (lv_at hl 7 rfl) ?_
        refine lv_iload hx hb zd_D_mixRow_181 (lv_at hl 4 rfl) ?_
        refine lv_iadd hx hb zd_D_mixRow_183 ?_
        refine lv_topi (fun x70 _ => ?_)
        refine lv_istore (lv' := [(5, .int x70), (6, .int x13), (7, .int x12), (8, .int x11), (11, .int x69), (10, .int x58), (9, .int (nI (k70))), (4, .int x14), (3, .int x15), (2, .int x16), (1, .int x17), (0, .ref h)]) hx hb zd_D_mixRow_184 hl (by decide) rfl (fun ls hl => ?_)
        refine lv_iload_n hx hb zd_D_mixRow_186 rfl (lv_at hl 8 rfl) ?_
        refine lv_istore (lv' := [(4, .int x15), (5, .int x70), (6, .int x13), (7, .int x12), (8, .int x11), (11, .int x69), (10, .int x58), (9, .int (nI (k70))), (3, .int x15), (2, .int x16), (1, .int x17), (0, .ref h)]) hx hb zd_D_mixRow_187 hl (by decide) rfl (fun ls hl => ?_)
        refine lv_iload_n hx hb zd_D_mixRow_189 rfl (lv_at hl 9 rfl) ?_
        refine lv_istore_n (lv' := [(3, .int x16), (4, .int x15), (5, .int x70), (6, .int x13), (7, .int x12), (8, .int x11), (11, .int x69), (10, .int x58), (9, .int (nI (k70))), (2, .int x16), (1, .int x17), (0, .ref h)]) hx hb zd_D_mixRow_190 rfl hl (by decide) rfl (fun ls hl => ?_)
        refine lv_iload_n hx hb zd_D_mixRow_191 rfl (lv_at hl 10 rfl) ?_
        refine lv_istore_n (lv' := [(2, .int x17), (3, .int x16), (4, .int x15), (5, .int x70), (6, .int x13), (7, .int x12), (8, .int x11), (11, .int x69), (10, .int x58), (9, .int (nI (k70))), (1, .int x17), (0, .ref h)]) hx hb zd_D_mixRow_192 rfl hl (by decide) rfl (fun ls hl => ?_)
        refine lv_iload hx hb zd_D_mixRow_193 (lv_at hl 8 rfl) ?_
        refine lv_iload hx hb zd_D_mixRow_195 (lv_at hl 7 rfl) ?_
        refine lv_iadd hx hb zd_D_mixRow_197 ?_
        refine lv_topi (fun x71 _ => ?_)
        refine lv_istore_n (lv' := [(1, .int x71), (2, .int x17), (3, .int x16), (4, .int x15), (5, .int x70), (6, .int x13), (7, .int x12), (8, .int x11), (11, .int x69), (10, .int x58), (9, .int (nI (k70))), (0, .ref h)]) hx hb zd_D_mixRow_198 rfl hl (by decide) rfl (fun ls hl => ?_)
        refine lv_iinc (v := (nI (k70 + 1))) (lv' := [(9, .int (nI (k70 + 1))), (1, .int x71), (2, .int x17), (3, .int x16), (4, .int x15), (5, .int x70), (6, .int x13), (7, .int x12), (8, .int x11), (11, .int x69), (10, .int x58), (0, .ref h)]) hx hb zd_D_mixRow_199 hl (k := 10) rfl (nI_1 _) (by decide) rfl (fun ls hl => ?_)
        refine lv_goto (tgt := 70) hx hb zd_D_mixRow_202 (by decide) ?_
        exact ih70 (k70 + 1) (x11) (x12) (x13) (x70) (x15) (x16) (x17) (x71) f18 f19 _ _ _ (by omega) (by omega) hdy (lv_sub hl [0, 8, 7, 6, 5, 4, 3, 2, 1, 11] rfl)
  exact lp70 (64 - 0 + 1) 0 (x9) (x8) (x7) (x6) (x5) (x4) (x3) (x2) gsu f1 _ _ _ (by omega) (by omega) hdy (lv_sub hl [0, 1, 2, 3, 4, 5, 6, 7, 8, 9] rfl)

set_option maxHeartbeats 4000000 in
set_option maxRecDepth 100000 in
/-- KeyMeeting$Digest.putWord(I)V -/
theorem c_Dig_putWord (l : Launch) (dC : Nat → ClassId) (dI : Nat → Nat → Nat) (cI cAA cB cL : ClassId) (h su ro roots : Nat) (ct : Nat) (gsu : Nat → Int32) (gro : Nat → Int32) (groots : Nat → Int32) (v : Int32) (sz : Nat) (hct : ct < 1000) : Met l zy_D_putWord zw_D_putWord { frames := 3, cells := 0, slots := 0, locals := 77 } (kz_Pc (dC, dI) vwCl [(cI, .int), (cAA, .array .int), (cB, .byte), (cL, .long)] [("KeyMeeting$Digest", "ROOTS", "[I", .ref roots)] [] [.ref h, .int v] [(h, .inr (3, [.ref su, .ref ro, .int (nI (ct))])), (su, .inl (cI, 8, .inl gsu)), (ro, .inl (cI, 64, .inl gro))] [(roots, .inl (cI, 64, .inl groots))] sz) (va_Qv (fun (u : Nat × (Nat → Int32) × (Nat → Int32)) => (u.1 = ct + 1) ∧ True) (kz_B (dC, dI) vwCl (va_A [(h, .inr (3, [.ref su, .ref ro, .int (nI (ct))])), (su, .inl (cI, 8, .inl gsu)), (ro, .inl (cI, 64, .inl gro))] sz) (fun u : Nat × (Nat → Int32) × (Nat → Int32) => [(h, .inr (3, [.ref su, .ref ro, .int (nI (u.1))])), (su, .inl (cI, 8, .inl u.2.1)), (ro, .inl (cI, 64, .inl u.2.2))])) (va_A [(h, .inr (3, [.ref su, .ref ro, .int (nI (ct))])), (su, .inl (cI, 8, .inl gsu)), (ro, .inl (cI, 64, .inl gro))] sz)) 0 0 (va_A [(h, .inr (3, [.ref su, .ref ro, .int (nI (ct))])), (su, .inl (cI, 8, .inl gsu)), (ro, .inl (cI, 64, .inl gro))] sz) := by
  refine kz_met (Qc := fun A => va_Qv (fun (u : Nat × (Nat → Int32) × (Nat → Int32)) => (u.1 = ct + 1) ∧ True) (kz_B (dC, dI) vwCl A (fun u : Nat × (Nat → Int32) × (Nat → Int32) => [(h, .inr (3, [.ref su, .ref ro, .int (nI (u.1))])), (su, .inl (cI, 8, .inl u.2.1)), (ro, .inl (cI, 64, .inl u.2.2))])) A) (cc := zc_D_putWord) (maxL := 2) (ret := none) (by decide) rfl (Nat.le_of_ble_eq_true rfl) ?_
  intro p e s m below meth c A ls F hA hdy hK hro hZ hN hl
  obtain ⟨hx, hb, hml, hr, hown, hlocks, hts, hnm⟩ := id F
  have hl : lv_has ls 2 [(0, .ref h), (1, .int v)] := hl
  refine lv_aload_n hx hb zd_D_putWord_0 rfl (lv_at hl 0 rfl) ?_
  refine va_get (D := (dC, dI)) (ci := 3) (v := .ref ro) (C := zR_D) (T := zT_D) (N := 3) hx hb hts (fun w h => kz_c (zi_D w h)) hown hK hdy.1 0 rfl rfl 1 (by decide) (hts _ (kz_c mw_120)) (fun _ h9 => h9) rfl zd_D_putWord_1 ?_
  refine lv_aload_n hx hb zd_D_putWord_4 rfl (lv_at hl 0 rfl) ?_
  refine va_get (D := (dC, dI)) (ci := 3) (v := .int (nI (ct))) (C := zR_D) (T := zT_D) (N := 3) hx hb hts (fun w h => kz_c (zi_D w h)) hown hK hdy.1 0 rfl rfl 2 (by decide) (hts _ (kz_c mw_121)) (fun _ h9 => h9) rfl zd_D_putWord_5 ?_
  refine lv_bipush (v := (nI (16))) hx hb zd_D_putWord_8 (by decide) ?_
  refine kz_irem hx hb zd_D_putWord_10 (by decide) (pk_rem (by omega) (by omega) (by omega)) ?_
  refine lv_iload_n hx hb zd_D_putWord_11 rfl (lv_at hl 1 rfl) ?_
  refine va_iast hx hb hK hdy.1 hdy.2.1 hdy.2.2 2 0 rfl rfl (vp_in_nI (by omega) (by omega)) zd_D_putWord_12 (fun H locs hP hD hS => ?_)
  obtain ⟨f1, hdy⟩ : ∃ f1 : Nat → Int32, kz_dy (dC, dI) vwCl A s.heap H locs [(h, .inr (3, [.ref su, .ref ro, .int (nI (ct))])), (su, .inl (cI, 8, .inl gsu)), (ro, .inl (cI, 64, .inl f1))] := ⟨_, hP, hD, hS⟩
  refine lv_aload_n hx hb zd_D_putWord_13 rfl (lv_at hl 0 rfl) ?_
  refine lv_dup hx hb zd_D_putWord_14 rfl ?_
  refine va_get (D := (dC, dI)) (ci := 3) (v := .int (nI (ct))) (C := zR_D) (T := zT_D) (N := 3) hx hb hts (fun w h => kz_c (zi_D w h)) hown hK hdy.1 0 rfl rfl 2 (by decide) (hts _ (kz_c mw_121)) (fun _ h9 => h9) rfl zd_D_putWord_15 ?_
  refine lv_iconst (v := (nI (1))) hx hb zd_D_putWord_18 (by decide) ?_
  refine kz_iadd hx hb zd_D_putWord_19 (nI_add _ _) ?_
  refine va_put (D := (dC, dI)) (ci := 3) (v := .int (nI (ct + 1))) (ty := .int) (C := zR_D) (T := zT_D) (N := 3) hx hb hts (fun w h => kz_c (zi_D w h)) zt_D zo_D zn_D hown hK hdy.1 hdy.2.1 hdy.2.2 0 rfl rfl 2 (by decide) (hts _ (kz_c mw_121)) (fun _ h9 => h9) rfl (by decide +kernel) rfl rfl (Nat.le_of_ble_eq_true rfl) zd_D_putWord_20 (fun H locs hP hD hS => ?_)
  have hdy : kz_dy (dC, dI) vwCl A s.heap H locs [(h, .inr (3, [.ref su, .ref ro, .int (nI (ct + 1))])), (su, .inl (cI, 8, .inl gsu)), (ro, .inl (cI, 64, .inl f1))] := ⟨hP, hD, hS⟩
  refine lv_aload_n hx hb zd_D_putWord_23 rfl (lv_at hl 0 rfl) ?_
  refine va_get (D := (dC, dI)) (ci := 3) (v := .int (nI (ct + 1))) (C := zR_D) (T := zT_D) (N := 3) hx hb hts (fun w h => kz_c (zi_D w h)) hown hK hdy.1 0 rfl rfl 2 (by decide) (hts _ (kz_c mw_121)) (fun _ h9 => h9) rfl zd_D_putWord_24 ?_
  refine lv_bipush (v := (nI (16))) hx hb zd_D_putWord_27 (by decide) ?_
  refine kz_irem hx hb zd_D_putWord_29 (by decide) (pk_rem (by omega) (by omega) (by omega)) ?_
  refine lv_if_ne (tgt := 37) hx hb zd_D_putWord_30 (by decide) (fun hc30 => ?_) (fun hc30 => ?_)
  · have hc30 : ¬ ((ct + 1) % 16) = 0 := fun h9 => hc30 (by have h8 := (nI_eq (by omega) (by omega)).mpr h9; rw [nI_0] at h8; exact h8)
    exact kz_vret F (ct + 1, gsu, f1) hdy (⟨by first | assumption | rfl | omega, trivial⟩) zd_D_putWord_37
  · have hc30 : ((ct + 1) % 16) = 0 := (nI_eq (by omega) (by omega)).mp (by rw [nI_0]; exact hc30)
    refine lv_aload_n hx hb zd_D_putWord_33 rfl (lv_at hl 0 rfl) ?_
    refine kz_callv (wk := [(h, .inr (3, [.ref su, .ref ro, .int (nI (ct + 1))]))]) (va_runV (As := []) (rest := []) ⟨hx, hb, hml, hown, hts⟩ (c_Dig_mixRow l dC dI cI cAA cB cL su ro h roots gsu f1 (ct + 1) groots _) (cwV 0 hts (kz_g (kz_mc mw_314 (kz_mc mw_316 (kz_mc mw_14 (kz_mc mw_42 kz_mn)))) mw_317) rfl rfl rfl (by decide +kernel) ⟨Nat.le_of_ble_eq_true rfl, Nat.le_of_ble_eq_true rfl⟩) (kz_preV hdy hA hK hro hZ hN [1, 2] (by decide) rfl [(false, 0), (true, 0)] rfl (by decide) [0, 1, 2, 3] rfl (fun _ h => h) (fun _ h => by cases h) rfl (ci := 3) (q0 := 0) rfl rfl rfl) rfl rfl hl.1 rfl (lv_room (Nat.le_of_ble_eq_true rfl)) zd_D_putWord_34 ⟨Nat.le_of_ble_eq_true rfl, Nat.le_of_ble_eq_true rfl⟩) hdy hA [1, 2] [0] rfl rfl (by decide) (by decide) (fun u H locs hw hdy => ?_)
    obtain ⟨f2, f3⟩ := u
    have hdy : kz_dy (dC, dI) vwCl A s.heap H locs [(h, .inr (3, [.ref su, .ref ro, .int (nI (ct + 1))])), (su, .inl (cI, 8, .inl f2)), (ro, .inl (cI, 64, .inl f3))] := hdy.sub [0, 1, 2] (by decide) rfl
    exact kz_vret F (ct + 1, f2, f3) hdy (⟨by first | assumption | rfl | omega, trivial⟩) zd_D_putWord_37

set_option maxHeartbeats 4000000 in
set_option maxRecDepth 100000 in
/-- KeyMeeting$Digest.clear()V -/
theorem c_Dig_clear (l : Launch) (dC : Nat → ClassId) (dI : Nat → Nat → Nat) (cI cAA cB cL : ClassId) (h su ro start : Nat) (ct : Nat) (gsu : Nat → Int32) (gstart : Nat → Int32) (sz : Nat) : Met l zy_D_clear zw_D_clear { frames := 2, cells := 0, slots := 0, locals := 61 } (kz_Pc (dC, dI) vwCl [(cI, .int), (cAA, .array .int), (cB, .byte), (cL, .long)] [("KeyMeeting$Digest", "START", "[I", .ref start)] [] [.ref h] [(h, .inr (3, [.ref su, .ref ro, .int (nI (ct))])), (su, .inl (cI, 8, .inl gsu))] [(start, .inl (cI, 8, .inl gstart))] sz) (va_Qv (fun (u : Nat × (Nat → Int32)) => (u.1 = 0) ∧ True) (kz_B (dC, dI) vwCl (va_A [(h, .inr (3, [.ref su, .ref ro, .int (nI (ct))])), (su, .inl (cI, 8, .inl gsu))] sz) (fun u : Nat × (Nat → Int32) => [(h, .inr (3, [.ref su, .ref ro, .int (nI (u.1))])), (su, .inl (cI, 8, .inl u.2))])) (va_A [(h, .inr (3, [.ref su, .ref ro, .int (nI (ct))])), (su, .inl (cI, 8, .inl gsu))] sz)) 0 0 (va_A [(h, .inr (3, [.ref su, .ref ro, .int (nI (ct))])), (su, .inl (cI, 8, .inl gsu))] sz) := by
  refine kz_met (Qc := fun A => va_Qv (fun (u : Nat × (Nat → Int32)) => (u.1 = 0) ∧ True) (kz_B (dC, dI) vwCl A (fun u : Nat × (Nat → Int32) => [(h, .inr (3, [.ref su, .ref ro, .int (nI (u.1))])), (su, .inl (cI, 8, .inl u.2))])) A) (cc := zc_D_clear) (maxL := 1) (ret := none) (by decide) rfl (Nat.le_of_ble_eq_true rfl) ?_
  intro p e s m below meth c A ls F hA hdy hK hro hZ hN hl
  obtain ⟨hx, hb, hml, hr, hown, hlocks, hts, hnm⟩ := id F
  have hl : lv_has ls 1 [(0, .ref h)] := hl
  refine va_gets hx hb (hZ _ (List.mem_of_getElem? (i := 0) rfl)) hdy.2.2 hown (hts _ (kz_c mw_303)) (fun _ h9 => h9) zd_D_clear_0 ?_
  refine lv_aload_n hx hb zd_D_clear_3 rfl (lv_at hl 0 rfl) ?_
  refine va_get (D := (dC, dI)) (ci := 3) (v := .ref su) (C := zR_D) (T := zT_D) (N := 3) hx hb hts (fun w h => kz_c (zi_D w h)) hown hK hdy.1 0 rfl rfl 0 (by decide) (hts _ (kz_c mw_119)) (fun _ h9 => h9) rfl zd_D_clear_4 ?_
  refine kz_callv (wk := [(h, .inr (3, [.ref su, .ref ro, .int (nI (ct))]))]) (va_runS (As := [.ref start, .ref su]) (rest := []) ⟨hx, hb, hml, hown, hts⟩ (c_Words_copy l dC dI cI cAA cB cL su start gsu gstart _) (va_cwS 2 hts (kz_g (kz_mc mw_305 (kz_mc mw_283 (kz_mc mw_50 kz_mn))) mw_284) rfl rfl rfl (by decide +kernel) ⟨Nat.le_of_ble_eq_true rfl, Nat.le_of_ble_eq_true rfl⟩) (kz_preS hdy hA hK hro hZ hN [1] (by decide) rfl [(true, 0)] rfl (by decide) [0, 1, 2, 3] rfl (fun _ h => by cases h) (fun _ h => by cases h) rfl) rfl rfl hl.1 rfl (lv_room (Nat.le_of_ble_eq_true rfl)) zd_D_clear_7 ⟨Nat.le_of_ble_eq_true rfl, Nat.le_of_ble_eq_true rfl⟩) hdy hA [1] [0] rfl rfl (by decide) (by decide) (fun u H locs hw hdy => ?_)
  obtain ⟨f1, rfl⟩ : ∃ z, z = u := ⟨_, rfl⟩
  have hdy : kz_dy (dC, dI) vwCl A s.heap H locs [(h, .inr (3, [.ref su, .ref ro, .int (nI (ct))])), (su, .inl (cI, 8, .inl f1))] := hdy.sub [0, 1] (by decide) rfl
  refine lv_aload_n hx hb zd_D_clear_10 rfl (lv_at hl 0 rfl) ?_
  refine lv_iconst (v := (nI (0))) hx hb zd_D_clear_11 (by decide) ?_
  refine va_put (D := (dC, dI)) (ci := 3) (v := .int (nI (0))) (ty := .int) (C := zR_D) (T := zT_D) (N := 3) hx hb hts (fun w h => kz_c (zi_D w h)) zt_D zo_D zn_D hown hK hdy.1 hdy.2.1 hdy.2.2 0 rfl rfl 2 (by decide) (hts _ (kz_c mw_121)) (fun _ h9 => h9) rfl (by decide +kernel) rfl rfl (Nat.le_of_ble_eq_true rfl) zd_D_clear_12 (fun H locs hP hD hS => ?_)
  have hdy : kz_dy (dC, dI) vwCl A s.heap H locs [(h, .inr (3, [.ref su, .ref ro, .int (nI (0))])), (su, .inl (cI, 8, .inl f1))] := ⟨hP, hD, hS⟩
  exact kz_vret F (0, f1) hdy (⟨by first | assumption | rfl | omega, trivial⟩) zd_D_clear_15

set_option maxHeartbeats 4000000 in
set_option maxRecDepth 100000 in
/-- KeyMeeting$Digest.put([I)V -/
theorem c_Dig_put (l : Launch) (dC : Nat → ClassId) (dI : Nat → Nat → Nat) (cI cAA cB cL : ClassId) (h su ro a roots : Nat) (ct : Nat) (gsu : Nat → Int32) (gro : Nat → Int32) (ga : Nat → Int32) (groots : Nat → Int32) (sz : Nat) (hct : ct < 900) : Met l zy_D_put zw_D_put { frames := 4, cells := 0, slots := 0, locals := 98 } (kz_Pc (dC, dI) vwCl [(cI, .int), (cAA, .array .int), (cB, .byte), (cL, .long)] [("KeyMeeting$Digest", "ROOTS", "[I", .ref roots)] [] [.ref h, .ref a] [(h, .inr (3, [.ref su, .ref ro, .int (nI (ct))])), (su, .inl (cI, 8, .inl gsu)), (ro, .inl (cI, 64, .inl gro))] [(a, .inl (cI, 8, .inl ga)), (roots, .inl (cI, 64, .inl groots))] sz) (va_Qv (fun (u : Nat × (Nat → Int32) × (Nat → Int32)) => (u.1 = ct + 8) ∧ True) (kz_B (dC, dI) vwCl (va_A [(h, .inr (3, [.ref su, .ref ro, .int (nI (ct))])), (su, .inl (cI, 8, .inl gsu)), (ro, .inl (cI, 64, .inl gro))] sz) (fun u : Nat × (Nat → Int32) × (Nat → Int32) => [(h, .inr (3, [.ref su, .ref ro, .int (nI (u.1))])), (su, .inl (cI, 8, .inl u.2.1)), (ro, .inl (cI, 64, .inl u.2.2))])) (va_A [(h, .inr (3, [.ref su, .ref ro, .int (nI (ct))])), (su, .inl (cI, 8, .inl gsu)), (ro, .inl (cI, 64, .inl gro))] sz)) 0 0 (va_A [(h, .inr (3, [.ref su, .ref ro, .int (nI (ct))])), (su, .inl (cI, 8, .inl gsu)), (ro, .inl (cI, 64, .inl gro))] sz) := by
  refine kz_met (Qc := fun A => va_Qv (fun (u : Nat × (Nat → Int32) × (Nat → Int32)) => (u.1 = ct + 8) ∧ True) (kz_B (dC, dI) vwCl A (fun u : Nat × (Nat → Int32) × (Nat → Int32) => [(h, .inr (3, [.ref su, .ref ro, .int (nI (u.1))])), (su, .inl (cI, 8, .inl u.2.1)), (ro, .inl (cI, 64, .inl u.2.2))])) A) (cc := zc_D_put) (maxL := 3) (ret := none) (by decide) rfl (Nat.le_of_ble_eq_true rfl) ?_
  intro p e s m below meth c A ls F hA hdy hK hro hZ hN hl
  obtain ⟨hx, hb, hml, hr, hown, hlocks, hts, hnm⟩ := id F
  have hl : lv_has ls 3 [(0, .ref h), (1, .ref a)] := hl
  refine lv_iconst (v := (nI (0))) hx hb zd_D_put_0 (by decide) ?_
  refine lv_istore_n (lv' := [(2, .int (nI (0))), (0, .ref h), (1, .ref a)]) hx hb zd_D_put_1 rfl hl (by decide) rfl (fun ls hl => ?_)
  have lp2 : ∀ (n2 k2 : Nat) (c1 : Nat) (f2 : Nat → Int32) (f3 : Nat → Int32) (H : Heap) (locs : List Loc) (ls : Array Slot), k2 ≤ 8 → 8 - k2 < n2 → c1 = ct + k2 → kz_dy (dC, dI) vwCl A s.heap H locs [(h, .inr (3, [.ref su, .ref ro, .int (nI (c1))])), (su, .inl (cI, 8, .inl f2)), (ro, .inl (cI, 64, .inl f3))] → lv_has ls 3 [(2, .int (nI (k2))), (0, .ref h), (1, .ref a)] → W p l e { frames := 4, cells := 0, slots := 0, locals := 98 } s m ([.ref h, .ref a] : List Value).toArray below meth c H locs 0 0 (MQ below (va_Qv (fun (u : Nat × (Nat → Int32) × (Nat → Int32)) => (u.1 = ct + 8) ∧ True) (kz_B (dC, dI) vwCl A (fun u : Nat × (Nat → Int32) × (Nat → Int32) => [(h, .inr (3, [.ref su, .ref ro, .int (nI (u.1))])), (su, .inl (cI, 8, .inl u.2.1)), (ro, .inl (cI, 64, .inl u.2.2))])) A) ([.ref h, .ref a] : List Value).toArray s 0 0 A) (F0 m 2 ls []) := by
    intro n2
    induction n2 with
    | zero => intro k2; intros; omega
    | succ n2 ih2 =>
      intro k2 c1 f2 f3 H locs ls hi2 hn2 hbc1 hdy hl
      refine lv_iload_n hx hb zd_D_put_2 rfl (lv_at hl 0 rfl) ?_
      refine lv_bipush (v := (nI (8))) hx hb zd_D_put_3 (by decide) ?_
      refine lv_icmp_ge (tgt := 21) hx hb zd_D_put_5 (by decide) (fun hc5 => ?_) (fun hc5 => ?_)
      · have hc5 : 8 ≤ k2 := (nI_leI (by omega) (by omega)).mp hc5
        exact kz_vret F (c1, f2, f3) hdy (⟨by first | assumption | rfl | omega, trivial⟩) zd_D_put_21
      · have hc5 : ¬ 8 ≤ k2 := fun h9 => hc5 ((nI_leI (by omega) (by omega)).mpr h9)
        refine lv_aload_n hx hb zd_D_put_8 rfl (lv_at hl 1 rfl) ?_
        refine lv_aload_n hx hb zd_D_put_9 rfl (lv_at hl 2 rfl) ?_
        refine lv_iload_n hx hb zd_D_put_10 rfl (lv_at hl 0 rfl) ?_
        refine va_iald hx hb hK (hro.at hdy.2.2) 0 0 rfl rfl (vp_in_nI (by omega) (by omega)) zd_D_put_11 ?_
        refine lv_topi (fun x4 _ => ?_)
        refine kz_callv (wk := []) (va_runV (As := [.int x4]) (rest := []) ⟨hx, hb, hml, hown, hts⟩ (c_Dig_putWord l dC dI cI cAA cB cL h su ro roots c1 f2 f3 groots (x4) _ (by first | omega | assumption)) (cwV 1 hts (kz_g (kz_mc mw_310 (kz_mc mw_312 (kz_mc mw_13 (kz_mc mw_42 kz_mn)))) mw_313) rfl rfl rfl (by decide +kernel) ⟨Nat.le_of_ble_eq_true rfl, Nat.le_of_ble_eq_true rfl⟩) (kz_preV hdy hA hK hro hZ hN [0, 1, 2] (by decide) rfl [(true, 1)] rfl (by decide) [0, 1, 2, 3] rfl (fun _ h => h) (fun _ h => by cases h) rfl (ci := 3) (q0 := 0) rfl rfl rfl) rfl rfl hl.1 rfl (lv_room (Nat.le_of_ble_eq_true rfl)) zd_D_put_12 ⟨Nat.le_of_ble_eq_true rfl, Nat.le_of_ble_eq_true rfl⟩) hdy hA [0, 1, 2] [] rfl rfl (by decide) (by decide) (fun u H locs hw hdy => ?_)
        obtain ⟨c5, f6, f7⟩ := u
        try dsimp only at hw
        obtain ⟨q8, -⟩ := hw
        have hdy : kz_dy (dC, dI) vwCl A s.heap H locs [(h, .inr (3, [.ref su, .ref ro, .int (nI (c5))])), (su, .inl (cI, 8, .inl f6)), (ro, .inl (cI, 64, .inl f7))] := hdy.sub [0, 1, 2] (by decide) rfl
        refine lv_iinc (v := (nI (k2 + 1))) (lv' := [(2, .int (nI (k2 + 1))), (0, .ref h), (1, .ref a)]) hx hb zd_D_put_15 hl (k := 0) rfl (nI_1 _) (by decide) rfl (fun ls hl => ?_)
        refine lv_goto (tgt := 2) hx hb zd_D_put_18 (by decide) ?_
        exact ih2 (k2 + 1) c5 f6 f7 _ _ _ (by omega) (by omega) (by omega) hdy (lv_sub hl [0, 1, 2] rfl)
  exact lp2 (8 - 0 + 1) 0 ct gsu gro _ _ _ (by omega) (by omega) (by omega) hdy (lv_sub hl [0, 1, 2] rfl)

set_option maxHeartbeats 4000000 in
set_option maxRecDepth 100000 in
/-- KeyMeeting$Digest.end(II[II)V -/
theorem c_Dig_end (l : Launch) (dC : Nat → ClassId) (dI : Nat → Nat → Nat) (cI cAA cB cL : ClassId) (h su ro o roots : Nat) (ct : Nat) (gsu : Nat → Int32) (gro : Nat → Int32) (go : Nat → Int32) (groots : Nat → Int32) (v : Int32) (k : Int32) (at_ : Nat) (sz : Nat) (hct : ct < 900) (hat : at_ = 0) : Met l zy_D_end zw_D_end { frames := 4, cells := 0, slots := 0, locals := 98 } (kz_Pc (dC, dI) vwCl [(cI, .int), (cAA, .array .int), (cB, .byte), (cL, .long)] [("KeyMeeting$Digest", "ROOTS", "[I", .ref roots)] [] [.ref h, .int v, .int k, .ref o, .int (nI (at_))] [(h, .inr (3, [.ref su, .ref ro, .int (nI (ct))])), (su, .inl (cI, 8, .inl gsu)), (ro, .inl (cI, 64, .inl gro)), (o, .inl (cI, 8, .inl go))] [(roots, .inl (cI, 64, .inl groots))] sz) (va_Qv (fun (u : Nat × (Nat → Int32) × (Nat → Int32) × (Nat → Int32)) => (u.1 ≤ ct + 20) ∧ True) (kz_B (dC, dI) vwCl (va_A [(h, .inr (3, [.ref su, .ref ro, .int (nI (ct))])), (su, .inl (cI, 8, .inl gsu)), (ro, .inl (cI, 64, .inl gro)), (o, .inl (cI, 8, .inl go))] sz) (fun u : Nat × (Nat → Int32) × (Nat → Int32) × (Nat → Int32) => [(h, .inr (3, [.ref su, .ref ro, .int (nI (u.1))])), (su, .inl (cI, 8, .inl u.2.1)), (ro, .inl (cI, 64, .inl u.2.2.1)), (o, .inl (cI, 8, .inl u.2.2.2))])) (va_A [(h, .inr (3, [.ref su, .ref ro, .int (nI (ct))])), (su, .inl (cI, 8, .inl gsu)), (ro, .inl (cI, 64, .inl gro)), (o, .inl (cI, 8, .inl go))] sz)) 0 0 (va_A [(h, .inr (3, [.ref su, .ref ro, .int (nI (ct))])), (su, .inl (cI, 8, .inl gsu)), (ro, .inl (cI, 64, .inl gro)), (o, .inl (cI, 8, .inl go))] sz) := by
  refine kz_met (Qc := fun A => va_Qv (fun (u : Nat × (Nat → Int32) × (Nat → Int32) × (Nat → Int32)) => (u.1 ≤ ct + 20) ∧ True) (kz_B (dC, dI) vwCl A (fun u : Nat × (Nat → Int32) × (Nat → Int32) × (Nat → Int32) => [(h, .inr (3, [.ref su, .ref ro, .int (nI (u.1))])), (su, .inl (cI, 8, .inl u.2.1)), (ro, .inl (cI, 64, .inl u.2.2.1)), (o, .inl (cI, 8, .inl u.2.2.2))])) A) (cc := zc_D_end) (maxL := 8) (ret := none) (by decide) rfl (Nat.le_of_ble_eq_true rfl) ?_
  intro p e s m below meth c A ls F hA hdy hK hro hZ hN hl
  obtain ⟨hx, hb, hml, hr, hown, hlocks, hts, hnm⟩ := id F
  have hl : lv_has ls 8 [(0, .ref h), (1, .int v), (2, .int k), (3, .ref o), (4, .int (nI (at_)))] := hl
  refine lv_ldc2 (v := (32)) hx hb hown (hts _ (kz_c mw_331)) zd_D_end_0 ?_
  refine lv_aload_n hx hb zd_D_end_3 rfl (lv_at hl 0 rfl) ?_
  refine va_get (D := (dC, dI)) (ci := 3) (v := .int (nI (ct))) (C := zR_D) (T := zT_D) (N := 3) hx hb hts (fun w h => kz_c (zi_D w h)) hown hK hdy.1 0 rfl rfl 2 (by decide) (hts _ (kz_c mw_121)) (fun _ h9 => h9) rfl zd_D_end_4 ?_
  refine lv_i2l hx hb zd_D_end_7 rfl ?_
  refine lv_topl (fun y1 _ => ?_)
  refine lv_lmul hx hb zd_D_end_8 ?_
  refine lv_topl (fun y2 _ => ?_)
  refine lv_iload_n hx hb zd_D_end_9 rfl (lv_at hl 2 rfl) ?_
  refine lv_i2l hx hb zd_D_end_10 rfl ?_
  refine lv_topl (fun y3 _ => ?_)
  refine lv_ladd hx hb zd_D_end_11 ?_
  refine lv_topl (fun y4 _ => ?_)
  refine lv_lstore (lv' := [(5, .long y4), (0, .ref h), (1, .int v), (2, .int k), (3, .ref o), (4, .int (nI (at_)))]) hx hb zd_D_end_12 hl (by decide) rfl (fun ls hl => ?_)
  refine lv_aload_n hx hb zd_D_end_14 rfl (lv_at hl 1 rfl) ?_
  refine lv_iload_n hx hb zd_D_end_15 rfl (lv_at hl 2 rfl) ?_
  refine lv_ldc (v := (-2147483648)) hx hb hown (hts _ (kz_c mw_332)) zd_D_end_16 ?_
  refine lv_iload_n hx hb zd_D_end_18 rfl (lv_at hl 3 rfl) ?_
  refine lv_iushr hx hb zd_D_end_19 rfl ?_
  refine lv_topi (fun x5 _ => ?_)
  refine lv_ior hx hb zd_D_end_20 ?_
  refine lv_topi (fun x6 _ => ?_)
  refine kz_callv (wk := [(o, .inl (cI, 8, .inl go))]) (va_runV (As := [.int x6]) (rest := []) ⟨hx, hb, hml, hown, hts⟩ (c_Dig_putWord l dC dI cI cAA cB cL h su ro roots ct gsu gro groots (x6) _ (by first | omega | assumption)) (cwV 1 hts (kz_g (kz_mc mw_310 (kz_mc mw_312 (kz_mc mw_13 (kz_mc mw_42 kz_mn)))) mw_313) rfl rfl rfl (by decide +kernel) ⟨Nat.le_of_ble_eq_true rfl, Nat.le_of_ble_eq_true rfl⟩) (kz_preV hdy hA hK hro hZ hN [0, 1, 2] (by decide) rfl [(true, 0)] rfl (by decide) [0, 1, 2, 3] rfl (fun _ h => h) (fun _ h => by cases h) rfl (ci := 3) (q0 := 0) rfl rfl rfl) rfl rfl hl.1 rfl (lv_room (Nat.le_of_ble_eq_true rfl)) zd_D_end_21 ⟨Nat.le_of_ble_eq_true rfl, Nat.le_of_ble_eq_true rfl⟩) hdy hA [0, 1, 2] [3] rfl rfl (by decide) (by decide) (fun u H locs hw hdy => ?_)
  obtain ⟨c7, f8, f9⟩ := u
  try dsimp only at hw
  obtain ⟨q10, -⟩ := hw
  have hdy : kz_dy (dC, dI) vwCl A s.heap H locs [(h, .inr (3, [.ref su, .ref ro, .int (nI (c7))])), (su, .inl (cI, 8, .inl f8)), (ro, .inl (cI, 64, .inl f9)), (o, .inl (cI, 8, .inl go))] := hdy.sub [1, 2, 3, 0] (by decide) rfl
  refine lv_iconst (v := (nI (0))) hx hb zd_D_end_24 (by decide) ?_
  refine lv_istore (lv' := [(7, .int (nI (0))), (5, .long y4), (0, .ref h), (1, .int v), (2, .int k), (3, .ref o), (4, .int (nI (at_)))]) hx hb zd_D_end_25 hl (by decide) rfl (fun ls hl => ?_)
  have lp27 : ∀ (n27 k27 : Nat) (c11 : Nat) (f12 : Nat → Int32) (f13 : Nat → Int32) (f14 : Nat → Int32) (H : Heap) (locs : List Loc) (ls : Array Slot), k27 ≤ 16 → 16 - k27 < n27 → c11 ≤ ct + 1 + k27 → kz_dy (dC, dI) vwCl A s.heap H locs [(h, .inr (3, [.ref su, .ref ro, .int (nI (c11))])), (su, .inl (cI, 8, .inl f12)), (ro, .inl (cI, 64, .inl f13)), (o, .inl (cI, 8, .inl f14))] → lv_has ls 8 [(7, .int (nI (k27))), (5, .long y4), (0, .ref h), (1, .int v), (2, .int k), (3, .ref o), (4, .int (nI (at_)))] → W p l e { frames := 4, cells := 0, slots := 0, locals := 98 } s m ([.ref h, .int v, .int k, .ref o, .int (nI (at_))] : List Value).toArray below meth c H locs 0 0 (MQ below (va_Qv (fun (u : Nat × (Nat → Int32) × (Nat → Int32) × (Nat → Int32)) => (u.1 ≤ ct + 20) ∧ True) (kz_B (dC, dI) vwCl A (fun u : Nat × (Nat → Int32) × (Nat → Int32) × (Nat → Int32) => [(h, .inr (3, [.ref su, .ref ro, .int (nI (u.1))])), (su, .inl (cI, 8, .inl u.2.1)), (ro, .inl (cI, 64, .inl u.2.2.1)), (o, .inl (cI, 8, .inl u.2.2.2))])) A) ([.ref h, .int v, .int k, .ref o, .int (nI (at_))] : List Value).toArray s 0 0 A) (F0 m 27 ls []) := by
    intro n27
    induction n27 with
    | zero => intro k27; intros; omega
    | succ n27 ih27 =>
      intro k27 c11 f12 f13 f14 H locs ls hi27 hn27 hbc11 hdy hl
      refine lv_iload hx hb zd_D_end_27 (lv_at hl 0 rfl) ?_
      refine lv_bipush (v := (nI (16))) hx hb zd_D_end_29 (by decide) ?_
      refine lv_icmp_ge (tgt := 57) hx hb zd_D_end_31 (by decide) (fun hc31 => ?_) (fun hc31 => ?_)
      · have hc31 : 16 ≤ k27 := (nI_leI (by omega) (by omega)).mp hc31
        refine lv_aload_n hx hb zd_D_end_57 rfl (lv_at hl 2 rfl) ?_
        refine lv_lload hx hb zd_D_end_58 (lv_at hl 1 rfl) ?_
        refine lv_bipush (v := (nI (32))) hx hb zd_D_end_60 (by decide) ?_
        refine lv_lushr hx hb zd_D_end_62 rfl ?_
        refine lv_topl (fun y15 _ => ?_)
        refine lv_l2i hx hb zd_D_end_63 rfl ?_
        refine lv_topi (fun x16 _ => ?_)
        refine kz_callv (wk := [(o, .inl (cI, 8, .inl f14))]) (va_runV (As := [.int x16]) (rest := []) ⟨hx, hb, hml, hown, hts⟩ (c_Dig_putWord l dC dI cI cAA cB cL h su ro roots c11 f12 f13 groots (x16) _ (by first | omega | assumption)) (cwV 1 hts (kz_g (kz_mc mw_310 (kz_mc mw_312 (kz_mc mw_13 (kz_mc mw_42 kz_mn)))) mw_313) rfl rfl rfl (by decide +kernel) ⟨Nat.le_of_ble_eq_true rfl, Nat.le_of_ble_eq_true rfl⟩) (kz_preV hdy hA hK hro hZ hN [0, 1, 2] (by decide) rfl [(true, 0)] rfl (by decide) [0, 1, 2, 3] rfl (fun _ h => h) (fun _ h => by cases h) rfl (ci := 3) (q0 := 0) rfl rfl rfl) rfl rfl hl.1 rfl (lv_room (Nat.le_of_ble_eq_true rfl)) zd_D_end_64 ⟨Nat.le_of_ble_eq_true rfl, Nat.le_of_ble_eq_true rfl⟩) hdy hA [0, 1, 2] [3] rfl rfl (by decide) (by decide) (fun u H locs hw hdy => ?_)
        obtain ⟨c17, f18, f19⟩ := u
        try dsimp only at hw
        obtain ⟨q20, -⟩ := hw
        have hdy : kz_dy (dC, dI) vwCl A s.heap H locs [(h, .inr (3, [.ref su, .ref ro, .int (nI (c17))])), (su, .inl (cI, 8, .inl f18)), (ro, .inl (cI, 64, .inl f19)), (o, .inl (cI, 8, .inl f14))] := hdy.sub [1, 2, 3, 0] (by decide) rfl
        refine lv_aload_n hx hb zd_D_end_67 rfl (lv_at hl 2 rfl) ?_
        refine lv_lload hx hb zd_D_end_68 (lv_at hl 1 rfl) ?_
        refine lv_l2i hx hb zd_D_end_70 rfl ?_
        refine lv_topi (fun x21 _ => ?_)
        refine kz_callv (wk := [(o, .inl (cI, 8, .inl f14))]) (va_runV (As := [.int x21]) (rest := []) ⟨hx, hb, hml, hown, hts⟩ (c_Dig_putWord l dC dI cI cAA cB cL h su ro roots c17 f18 f19 groots (x21) _ (by first | omega | assumption)) (cwV 1 hts (kz_g (kz_mc mw_310 (kz_mc mw_312 (kz_mc mw_13 (kz_mc mw_42 kz_mn)))) mw_313) rfl rfl rfl (by decide +kernel) ⟨Nat.le_of_ble_eq_true rfl, Nat.le_of_ble_eq_true rfl⟩) (kz_preV hdy hA hK hro hZ hN [0, 1, 2] (by decide) rfl [(true, 0)] rfl (by decide) [0, 1, 2, 3] rfl (fun _ h => h) (fun _ h => by cases h) rfl (ci := 3) (q0 := 0) rfl rfl rfl) rfl rfl hl.1 rfl (lv_room (Nat.le_of_ble_eq_true rfl)) zd_D_end_71 ⟨Nat.le_of_ble_eq_true rfl, Nat.le_of_ble_eq_true rfl⟩) hdy hA [0, 1, 2] [3] rfl rfl (by decide) (by decide) (fun u H locs hw hdy => ?_)
        obtain ⟨c22, f23, f24⟩ := u
        try dsimp only at hw
        obtain ⟨q25, -⟩ := hw
        have hdy : kz_dy (dC, dI) vwCl A s.heap H locs [(h, .inr (3, [.ref su, .ref ro, .int (nI (c22))])), (su, .inl (cI, 8, .inl f23)), (ro, .inl (cI, 64, .inl f24)), (o, .inl (cI, 8, .inl f14))] := hdy.sub [1, 2, 3, 0] (by decide) rfl
        refine lv_aload_n hx hb zd_D_end_74 rfl (lv_at hl 2 rfl) ?_
        refine va_get (D := (dC, dI)) (ci := 3) (v := .ref su) (C := zR_D) (T := zT_D) (N := 3) hx hb hts (fun w h => kz_c (zi_D w h)) hown hK hdy.1 0 rfl rfl 0 (by decide) (hts _ (kz_c mw_119)) (fun _ h9 => h9) rfl zd_D_end_75 ?_
        refine lv_iconst (v := (nI (0))) hx hb zd_D_end_78 (by decide) ?_
        refine lv_aload_n hx hb zd_D_end_79 rfl (lv_at hl 5 rfl) ?_
        refine lv_iload hx hb zd_D_end_80 (lv_at hl 6 rfl) ?_
        refine lv_bipush (v := (nI (8))) hx hb zd_D_end_82 (by decide) ?_
        refine va_copyi hx hb (hml.trans hl.1.symm) hown (hts _ (kz_c mw_333)) (hts _ (kz_c mw_214)) (hts _ (kz_c mw_213)) (hts _ (kz_c mw_51)) hK hdy.1 hdy.2.1 hdy.2.2 1 3 0 0 rfl rfl rfl rfl rfl (nI_pos (by omega)) (nI_pos (by omega)) (nI_pos (by omega)) (by (repeat rw [nI_clamp (by omega)]) <;> omega) (by (repeat rw [nI_clamp (by omega)]) <;> omega) (fun _ _ => rfl) (Nat.le_of_ble_eq_true rfl) (Nat.le_of_ble_eq_true rfl) zd_D_end_84 (fun H locs hP hD hS => ?_)
        obtain ⟨f26, hdy⟩ : ∃ f26 : Nat → Int32, kz_dy (dC, dI) vwCl A s.heap H locs [(h, .inr (3, [.ref su, .ref ro, .int (nI (c22))])), (su, .inl (cI, 8, .inl f23)), (ro, .inl (cI, 64, .inl f24)), (o, .inl (cI, 8, .inl f26))] := ⟨_, hP, hD, hS⟩
        exact kz_vret F (c22, f23, f24, f26) hdy (⟨by first | assumption | rfl | omega, trivial⟩) zd_D_end_87
      · have hc31 : ¬ 16 ≤ k27 := fun h9 => hc31 ((nI_leI (by omega) (by omega)).mpr h9)
        refine lv_aload_n hx hb zd_D_end_34 rfl (lv_at hl 2 rfl) ?_
        refine va_get (D := (dC, dI)) (ci := 3) (v := .int (nI (c11))) (C := zR_D) (T := zT_D) (N := 3) hx hb hts (fun w h => kz_c (zi_D w h)) hown hK hdy.1 0 rfl rfl 2 (by decide) (hts _ (kz_c mw_121)) (fun _ h9 => h9) rfl zd_D_end_35 ?_
        refine lv_bipush (v := (nI (16))) hx hb zd_D_end_38 (by decide) ?_
        refine kz_irem hx hb zd_D_end_40 (by decide) (pk_rem (by omega) (by omega) (by omega)) ?_
        refine lv_bipush (v := (nI (14))) hx hb zd_D_end_41 (by decide) ?_
        refine lv_icmp_eq (tgt := 57) hx hb zd_D_end_43 (by decide) (fun hc43 => ?_) (fun hc43 => ?_)
        · have hc43 : (c11 % 16) = 14 := (nI_eq (by omega) (by omega)).mp hc43
          refine lv_aload_n hx hb zd_D_end_57 rfl (lv_at hl 2 rfl) ?_
          refine lv_lload hx hb zd_D_end_58 (lv_at hl 1 rfl) ?_
          refine lv_bipush (v := (nI (32))) hx hb zd_D_end_60 (by decide) ?_
          refine lv_lushr hx hb zd_D_end_62 rfl ?_
          refine lv_topl (fun y27 _ => ?_)
          refine lv_l2i hx hb zd_D_end_63 rfl ?_
          refine lv_topi (fun x28 _ => ?_)
          refine kz_callv (wk := [(o, .inl (cI, 8, .inl f14))]) (va_runV (As := [.int x28]) (rest := []) ⟨hx, hb, hml, hown, hts⟩ (c_Dig_putWord l dC dI cI cAA cB cL h su ro roots c11 f12 f13 groots (x28) _ (by first | omega | assumption)) (cwV 1 hts (kz_g (kz_mc mw_310 (kz_mc mw_312 (kz_mc mw_13 (kz_mc mw_42 kz_mn)))) mw_313) rfl rfl rfl (by decide +kernel) ⟨Nat.le_of_ble_eq_true rfl, Nat.le_of_ble_eq_true rfl⟩) (kz_preV hdy hA hK hro hZ hN [0, 1, 2] (by decide) rfl [(true, 0)] rfl (by decide) [0, 1, 2, 3] rfl (fun _ h => h) (fun _ h => by cases h) rfl (ci := 3) (q0 := 0) rfl rfl rfl) rfl rfl hl.1 rfl (lv_room (Nat.le_of_ble_eq_true rfl)) zd_D_end_64 ⟨Nat.le_of_ble_eq_true rfl, Nat.le_of_ble_eq_true rfl⟩) hdy hA [0, 1, 2] [3] rfl rfl (by decide) (by decide) (fun u H locs hw hdy => ?_)
          obtain ⟨c29, f30, f31⟩ := u
          try dsimp only at hw
          obtain ⟨q32, -⟩ := hw
          have hdy : kz_dy (dC, dI) vwCl A s.heap H locs [(h, .inr (3, [.ref su, .ref ro, .int (nI (c29))])), (su, .inl (cI, 8, .inl f30)), (ro, .inl (cI, 64, .inl f31)), (o, .inl (cI, 8, .inl f14))] := hdy.sub [1, 2, 3, 0] (by decide) rfl
          refine lv_aload_n hx hb zd_D_end_67 rfl (lv_at hl 2 rfl) ?_
          refine lv_lload hx hb zd_D_end_68 (lv_at hl 1 rfl) ?_
          refine lv_l2i hx hb zd_D_end_70 rfl ?_
          refine lv_topi (fun x33 _ => ?_)
          refine kz_callv (wk := [(o, .inl (cI, 8, .inl f14))]) (va_runV (As := [.int x33]) (rest := []) ⟨hx, hb, hml, hown, hts⟩ (c_Dig_putWord l dC dI cI cAA cB cL h su ro roots c29 f30 f31 groots (x33) _ (by first | omega | assumption)) (cwV 1 hts (kz_g (kz_mc mw_310 (kz_mc mw_312 (kz_mc mw_13 (kz_mc mw_42 kz_mn)))) mw_313) rfl rfl rfl (by decide +kernel) ⟨Nat.le_of_ble_eq_true rfl, Nat.le_of_ble_eq_true rfl⟩) (kz_preV hdy hA hK hro hZ hN [0, 1, 2] (by decide) rfl [(true, 0)] rfl (by decide) [0, 1, 2, 3] rfl (fun _ h => h) (fun _ h => by cases h) rfl (ci := 3) (q0 := 0) rfl rfl rfl) rfl rfl hl.1 rfl (lv_room (Nat.le_of_ble_eq_true rfl)) zd_D_end_71 ⟨Nat.le_of_ble_eq_true rfl, Nat.le_of_ble_eq_true rfl⟩) hdy hA [0, 1, 2] [3] rfl rfl (by decide) (by decide) (fun u H locs hw hdy => ?_)
          obtain ⟨c34, f35, f36⟩ := u
          try dsimp only at hw
          obtain ⟨q37, -⟩ := hw
          have hdy : kz_dy (dC, dI) vwCl A s.heap H locs [(h, .inr (3, [.ref su, .ref ro, .int (nI (c34))])), (su, .inl (cI, 8, .inl f35)), (ro, .inl (cI, 64, .inl f36)), (o, .inl (cI, 8, .inl f14))] := hdy.sub [1, 2, 3, 0] (by decide) rfl
          refine lv_aload_n hx hb zd_D_end_74 rfl (lv_at hl 2 rfl) ?_
          refine va_get (D := (dC, dI)) (ci := 3) (v := .ref su) (C := zR_D) (T := zT_D) (N := 3) hx hb hts (fun w h => kz_c (zi_D w h)) hown hK hdy.1 0 rfl rfl 0 (by decide) (hts _ (kz_c mw_119)) (fun _ h9 => h9) rfl zd_D_end_75 ?_
          refine lv_iconst (v := (nI (0))) hx hb zd_D_end_78 (by decide) ?_
          refine lv_aload_n hx hb zd_D_end_79 rfl (lv_at hl 5 rfl) ?_
          refine lv_iload hx hb zd_D_end_80 (lv_at hl 6 rfl) ?_
          refine lv_bipush (v := (nI (8))) hx hb zd_D_end_82 (by decide) ?_
          refine va_copyi hx hb (hml.trans hl.1.symm) hown (hts _ (kz_c mw_333)) (hts _ (kz_c mw_214)) (hts _ (kz_c mw_213)) (hts _ (kz_c mw_51)) hK hdy.1 hdy.2.1 hdy.2.2 1 3 0 0 rfl rfl rfl rfl rfl (nI_pos (by omega)) (nI_pos (by omega)) (nI_pos (by omega)) (by (repeat rw [nI_clamp (by omega)]) <;> omega) (by (repeat rw [nI_clamp (by omega)]) <;> omega) (fun _ _ => rfl) (Nat.le_of_ble_eq_true rfl) (Nat.le_of_ble_eq_true rfl) zd_D_end_84 (fun H locs hP hD hS => ?_)
          obtain ⟨f38, hdy⟩ : ∃ f38 : Nat → Int32, kz_dy (dC, dI) vwCl A s.heap H locs [(h, .inr (3, [.ref su, .ref ro, .int (nI (c34))])), (su, .inl (cI, 8, .inl f35)), (ro, .inl (cI, 64, .inl f36)), (o, .inl (cI, 8, .inl f38))] := ⟨_, hP, hD, hS⟩
          exact kz_vret F (c34, f35, f36, f38) hdy (⟨by first | assumption | rfl | omega, trivial⟩) zd_D_end_87
        · have hc43 : ¬ (c11 % 16) = 14 := fun h9 => hc43 ((nI_eq (by omega) (by omega)).mpr h9)
          refine lv_aload_n hx hb zd_D_end_46 rfl (lv_at hl 2 rfl) ?_
          refine lv_iconst (v := (nI (0))) hx hb zd_D_end_47 (by decide) ?_
          refine kz_callv (wk := [(o, .inl (cI, 8, .inl f14))]) (va_runV (As := [.int (nI (0))]) (rest := []) ⟨hx, hb, hml, hown, hts⟩ (c_Dig_putWord l dC dI cI cAA cB cL h su ro roots c11 f12 f13 groots ((nI (0))) _ (by first | omega | assumption)) (cwV 1 hts (kz_g (kz_mc mw_310 (kz_mc mw_312 (kz_mc mw_13 (kz_mc mw_42 kz_mn)))) mw_313) rfl rfl rfl (by decide +kernel) ⟨Nat.le_of_ble_eq_true rfl, Nat.le_of_ble_eq_true rfl⟩) (kz_preV hdy hA hK hro hZ hN [0, 1, 2] (by decide) rfl [(true, 0)] rfl (by decide) [0, 1, 2, 3] rfl (fun _ h => h) (fun _ h => by cases h) rfl (ci := 3) (q0 := 0) rfl rfl rfl) rfl rfl hl.1 rfl (lv_room (Nat.le_of_ble_eq_true rfl)) zd_D_end_48 ⟨Nat.le_of_ble_eq_true rfl, Nat.le_of_ble_eq_true rfl⟩) hdy hA [0, 1, 2] [3] rfl rfl (by decide) (by decide) (fun u H locs hw hdy => ?_)
          obtain ⟨c39, f40, f41⟩ := u
          try dsimp only at hw
          obtain ⟨q42, -⟩ := hw
          have hdy : kz_dy (dC, dI) vwCl A s.heap H locs [(h, .inr (3, [.ref su, .ref ro, .int (nI (c39))])), (su, .inl (cI, 8, .inl f40)), (ro, .inl (cI, 64, .inl f41)), (o, .inl (cI, 8, .inl f14))] := hdy.sub [1, 2, 3, 0] (by decide) rfl
          refine lv_iinc (v := (nI (k27 + 1))) (lv' := [(7, .int (nI (k27 + 1))), (5, .long y4), (0, .ref h), (1, .int v), (2, .int k), (3, .ref o), (4, .int (nI (at_)))]) hx hb zd_D_end_51 hl (k := 0) rfl (nI_1 _) (by decide) rfl (fun ls hl => ?_)
          refine lv_goto (tgt := 27) hx hb zd_D_end_54 (by decide) ?_
          exact ih27 (k27 + 1) c39 f40 f41 f14 _ _ _ (by omega) (by omega) (by omega) hdy (lv_sub hl [0, 1, 2, 3, 4, 5, 6] rfl)
  exact lp27 (16 - 0 + 1) 0 c7 f8 f9 go _ _ _ (by omega) (by omega) (by omega) hdy (lv_sub hl [0, 1, 2, 3, 4, 5, 6] rfl)

set_option maxHeartbeats 4000000 in
set_option maxRecDepth 100000 in
/-- KeyMeeting$Digest.end(II[II)V -/
theorem c_Dig_end16 (l : Launch) (dC : Nat → ClassId) (dI : Nat → Nat → Nat) (cI cAA cB cL : ClassId) (h su ro o roots : Nat) (ct : Nat) (gsu : Nat → Int32) (gro : Nat → Int32) (go : Nat → Int32) (groots : Nat → Int32) (v : Int32) (k : Int32) (at_ : Nat) (sz : Nat) (hct : ct < 900) (hat : at_ ≤ 8) : Met l zy_D_end zw_D_end { frames := 4, cells := 0, slots := 0, locals := 98 } (kz_Pc (dC, dI) vwCl [(cI, .int), (cAA, .array .int), (cB, .byte), (cL, .long)] [("KeyMeeting$Digest", "ROOTS", "[I", .ref roots)] [] [.ref h, .int v, .int k, .ref o, .int (nI (at_))] [(h, .inr (3, [.ref su, .ref ro, .int (nI (ct))])), (su, .inl (cI, 8, .inl gsu)), (ro, .inl (cI, 64, .inl gro)), (o, .inl (cI, 16, .inl go))] [(roots, .inl (cI, 64, .inl groots))] sz) (va_Qv (fun (u : Nat × (Nat → Int32) × (Nat → Int32) × (Nat → Int32)) => (u.1 ≤ ct + 20) ∧ True) (kz_B (dC, dI) vwCl (va_A [(h, .inr (3, [.ref su, .ref ro, .int (nI (ct))])), (su, .inl (cI, 8, .inl gsu)), (ro, .inl (cI, 64, .inl gro)), (o, .inl (cI, 16, .inl go))] sz) (fun u : Nat × (Nat → Int32) × (Nat → Int32) × (Nat → Int32) => [(h, .inr (3, [.ref su, .ref ro, .int (nI (u.1))])), (su, .inl (cI, 8, .inl u.2.1)), (ro, .inl (cI, 64, .inl u.2.2.1)), (o, .inl (cI, 16, .inl u.2.2.2))])) (va_A [(h, .inr (3, [.ref su, .ref ro, .int (nI (ct))])), (su, .inl (cI, 8, .inl gsu)), (ro, .inl (cI, 64, .inl gro)), (o, .inl (cI, 16, .inl go))] sz)) 0 0 (va_A [(h, .inr (3, [.ref su, .ref ro, .int (nI (ct))])), (su, .inl (cI, 8, .inl gsu)), (ro, .inl (cI, 64, .inl gro)), (o, .inl (cI, 16, .inl go))] sz) := by
  refine kz_met (Qc := fun A => va_Qv (fun (u : Nat × (Nat → Int32) × (Nat → Int32) × (Nat → Int32)) => (u.1 ≤ ct + 20) ∧ True) (kz_B (dC, dI) vwCl A (fun u : Nat × (Nat → Int32) × (Nat → Int32) × (Nat → Int32) => [(h, .inr (3, [.ref su, .ref ro, .int (nI (u.1))])), (su, .inl (cI, 8, .inl u.2.1)), (ro, .inl (cI, 64, .inl u.2.2.1)), (o, .inl (cI, 16, .inl u.2.2.2))])) A) (cc := zc_D_end) (maxL := 8) (ret := none) (by decide) rfl (Nat.le_of_ble_eq_true rfl) ?_
  intro p e s m below meth c A ls F hA hdy hK hro hZ hN hl
  obtain ⟨hx, hb, hml, hr, hown, hlocks, hts, hnm⟩ := id F
  have hl : lv_has ls 8 [(0, .ref h), (1, .int v), (2, .int k), (3, .ref o), (4, .int (nI (at_)))] := hl
  refine lv_ldc2 (v := (32)) hx hb hown (hts _ (kz_c mw_331)) zd_D_end_0 ?_
  refine lv_aload_n hx hb zd_D_end_3 rfl (lv_at hl 0 rfl) ?_
  refine va_get (D := (dC, dI)) (ci := 3) (v := .int (nI (ct))) (C := zR_D) (T := zT_D) (N := 3) hx hb hts (fun w h => kz_c (zi_D w h)) hown hK hdy.1 0 rfl rfl 2 (by decide) (hts _ (kz_c mw_121)) (fun _ h9 => h9) rfl zd_D_end_4 ?_
  refine lv_i2l hx hb zd_D_end_7 rfl ?_
  refine lv_topl (fun y1 _ => ?_)
  refine lv_lmul hx hb zd_D_end_8 ?_
  refine lv_topl (fun y2 _ => ?_)
  refine lv_iload_n hx hb zd_D_end_9 rfl (lv_at hl 2 rfl) ?_
  refine lv_i2l hx hb zd_D_end_10 rfl ?_
  refine lv_topl (fun y3 _ => ?_)
  refine lv_ladd hx hb zd_D_end_11 ?_
  refine lv_topl (fun y4 _ => ?_)
  refine lv_lstore (lv' := [(5, .long y4), (0, .ref h), (1, .int v), (2, .int k), (3, .ref o), (4, .int (nI (at_)))]) hx hb zd_D_end_12 hl (by decide) rfl (fun ls hl => ?_)
  refine lv_aload_n hx hb zd_D_end_14 rfl (lv_at hl 1 rfl) ?_
  refine lv_iload_n hx hb zd_D_end_15 rfl (lv_at hl 2 rfl) ?_
  refine lv_ldc (v := (-2147483648)) hx hb hown (hts _ (kz_c mw_332)) zd_D_end_16 ?_
  refine lv_iload_n hx hb zd_D_end_18 rfl (lv_at hl 3 rfl) ?_
  refine lv_iushr hx hb zd_D_end_19 rfl ?_
  refine lv_topi (fun x5 _ => ?_)
  refine lv_ior hx hb zd_D_end_20 ?_
  refine lv_topi (fun x6 _ => ?_)
  refine kz_callv (wk := [(o, .inl (cI, 16, .inl go))]) (va_runV (As := [.int x6]) (rest := []) ⟨hx, hb, hml, hown, hts⟩ (c_Dig_putWord l dC dI cI cAA cB cL h su ro roots ct gsu gro groots (x6) _ (by first | omega | assumption)) (cwV 1 hts (kz_g (kz_mc mw_310 (kz_mc mw_312 (kz_mc mw_13 (kz_mc mw_42 kz_mn)))) mw_313) rfl rfl rfl (by decide +kernel) ⟨Nat.le_of_ble_eq_true rfl, Nat.le_of_ble_eq_true rfl⟩) (kz_preV hdy hA hK hro hZ hN [0, 1, 2] (by decide) rfl [(true, 0)] rfl (by decide) [0, 1, 2, 3] rfl (fun _ h => h) (fun _ h => by cases h) rfl (ci := 3) (q0 := 0) rfl rfl rfl) rfl rfl hl.1 rfl (lv_room (Nat.le_of_ble_eq_true rfl)) zd_D_end_21 ⟨Nat.le_of_ble_eq_true rfl, Nat.le_of_ble_eq_true rfl⟩) hdy hA [0, 1, 2] [3] rfl rfl (by decide) (by decide) (fun u H locs hw hdy => ?_)
  obtain ⟨c7, f8, f9⟩ := u
  try dsimp only at hw
  obtain ⟨q10, -⟩ := hw
  have hdy : kz_dy (dC, dI) vwCl A s.heap H locs [(h, .inr (3, [.ref su, .ref ro, .int (nI (c7))])), (su, .inl (cI, 8, .inl f8)), (ro, .inl (cI, 64, .inl f9)), (o, .inl (cI, 16, .inl go))] := hdy.sub [1, 2, 3, 0] (by decide) rfl
  refine lv_iconst (v := (nI (0))) hx hb zd_D_end_24 (by decide) ?_
  refine lv_istore (lv' := [(7, .int (nI (0))), (5, .long y4), (0, .ref h), (1, .int v), (2, .int k), (3, .ref o), (4, .int (nI (at_)))]) hx hb zd_D_end_25 hl (by decide) rfl (fun ls hl => ?_)
  have lp27 : ∀ (n27 k27 : Nat) (c11 : Nat) (f12 : Nat → Int32) (f13 : Nat → Int32) (f14 : Nat → Int32) (H : Heap) (locs : List Loc) (ls : Array Slot), k27 ≤ 16 → 16 - k27 < n27 → c11 ≤ ct + 1 + k27 → kz_dy (dC, dI) vwCl A s.heap H locs [(h, .inr (3, [.ref su, .ref ro, .int (nI (c11))])), (su, .inl (cI, 8, .inl f12)), (ro, .inl (cI, 64, .inl f13)), (o, .inl (cI, 16, .inl f14))] → lv_has ls 8 [(7, .int (nI (k27))), (5, .long y4), (0, .ref h), (1, .int v), (2, .int k), (3, .ref o), (4, .int (nI (at_)))] → W p l e { frames := 4, cells := 0, slots := 0, locals := 98 } s m ([.ref h, .int v, .int k, .ref o, .int (nI (at_))] : List Value).toArray below meth c H locs 0 0 (MQ below (va_Qv (fun (u : Nat × (Nat → Int32) × (Nat → Int32) × (Nat → Int32)) => (u.1 ≤ ct + 20) ∧ True) (kz_B (dC, dI) vwCl A (fun u : Nat × (Nat → Int32) × (Nat → Int32) × (Nat → Int32) => [(h, .inr (3, [.ref su, .ref ro, .int (nI (u.1))])), (su, .inl (cI, 8, .inl u.2.1)), (ro, .inl (cI, 64, .inl u.2.2.1)), (o, .inl (cI, 16, .inl u.2.2.2))])) A) ([.ref h, .int v, .int k, .ref o, .int (nI (at_))] : List Value).toArray s 0 0 A) (F0 m 27 ls []) := by
    intro n27
    induction n27 with
    | zero => intro k27; intros; omega
    | succ n27 ih27 =>
      intro k27 c11 f12 f13 f14 H locs ls hi27 hn27 hbc11 hdy hl
      refine lv_iload hx hb zd_D_end_27 (lv_at hl 0 rfl) ?_
      refine lv_bipush (v := (nI (16))) hx hb zd_D_end_29 (by decide) ?_
      refine lv_icmp_ge (tgt := 57) hx hb zd_D_end_31 (by decide) (fun hc31 => ?_) (fun hc31 => ?_)
      · have hc31 : 16 ≤ k27 := (nI_leI (by omega) (by omega)).mp hc31
        refine lv_aload_n hx hb zd_D_end_57 rfl (lv_at hl 2 rfl) ?_
        refine lv_lload hx hb zd_D_end_58 (lv_at hl 1 rfl) ?_
        refine lv_bipush (v := (nI (32))) hx hb zd_D_end_60 (by decide) ?_
        refine lv_lushr hx hb zd_D_end_62 rfl ?_
        refine lv_topl (fun y15 _ => ?_)
        refine lv_l2i hx hb zd_D_end_63 rfl ?_
        refine lv_topi (fun x16 _ => ?_)
        refine kz_callv (wk := [(o, .inl (cI, 16, .inl f14))]) (va_runV (As := [.int x16]) (rest := []) ⟨hx, hb, hml, hown, hts⟩ (c_Dig_putWord l dC dI cI cAA cB cL h su ro roots c11 f12 f13 groots (x16) _ (by first | omega | assumption)) (cwV 1 hts (kz_g (kz_mc mw_310 (kz_mc mw_312 (kz_mc mw_13 (kz_mc mw_42 kz_mn)))) mw_313) rfl rfl rfl (by decide +kernel) ⟨Nat.le_of_ble_eq_true rfl, Nat.le_of_ble_eq_true rfl⟩) (kz_preV hdy hA hK hro hZ hN [0, 1, 2] (by decide) rfl [(true, 0)] rfl (by decide) [0, 1, 2, 3] rfl (fun _ h => h) (fun _ h => by cases h) rfl (ci := 3) (q0 := 0) rfl rfl rfl) rfl rfl hl.1 rfl (lv_room (Nat.le_of_ble_eq_true rfl)) zd_D_end_64 ⟨Nat.le_of_ble_eq_true rfl, Nat.le_of_ble_eq_true rfl⟩) hdy hA [0, 1, 2] [3] rfl rfl (by decide) (by decide) (fun u H locs hw hdy => ?_)
        obtain ⟨c17, f18, f19⟩ := u
        try dsimp only at hw
        obtain ⟨q20, -⟩ := hw
        have hdy : kz_dy (dC, dI) vwCl A s.heap H locs [(h, .inr (3, [.ref su, .ref ro, .int (nI (c17))])), (su, .inl (cI, 8, .inl f18)), (ro, .inl (cI, 64, .inl f19)), (o, .inl (cI, 16, .inl f14))] := hdy.sub [1, 2, 3, 0] (by decide) rfl
        refine lv_aload_n hx hb zd_D_end_67 rfl (lv_at hl 2 rfl) ?_
        refine lv_lload hx hb zd_D_end_68 (lv_at hl 1 rfl) ?_
        refine lv_l2i hx hb zd_D_end_70 rfl ?_
        refine lv_topi (fun x21 _ => ?_)
        refine kz_callv (wk := [(o, .inl (cI, 16, .inl f14))]) (va_runV (As := [.int x21]) (rest := []) ⟨hx, hb, hml, hown, hts⟩ (c_Dig_putWord l dC dI cI cAA cB cL h su ro roots c17 f18 f19 groots (x21) _ (by first | omega | assumption)) (cwV 1 hts (kz_g (kz_mc mw_310 (kz_mc mw_312 (kz_mc mw_13 (kz_mc mw_42 kz_mn)))) mw_313) rfl rfl rfl (by decide +kernel) ⟨Nat.le_of_ble_eq_true rfl, Nat.le_of_ble_eq_true rfl⟩) (kz_preV hdy hA hK hro hZ hN [0, 1, 2] (by decide) rfl [(true, 0)] rfl (by decide) [0, 1, 2, 3] rfl (fun _ h => h) (fun _ h => by cases h) rfl (ci := 3) (q0 := 0) rfl rfl rfl) rfl rfl hl.1 rfl (lv_room (Nat.le_of_ble_eq_true rfl)) zd_D_end_71 ⟨Nat.le_of_ble_eq_true rfl, Nat.le_of_ble_eq_true rfl⟩) hdy hA [0, 1, 2] [3] rfl rfl (by decide) (by decide) (fun u H locs hw hdy => ?_)
        obtain ⟨c22, f23, f24⟩ := u
        try dsimp only at hw
        obtain ⟨q25, -⟩ := hw
        have hdy : kz_dy (dC, dI) vwCl A s.heap H locs [(h, .inr (3, [.ref su, .ref ro, .int (nI (c22))])), (su, .inl (cI, 8, .inl f23)), (ro, .inl (cI, 64, .inl f24)), (o, .inl (cI, 16, .inl f14))] := hdy.sub [1, 2, 3, 0] (by decide) rfl
        refine lv_aload_n hx hb zd_D_end_74 rfl (lv_at hl 2 rfl) ?_
        refine va_get (D := (dC, dI)) (ci := 3) (v := .ref su) (C := zR_D) (T := zT_D) (N := 3) hx hb hts (fun w h => kz_c (zi_D w h)) hown hK hdy.1 0 rfl rfl 0 (by decide) (hts _ (kz_c mw_119)) (fun _ h9 => h9) rfl zd_D_end_75 ?_
        refine lv_iconst (v := (nI (0))) hx hb zd_D_end_78 (by decide) ?_
        refine lv_aload_n hx hb zd_D_end_79 rfl (lv_at hl 5 rfl) ?_
        refine lv_iload hx hb zd_D_end_80 (lv_at hl 6 rfl) ?_
        refine lv_bipush (v := (nI (8))) hx hb zd_D_end_82 (by decide) ?_
        refine va_copyi hx hb (hml.trans hl.1.symm) hown (hts _ (kz_c mw_333)) (hts _ (kz_c mw_214)) (hts _ (kz_c mw_213)) (hts _ (kz_c mw_51)) hK hdy.1 hdy.2.1 hdy.2.2 1 3 0 0 rfl rfl rfl rfl rfl (nI_pos (by omega)) (nI_pos (by omega)) (nI_pos (by omega)) (by (repeat rw [nI_clamp (by omega)]) <;> omega) (by (repeat rw [nI_clamp (by omega)]) <;> omega) (fun _ _ => rfl) (Nat.le_of_ble_eq_true rfl) (Nat.le_of_ble_eq_true rfl) zd_D_end_84 (fun H locs hP hD hS => ?_)
        obtain ⟨f26, hdy⟩ : ∃ f26 : Nat → Int32, kz_dy (dC, dI) vwCl A s.heap H locs [(h, .inr (3, [.ref su, .ref ro, .int (nI (c22))])), (su, .inl (cI, 8, .inl f23)), (ro, .inl (cI, 64, .inl f24)), (o, .inl (cI, 16, .inl f26))] := ⟨_, hP, hD, hS⟩
        exact kz_vret F (c22, f23, f24, f26) hdy (⟨by first | assumption | rfl | omega, trivial⟩) zd_D_end_87
      · have hc31 : ¬ 16 ≤ k27 := fun h9 => hc31 ((nI_leI (by omega) (by omega)).mpr h9)
        refine lv_aload_n hx hb zd_D_end_34 rfl (lv_at hl 2 rfl) ?_
        refine va_get (D := (dC, dI)) (ci := 3) (v := .int (nI (c11))) (C := zR_D) (T := zT_D) (N := 3) hx hb hts (fun w h => kz_c (zi_D w h)) hown hK hdy.1 0 rfl rfl 2 (by decide) (hts _ (kz_c mw_121)) (fun _ h9 => h9) rfl zd_D_end_35 ?_
        refine lv_bipush (v := (nI (16))) hx hb zd_D_end_38 (by decide) ?_
        refine kz_irem hx hb zd_D_end_40 (by decide) (pk_rem (by omega) (by omega) (by omega)) ?_
        refine lv_bipush (v := (nI (14))) hx hb zd_D_end_41 (by decide) ?_
        refine lv_icmp_eq (tgt := 57) hx hb zd_D_end_43 (by decide) (fun hc43 => ?_) (fun hc43 => ?_)
        · have hc43 : (c11 % 16) = 14 := (nI_eq (by omega) (by omega)).mp hc43
          refine lv_aload_n hx hb zd_D_end_57 rfl (lv_at hl 2 rfl) ?_
          refine lv_lload hx hb zd_D_end_58 (lv_at hl 1 rfl) ?_
          refine lv_bipush (v := (nI (32))) hx hb zd_D_end_60 (by decide) ?_
          refine lv_lushr hx hb zd_D_end_62 rfl ?_
          refine lv_topl (fun y27 _ => ?_)
          refine lv_l2i hx hb zd_D_end_63 rfl ?_
          refine lv_topi (fun x28 _ => ?_)
          refine kz_callv (wk := [(o, .inl (cI, 16, .inl f14))]) (va_runV (As := [.int x28]) (rest := []) ⟨hx, hb, hml, hown, hts⟩ (c_Dig_putWord l dC dI cI cAA cB cL h su ro roots c11 f12 f13 groots (x28) _ (by first | omega | assumption)) (cwV 1 hts (kz_g (kz_mc mw_310 (kz_mc mw_312 (kz_mc mw_13 (kz_mc mw_42 kz_mn)))) mw_313) rfl rfl rfl (by decide +kernel) ⟨Nat.le_of_ble_eq_true rfl, Nat.le_of_ble_eq_true rfl⟩) (kz_preV hdy hA hK hro hZ hN [0, 1, 2] (by decide) rfl [(true, 0)] rfl (by decide) [0, 1, 2, 3] rfl (fun _ h => h) (fun _ h => by cases h) rfl (ci := 3) (q0 := 0) rfl rfl rfl) rfl rfl hl.1 rfl (lv_room (Nat.le_of_ble_eq_true rfl)) zd_D_end_64 ⟨Nat.le_of_ble_eq_true rfl, Nat.le_of_ble_eq_true rfl⟩) hdy hA [0, 1, 2] [3] rfl rfl (by decide) (by decide) (fun u H locs hw hdy => ?_)
          obtain ⟨c29, f30, f31⟩ := u
          try dsimp only at hw
          obtain ⟨q32, -⟩ := hw
          have hdy : kz_dy (dC, dI) vwCl A s.heap H locs [(h, .inr (3, [.ref su, .ref ro, .int (nI (c29))])), (su, .inl (cI, 8, .inl f30)), (ro, .inl (cI, 64, .inl f31)), (o, .inl (cI, 16, .inl f14))] := hdy.sub [1, 2, 3, 0] (by decide) rfl
          refine lv_aload_n hx hb zd_D_end_67 rfl (lv_at hl 2 rfl) ?_
          refine lv_lload hx hb zd_D_end_68 (lv_at hl 1 rfl) ?_
          refine lv_l2i hx hb zd_D_end_70 rfl ?_
          refine lv_topi (fun x33 _ => ?_)
          refine kz_callv (wk := [(o, .inl (cI, 16, .inl f14))]) (va_runV (As := [.int x33]) (rest := []) ⟨hx, hb, hml, hown, hts⟩ (c_Dig_putWord l dC dI cI cAA cB cL h su ro roots c29 f30 f31 groots (x33) _ (by first | omega | assumption)) (cwV 1 hts (kz_g (kz_mc mw_310 (kz_mc mw_312 (kz_mc mw_13 (kz_mc mw_42 kz_mn)))) mw_313) rfl rfl rfl (by decide +kernel) ⟨Nat.le_of_ble_eq_true rfl, Nat.le_of_ble_eq_true rfl⟩) (kz_preV hdy hA hK hro hZ hN [0, 1, 2] (by decide) rfl [(true, 0)] rfl (by decide) [0, 1, 2, 3] rfl (fun _ h => h) (fun _ h => by cases h) rfl (ci := 3) (q0 := 0) rfl rfl rfl) rfl rfl hl.1 rfl (lv_room (Nat.le_of_ble_eq_true rfl)) zd_D_end_71 ⟨Nat.le_of_ble_eq_true rfl, Nat.le_of_ble_eq_true rfl⟩) hdy hA [0, 1, 2] [3] rfl rfl (by decide) (by decide) (fun u H locs hw hdy => ?_)
          obtain ⟨c34, f35, f36⟩ := u
          try dsimp only at hw
          obtain ⟨q37, -⟩ := hw
          have hdy : kz_dy (dC, dI) vwCl A s.heap H locs [(h, .inr (3, [.ref su, .ref ro, .int (nI (c34))])), (su, .inl (cI, 8, .inl f35)), (ro, .inl (cI, 64, .inl f36)), (o, .inl (cI, 16, .inl f14))] := hdy.sub [1, 2, 3, 0] (by decide) rfl
          refine lv_aload_n hx hb zd_D_end_74 rfl (lv_at hl 2 rfl) ?_
          refine va_get (D := (dC, dI)) (ci := 3) (v := .ref su) (C := zR_D) (T := zT_D) (N := 3) hx hb hts (fun w h => kz_c (zi_D w h)) hown hK hdy.1 0 rfl rfl 0 (by decide) (hts _ (kz_c mw_119)) (fun _ h9 => h9) rfl zd_D_end_75 ?_
          refine lv_iconst (v := (nI (0))) hx hb zd_D_end_78 (by decide) ?_
          refine lv_aload_n hx hb zd_D_end_79 rfl (lv_at hl 5 rfl) ?_
          refine lv_iload hx hb zd_D_end_80 (lv_at hl 6 rfl) ?_
          refine lv_bipush (v := (nI (8))) hx hb zd_D_end_82 (by decide) ?_
          refine va_copyi hx hb (hml.trans hl.1.symm) hown (hts _ (kz_c mw_333)) (hts _ (kz_c mw_214)) (hts _ (kz_c mw_213)) (hts _ (kz_c mw_51)) hK hdy.1 hdy.2.1 hdy.2.2 1 3 0 0 rfl rfl rfl rfl rfl (nI_pos (by omega)) (nI_pos (by omega)) (nI_pos (by omega)) (by (repeat rw [nI_clamp (by omega)]) <;> omega) (by (repeat rw [nI_clamp (by omega)]) <;> omega) (fun _ _ => rfl) (Nat.le_of_ble_eq_true rfl) (Nat.le_of_ble_eq_true rfl) zd_D_end_84 (fun H locs hP hD hS => ?_)
          obtain ⟨f38, hdy⟩ : ∃ f38 : Nat → Int32, kz_dy (dC, dI) vwCl A s.heap H locs [(h, .inr (3, [.ref su, .ref ro, .int (nI (c34))])), (su, .inl (cI, 8, .inl f35)), (ro, .inl (cI, 64, .inl f36)), (o, .inl (cI, 16, .inl f38))] := ⟨_, hP, hD, hS⟩
          exact kz_vret F (c34, f35, f36, f38) hdy (⟨by first | assumption | rfl | omega, trivial⟩) zd_D_end_87
        · have hc43 : ¬ (c11 % 16) = 14 := fun h9 => hc43 ((nI_eq (by omega) (by omega)).mpr h9)
          refine lv_aload_n hx hb zd_D_end_46 rfl (lv_at hl 2 rfl) ?_
          refine lv_iconst (v := (nI (0))) hx hb zd_D_end_47 (by decide) ?_
          refine kz_callv (wk := [(o, .inl (cI, 16, .inl f14))]) (va_runV (As := [.int (nI (0))]) (rest := []) ⟨hx, hb, hml, hown, hts⟩ (c_Dig_putWord l dC dI cI cAA cB cL h su ro roots c11 f12 f13 groots ((nI (0))) _ (by first | omega | assumption)) (cwV 1 hts (kz_g (kz_mc mw_310 (kz_mc mw_312 (kz_mc mw_13 (kz_mc mw_42 kz_mn)))) mw_313) rfl rfl rfl (by decide +kernel) ⟨Nat.le_of_ble_eq_true rfl, Nat.le_of_ble_eq_true rfl⟩) (kz_preV hdy hA hK hro hZ hN [0, 1, 2] (by decide) rfl [(true, 0)] rfl (by decide) [0, 1, 2, 3] rfl (fun _ h => h) (fun _ h => by cases h) rfl (ci := 3) (q0 := 0) rfl rfl rfl) rfl rfl hl.1 rfl (lv_room (Nat.le_of_ble_eq_true rfl)) zd_D_end_48 ⟨Nat.le_of_ble_eq_true rfl, Nat.le_of_ble_eq_true rfl⟩) hdy hA [0, 1, 2] [3] rfl rfl (by decide) (by decide) (fun u H locs hw hdy => ?_)
          obtain ⟨c39, f40, f41⟩ := u
          try dsimp only at hw
          obtain ⟨q42, -⟩ := hw
          have hdy : kz_dy (dC, dI) vwCl A s.heap H locs [(h, .inr (3, [.ref su, .ref ro, .int (nI (c39))])), (su, .inl (cI, 8, .inl f40)), (ro, .inl (cI, 64, .inl f41)), (o, .inl (cI, 16, .inl f14))] := hdy.sub [1, 2, 3, 0] (by decide) rfl
          refine lv_iinc (v := (nI (k27 + 1))) (lv' := [(7, .int (nI (k27 + 1))), (5, .long y4), (0, .ref h), (1, .int v), (2, .int k), (3, .ref o), (4, .int (nI (at_)))]) hx hb zd_D_end_51 hl (k := 0) rfl (nI_1 _) (by decide) rfl (fun ls hl => ?_)
          refine lv_goto (tgt := 27) hx hb zd_D_end_54 (by decide) ?_
          exact ih27 (k27 + 1) c39 f40 f41 f14 _ _ _ (by omega) (by omega) (by omega) hdy (lv_sub hl [0, 1, 2, 3, 4, 5, 6] rfl)
  exact lp27 (16 - 0 + 1) 0 c7 f8 f9 go _ _ _ (by omega) (by omega) (by omega) hdy (lv_sub hl [0, 1, 2, 3, 4, 5, 6] rfl)
end
