-- ===== PART A: goes FIRST, ahead of the names: the tables' words, and 'selects' of the private methods out of them =====
/-- a private method of a class that the tables say can be made, by its rows of tables_1 -/
def lw_okq (q : MethodName × Nat) : Prop := (q.1.cls ≠ "java/lang/invoke/MethodHandle" ∧ q.1.cls ≠ "java/lang/invoke/VarHandle") ∧ Cond.instantiable q.1.cls q.2 ∈ tables_1 ∧ Cond.privateMethod q.1 ∈ tables_1 ∧ Cond.instanceMethod q.1 ∈ tables_1
theorem lw_p0 : lw_okq (⟨"KeyMeeting", "numbersAreFit", "()Z"⟩, 13) := ⟨⟨by decide +kernel, by decide +kernel⟩, List.mem_of_getElem? (i := 16) (by decide +kernel), List.mem_of_getElem? (i := 136) (by decide +kernel), List.mem_of_getElem? (i := 137) (by decide +kernel)⟩
theorem lw_p1 : lw_okq (⟨"KeyMeeting", "isFitPower", "([I)Z"⟩, 13) := ⟨⟨by decide +kernel, by decide +kernel⟩, List.mem_of_getElem? (i := 16) (by decide +kernel), List.mem_of_getElem? (i := 144) (by decide +kernel), List.mem_of_getElem? (i := 145) (by decide +kernel)⟩
theorem lw_p2 : lw_okq (⟨"KeyMeeting$Host", "multiplyBoth", "([I)V"⟩, 5) := ⟨⟨by decide +kernel, by decide +kernel⟩, List.mem_of_getElem? (i := 26) (by decide +kernel), List.mem_of_getElem? (i := 162) (by decide +kernel), List.mem_of_getElem? (i := 163) (by decide +kernel)⟩
theorem lw_p3 : lw_okq (⟨"KeyMeeting$Host", "invert", "()Z"⟩, 5) := ⟨⟨by decide +kernel, by decide +kernel⟩, List.mem_of_getElem? (i := 26) (by decide +kernel), List.mem_of_getElem? (i := 179) (by decide +kernel), List.mem_of_getElem? (i := 180) (by decide +kernel)⟩
theorem lw_p4 : lw_okq (⟨"KeyMeeting$Host", "restOfInverse", "()J"⟩, 5) := ⟨⟨by decide +kernel, by decide +kernel⟩, List.mem_of_getElem? (i := 26) (by decide +kernel), List.mem_of_getElem? (i := 183) (by decide +kernel), List.mem_of_getElem? (i := 184) (by decide +kernel)⟩
theorem lw_p5 : lw_okq (⟨"KeyMeeting$Host", "divideInverse", "(J)V"⟩, 5) := ⟨⟨by decide +kernel, by decide +kernel⟩, List.mem_of_getElem? (i := 26) (by decide +kernel), List.mem_of_getElem? (i := 192) (by decide +kernel), List.mem_of_getElem? (i := 193) (by decide +kernel)⟩
theorem lw_p6 : lw_okq (⟨"KeyMeeting$Modulus", "multiply", "([I[I[I)V"⟩, 6) := ⟨⟨by decide +kernel, by decide +kernel⟩, List.mem_of_getElem? (i := 51) (by decide +kernel), List.mem_of_getElem? (i := 218) (by decide +kernel), List.mem_of_getElem? (i := 219) (by decide +kernel)⟩
theorem lw_p7 : lw_okq (⟨"KeyMeeting$Modulus", "reduce", "()V"⟩, 6) := ⟨⟨by decide +kernel, by decide +kernel⟩, List.mem_of_getElem? (i := 51) (by decide +kernel), List.mem_of_getElem? (i := 223) (by decide +kernel), List.mem_of_getElem? (i := 224) (by decide +kernel)⟩
theorem lw_p8 : lw_okq (⟨"KeyMeeting$Modulus", "guessDigit", "(I)J"⟩, 6) := ⟨⟨by decide +kernel, by decide +kernel⟩, List.mem_of_getElem? (i := 51) (by decide +kernel), List.mem_of_getElem? (i := 227) (by decide +kernel), List.mem_of_getElem? (i := 228) (by decide +kernel)⟩
theorem lw_p9 : lw_okq (⟨"KeyMeeting$Modulus", "takeAway", "(JI)V"⟩, 6) := ⟨⟨by decide +kernel, by decide +kernel⟩, List.mem_of_getElem? (i := 51) (by decide +kernel), List.mem_of_getElem? (i := 232) (by decide +kernel), List.mem_of_getElem? (i := 233) (by decide +kernel)⟩
theorem lw_p10 : lw_okq (⟨"KeyMeeting$Modulus", "giveBack", "(I)J"⟩, 6) := ⟨⟨by decide +kernel, by decide +kernel⟩, List.mem_of_getElem? (i := 51) (by decide +kernel), List.mem_of_getElem? (i := 236) (by decide +kernel), List.mem_of_getElem? (i := 237) (by decide +kernel)⟩
theorem lw_p11 : lw_okq (⟨"KeyMeeting", "endWith", "(I)I"⟩, 13) := ⟨⟨by decide +kernel, by decide +kernel⟩, List.mem_of_getElem? (i := 16) (by decide +kernel), List.mem_of_getElem? (i := 254) (by decide +kernel), List.mem_of_getElem? (i := 255) (by decide +kernel)⟩
theorem lw_p12 : lw_okq (⟨"KeyMeeting", "makeHash", "(I[I)V"⟩, 13) := ⟨⟨by decide +kernel, by decide +kernel⟩, List.mem_of_getElem? (i := 16) (by decide +kernel), List.mem_of_getElem? (i := 258) (by decide +kernel), List.mem_of_getElem? (i := 259) (by decide +kernel)⟩
theorem lw_p13 : lw_okq (⟨"KeyMeeting$Digest", "putWord", "(I)V"⟩, 3) := ⟨⟨by decide +kernel, by decide +kernel⟩, List.mem_of_getElem? (i := 76) (by decide +kernel), List.mem_of_getElem? (i := 273) (by decide +kernel), List.mem_of_getElem? (i := 274) (by decide +kernel)⟩
theorem lw_p14 : lw_okq (⟨"KeyMeeting$Digest", "mixRow", "()V"⟩, 3) := ⟨⟨by decide +kernel, by decide +kernel⟩, List.mem_of_getElem? (i := 76) (by decide +kernel), List.mem_of_getElem? (i := 277) (by decide +kernel), List.mem_of_getElem? (i := 278) (by decide +kernel)⟩
theorem lw_p15 : lw_okq (⟨"KeyMeeting$Digest", "spreadRow", "()V"⟩, 3) := ⟨⟨by decide +kernel, by decide +kernel⟩, List.mem_of_getElem? (i := 76) (by decide +kernel), List.mem_of_getElem? (i := 281) (by decide +kernel), List.mem_of_getElem? (i := 282) (by decide +kernel)⟩
def lw_privs_1 : List (MethodName × Nat) := [(⟨"KeyMeeting", "numbersAreFit", "()Z"⟩, 13), (⟨"KeyMeeting", "isFitPower", "([I)Z"⟩, 13), (⟨"KeyMeeting$Host", "multiplyBoth", "([I)V"⟩, 5), (⟨"KeyMeeting$Host", "invert", "()Z"⟩, 5), (⟨"KeyMeeting$Host", "restOfInverse", "()J"⟩, 5), (⟨"KeyMeeting$Host", "divideInverse", "(J)V"⟩, 5), (⟨"KeyMeeting$Modulus", "multiply", "([I[I[I)V"⟩, 6), (⟨"KeyMeeting$Modulus", "reduce", "()V"⟩, 6), (⟨"KeyMeeting$Modulus", "guessDigit", "(I)J"⟩, 6), (⟨"KeyMeeting$Modulus", "takeAway", "(JI)V"⟩, 6), (⟨"KeyMeeting$Modulus", "giveBack", "(I)J"⟩, 6), (⟨"KeyMeeting", "endWith", "(I)I"⟩, 13), (⟨"KeyMeeting", "makeHash", "(I[I)V"⟩, 13), (⟨"KeyMeeting$Digest", "putWord", "(I)V"⟩, 3), (⟨"KeyMeeting$Digest", "mixRow", "()V"⟩, 3), (⟨"KeyMeeting$Digest", "spreadRow", "()V"⟩, 3)]
theorem lw_r1 : ∀ q ∈ lw_privs_1, lw_okq q := List.forall_mem_cons.mpr ⟨lw_p0, List.forall_mem_cons.mpr ⟨lw_p1, List.forall_mem_cons.mpr ⟨lw_p2, List.forall_mem_cons.mpr ⟨lw_p3, List.forall_mem_cons.mpr ⟨lw_p4, List.forall_mem_cons.mpr ⟨lw_p5, List.forall_mem_cons.mpr ⟨lw_p6, List.forall_mem_cons.mpr ⟨lw_p7, List.forall_mem_cons.mpr ⟨lw_p8, List.forall_mem_cons.mpr ⟨lw_p9, List.forall_mem_cons.mpr ⟨lw_p10, List.forall_mem_cons.mpr ⟨lw_p11, List.forall_mem_cons.mpr ⟨lw_p12, List.forall_mem_cons.mpr ⟨lw_p13, List.forall_mem_cons.mpr ⟨lw_p14, List.forall_mem_cons.mpr ⟨lw_p15, fun _ h => absurd h List.not_mem_nil⟩⟩⟩⟩⟩⟩⟩⟩⟩⟩⟩⟩⟩⟩⟩⟩
theorem lw_p16 : lw_okq (⟨"KeyMeeting", "sign", "()V"⟩, 13) := ⟨⟨by decide +kernel, by decide +kernel⟩, List.mem_of_getElem? (i := 16) (by decide +kernel), List.mem_of_getElem? (i := 297) (by decide +kernel), List.mem_of_getElem? (i := 298) (by decide +kernel)⟩
theorem lw_p17 : lw_okq (⟨"KeyMeeting", "isSigned", "()Z"⟩, 13) := ⟨⟨by decide +kernel, by decide +kernel⟩, List.mem_of_getElem? (i := 16) (by decide +kernel), List.mem_of_getElem? (i := 309) (by decide +kernel), List.mem_of_getElem? (i := 310) (by decide +kernel)⟩
theorem lw_p18 : lw_okq (⟨"KeyMeeting", "makeKeys", "(I)V"⟩, 13) := ⟨⟨by decide +kernel, by decide +kernel⟩, List.mem_of_getElem? (i := 16) (by decide +kernel), List.mem_of_getElem? (i := 315) (by decide +kernel), List.mem_of_getElem? (i := 316) (by decide +kernel)⟩
theorem lw_p19 : lw_okq (⟨"java/lang/Throwable", "fillInStackTrace", "(I)Ljava/lang/Throwable;"⟩, 6) := ⟨⟨by decide +kernel, by decide +kernel⟩, List.mem_of_getElem? (i := 376) (by decide +kernel), List.mem_of_getElem? (i := 374) (by decide +kernel), List.mem_of_getElem? (i := 375) (by decide +kernel)⟩
theorem lw_p20 : lw_okq (⟨"KeyMeetingModel", "refused", "(ZZ)Z"⟩, 26) := ⟨⟨by decide +kernel, by decide +kernel⟩, List.mem_of_getElem? (i := 476) (by decide +kernel), List.mem_of_getElem? (i := 637) (by decide +kernel), List.mem_of_getElem? (i := 638) (by decide +kernel)⟩
theorem lw_p21 : lw_okq (⟨"KeyMeetingModel", "isGood", "()Z"⟩, 26) := ⟨⟨by decide +kernel, by decide +kernel⟩, List.mem_of_getElem? (i := 476) (by decide +kernel), List.mem_of_getElem? (i := 649) (by decide +kernel), List.mem_of_getElem? (i := 650) (by decide +kernel)⟩
theorem lw_p22 : lw_okq (⟨"KeyMeetingModel", "find", "()V"⟩, 26) := ⟨⟨by decide +kernel, by decide +kernel⟩, List.mem_of_getElem? (i := 476) (by decide +kernel), List.mem_of_getElem? (i := 657) (by decide +kernel), List.mem_of_getElem? (i := 658) (by decide +kernel)⟩
theorem lw_p23 : lw_okq (⟨"KeyMeetingModel", "multiply", "([I[I)V"⟩, 26) := ⟨⟨by decide +kernel, by decide +kernel⟩, List.mem_of_getElem? (i := 476) (by decide +kernel), List.mem_of_getElem? (i := 667) (by decide +kernel), List.mem_of_getElem? (i := 668) (by decide +kernel)⟩
theorem lw_p24 : lw_okq (⟨"KeyMeetingModel", "isWithin", "([III)Z"⟩, 26) := ⟨⟨by decide +kernel, by decide +kernel⟩, List.mem_of_getElem? (i := 476) (by decide +kernel), List.mem_of_getElem? (i := 674) (by decide +kernel), List.mem_of_getElem? (i := 675) (by decide +kernel)⟩
theorem lw_p25 : lw_okq (⟨"KeyMeetingModel", "raiseBy", "([III[II)V"⟩, 26) := ⟨⟨by decide +kernel, by decide +kernel⟩, List.mem_of_getElem? (i := 476) (by decide +kernel), List.mem_of_getElem? (i := 681) (by decide +kernel), List.mem_of_getElem? (i := 682) (by decide +kernel)⟩
theorem lw_p26 : lw_okq (⟨"KeyMeetingModel", "raise", "()V"⟩, 26) := ⟨⟨by decide +kernel, by decide +kernel⟩, List.mem_of_getElem? (i := 476) (by decide +kernel), List.mem_of_getElem? (i := 688) (by decide +kernel), List.mem_of_getElem? (i := 689) (by decide +kernel)⟩
theorem lw_p27 : lw_okq (⟨"KeyMeetingModel", "remain", "([I)V"⟩, 26) := ⟨⟨by decide +kernel, by decide +kernel⟩, List.mem_of_getElem? (i := 476) (by decide +kernel), List.mem_of_getElem? (i := 692) (by decide +kernel), List.mem_of_getElem? (i := 693) (by decide +kernel)⟩
theorem lw_p28 : lw_okq (⟨"KeyMeetingModel", "isLess", "(I)Z"⟩, 26) := ⟨⟨by decide +kernel, by decide +kernel⟩, List.mem_of_getElem? (i := 476) (by decide +kernel), List.mem_of_getElem? (i := 696) (by decide +kernel), List.mem_of_getElem? (i := 697) (by decide +kernel)⟩
theorem lw_p29 : lw_okq (⟨"KeyMeetingModel", "fail", "(I)I"⟩, 26) := ⟨⟨by decide +kernel, by decide +kernel⟩, List.mem_of_getElem? (i := 476) (by decide +kernel), List.mem_of_getElem? (i := 707) (by decide +kernel), List.mem_of_getElem? (i := 708) (by decide +kernel)⟩
theorem lw_p30 : lw_okq (⟨"KeyMeetingModel", "hash", "(I[I)V"⟩, 26) := ⟨⟨by decide +kernel, by decide +kernel⟩, List.mem_of_getElem? (i := 476) (by decide +kernel), List.mem_of_getElem? (i := 711) (by decide +kernel), List.mem_of_getElem? (i := 712) (by decide +kernel)⟩
theorem lw_p31 : lw_okq (⟨"KeyMeetingModel", "addWords", "([II)V"⟩, 26) := ⟨⟨by decide +kernel, by decide +kernel⟩, List.mem_of_getElem? (i := 476) (by decide +kernel), List.mem_of_getElem? (i := 715) (by decide +kernel), List.mem_of_getElem? (i := 716) (by decide +kernel)⟩
def lw_privs_2 : List (MethodName × Nat) := [(⟨"KeyMeeting", "sign", "()V"⟩, 13), (⟨"KeyMeeting", "isSigned", "()Z"⟩, 13), (⟨"KeyMeeting", "makeKeys", "(I)V"⟩, 13), (⟨"java/lang/Throwable", "fillInStackTrace", "(I)Ljava/lang/Throwable;"⟩, 6), (⟨"KeyMeetingModel", "refused", "(ZZ)Z"⟩, 26), (⟨"KeyMeetingModel", "isGood", "()Z"⟩, 26), (⟨"KeyMeetingModel", "find", "()V"⟩, 26), (⟨"KeyMeetingModel", "multiply", "([I[I)V"⟩, 26), (⟨"KeyMeetingModel", "isWithin", "([III)Z"⟩, 26), (⟨"KeyMeetingModel", "raiseBy", "([III[II)V"⟩, 26), (⟨"KeyMeetingModel", "raise", "()V"⟩, 26), (⟨"KeyMeetingModel", "remain", "([I)V"⟩, 26), (⟨"KeyMeetingModel", "isLess", "(I)Z"⟩, 26), (⟨"KeyMeetingModel", "fail", "(I)I"⟩, 26), (⟨"KeyMeetingModel", "hash", "(I[I)V"⟩, 26), (⟨"KeyMeetingModel", "addWords", "([II)V"⟩, 26)]
theorem lw_r2 : ∀ q ∈ lw_privs_2, lw_okq q := List.forall_mem_cons.mpr ⟨lw_p16, List.forall_mem_cons.mpr ⟨lw_p17, List.forall_mem_cons.mpr ⟨lw_p18, List.forall_mem_cons.mpr ⟨lw_p19, List.forall_mem_cons.mpr ⟨lw_p20, List.forall_mem_cons.mpr ⟨lw_p21, List.forall_mem_cons.mpr ⟨lw_p22, List.forall_mem_cons.mpr ⟨lw_p23, List.forall_mem_cons.mpr ⟨lw_p24, List.forall_mem_cons.mpr ⟨lw_p25, List.forall_mem_cons.mpr ⟨lw_p26, List.forall_mem_cons.mpr ⟨lw_p27, List.forall_mem_cons.mpr ⟨lw_p28, List.forall_mem_cons.mpr ⟨lw_p29, List.forall_mem_cons.mpr ⟨lw_p30, List.forall_mem_cons.mpr ⟨lw_p31, fun _ h => absurd h List.not_mem_nil⟩⟩⟩⟩⟩⟩⟩⟩⟩⟩⟩⟩⟩⟩⟩⟩
theorem lw_p32 : lw_okq (⟨"KeyMeetingModel", "reckon", "()V"⟩, 26) := ⟨⟨by decide +kernel, by decide +kernel⟩, List.mem_of_getElem? (i := 476) (by decide +kernel), List.mem_of_getElem? (i := 719) (by decide +kernel), List.mem_of_getElem? (i := 720) (by decide +kernel)⟩
theorem lw_p33 : lw_okq (⟨"KeyMeetingModel", "mix", "()V"⟩, 26) := ⟨⟨by decide +kernel, by decide +kernel⟩, List.mem_of_getElem? (i := 476) (by decide +kernel), List.mem_of_getElem? (i := 723) (by decide +kernel), List.mem_of_getElem? (i := 724) (by decide +kernel)⟩
theorem lw_p34 : lw_okq (⟨"KeyMeetingModel", "hashRest", "(I[I)V"⟩, 26) := ⟨⟨by decide +kernel, by decide +kernel⟩, List.mem_of_getElem? (i := 476) (by decide +kernel), List.mem_of_getElem? (i := 730) (by decide +kernel), List.mem_of_getElem? (i := 731) (by decide +kernel)⟩
theorem lw_p35 : lw_okq (⟨"KeyMeetingModel", "isTrusted", "()Z"⟩, 26) := ⟨⟨by decide +kernel, by decide +kernel⟩, List.mem_of_getElem? (i := 476) (by decide +kernel), List.mem_of_getElem? (i := 738) (by decide +kernel), List.mem_of_getElem? (i := 739) (by decide +kernel)⟩
theorem lw_p36 : lw_okq (⟨"KeyMeetingModel", "isSigned", "()Z"⟩, 26) := ⟨⟨by decide +kernel, by decide +kernel⟩, List.mem_of_getElem? (i := 476) (by decide +kernel), List.mem_of_getElem? (i := 742) (by decide +kernel), List.mem_of_getElem? (i := 743) (by decide +kernel)⟩
theorem lw_p37 : lw_okq (⟨"KeyMeetingModel", "makeKeys", "(I)V"⟩, 26) := ⟨⟨by decide +kernel, by decide +kernel⟩, List.mem_of_getElem? (i := 476) (by decide +kernel), List.mem_of_getElem? (i := 746) (by decide +kernel), List.mem_of_getElem? (i := 747) (by decide +kernel)⟩
def lw_privs_3 : List (MethodName × Nat) := [(⟨"KeyMeetingModel", "reckon", "()V"⟩, 26), (⟨"KeyMeetingModel", "mix", "()V"⟩, 26), (⟨"KeyMeetingModel", "hashRest", "(I[I)V"⟩, 26), (⟨"KeyMeetingModel", "isTrusted", "()Z"⟩, 26), (⟨"KeyMeetingModel", "isSigned", "()Z"⟩, 26), (⟨"KeyMeetingModel", "makeKeys", "(I)V"⟩, 26)]
theorem lw_r3 : ∀ q ∈ lw_privs_3, lw_okq q := List.forall_mem_cons.mpr ⟨lw_p32, List.forall_mem_cons.mpr ⟨lw_p33, List.forall_mem_cons.mpr ⟨lw_p34, List.forall_mem_cons.mpr ⟨lw_p35, List.forall_mem_cons.mpr ⟨lw_p36, List.forall_mem_cons.mpr ⟨lw_p37, fun _ h => absurd h List.not_mem_nil⟩⟩⟩⟩⟩⟩
def lw_privs : List (MethodName × Nat) := lw_privs_1 ++ (lw_privs_2 ++ (lw_privs_3))
def lw_tbl : List Cond := k2_sels lw_privs ++ tables_1
theorem lw_privs_ok : ∀ q ∈ lw_privs, lw_okq q := by
  show ∀ q ∈ lw_privs_1 ++ (lw_privs_2 ++ (lw_privs_3)), lw_okq q
  exact List.forall_mem_append.mpr ⟨lw_r1, List.forall_mem_append.mpr ⟨lw_r2, lw_r3⟩⟩

/-! NAMES (by wip/names.py) -/
def zR_D : String := "KeyMeeting$Digest"
def zR_H : String := "KeyMeeting$Host"
def zR_M : String := "KeyMeeting$Modulus"
def zR_W : String := "KeyMeeting$Words"
def zR_K : String := "KeyMeeting"
def zR_N : String := "KeyMeetingModel"
def zR_A : String := "java/util/Arrays"
def zR_L : String := "KeyMeetingLaw"
def zT_K : u_T := fun k => match k with
  | 0 => ("KeyMeeting", "told", "[[I", true)
  | 1 => ("KeyMeeting", "way", "[[I", true)
  | 2 => ("KeyMeeting", "offered", "[I", true)
  | 3 => ("KeyMeeting", "common", "[[I", true)
  | 4 => ("KeyMeeting", "hashes", "[[I", true)
  | 5 => ("KeyMeeting", "keys", "[[I", true)
  | 6 => ("KeyMeeting", "highestPower", "[I", true)
  | 7 => ("KeyMeeting", "hashRest", "[I", true)
  | 8 => ("KeyMeeting", "opened", "[I", true)
  | 9 => ("KeyMeeting", "host", "LKeyMeeting$Host;", true)
  | 10 => ("KeyMeeting", "modulus", "LKeyMeeting$Modulus;", true)
  | 11 => ("KeyMeeting", "digest", "LKeyMeeting$Digest;", true)
  | _ => ("KeyMeeting", "stage", "I", false)
def zt_K : Nat → FieldType := fun k => match k with
  | 0 => .array (.array .int)
  | 1 => .array (.array .int)
  | 2 => .array .int
  | 3 => .array (.array .int)
  | 4 => .array (.array .int)
  | 5 => .array (.array .int)
  | 6 => .array .int
  | 7 => .array .int
  | 8 => .array .int
  | 9 => .object "KeyMeeting$Host"
  | 10 => .object "KeyMeeting$Modulus"
  | 11 => .object "KeyMeeting$Digest"
  | _ => .int
theorem zn_K : ∀ a, a < 13 → ∀ b, b < 13 → a ≠ b → (zT_K a).2.1 ≠ (zT_K b).2.1 := by decide +kernel
theorem zo_K : ∀ k, k < 13 → parseFieldDescriptor (zT_K k).2.2.1 = some (zt_K k) := by decide +kernel
def zT_M : u_T := fun k => match k with
  | 0 => ("KeyMeeting$Modulus", "shifted", "[I", true)
  | 1 => ("KeyMeeting$Modulus", "factor", "[I", true)
  | 2 => ("KeyMeeting$Modulus", "wide", "[I", true)
  | 3 => ("KeyMeeting$Modulus", "low", "[I", true)
  | 4 => ("KeyMeeting$Modulus", "result", "[I", true)
  | _ => ("KeyMeeting$Modulus", "shift", "I", false)
def zt_M : Nat → FieldType := fun k => match k with
  | 0 => .array .int
  | 1 => .array .int
  | 2 => .array .int
  | 3 => .array .int
  | 4 => .array .int
  | _ => .int
theorem zn_M : ∀ a, a < 6 → ∀ b, b < 6 → a ≠ b → (zT_M a).2.1 ≠ (zT_M b).2.1 := by decide +kernel
theorem zo_M : ∀ k, k < 6 → parseFieldDescriptor (zT_M k).2.2.1 = some (zt_M k) := by decide +kernel
def zT_H : u_T := fun k => match k with
  | 0 => ("KeyMeeting$Host", "product", "[I", true)
  | 1 => ("KeyMeeting$Host", "inverse", "[I", true)
  | 2 => ("KeyMeeting$Host", "p", "[I", true)
  | 3 => ("KeyMeeting$Host", "q", "[I", true)
  | _ => ("KeyMeeting$Host", "wide", "[I", true)
def zt_H : Nat → FieldType := fun k => match k with
  | 0 => .array .int
  | 1 => .array .int
  | 2 => .array .int
  | 3 => .array .int
  | _ => .array .int
theorem zn_H : ∀ a, a < 5 → ∀ b, b < 5 → a ≠ b → (zT_H a).2.1 ≠ (zT_H b).2.1 := by decide +kernel
theorem zo_H : ∀ k, k < 5 → parseFieldDescriptor (zT_H k).2.2.1 = some (zt_H k) := by decide +kernel
def zT_D : u_T := fun k => match k with
  | 0 => ("KeyMeeting$Digest", "sums", "[I", true)
  | 1 => ("KeyMeeting$Digest", "row", "[I", true)
  | _ => ("KeyMeeting$Digest", "count", "I", false)
def zt_D : Nat → FieldType := fun k => match k with
  | 0 => .array .int
  | 1 => .array .int
  | _ => .int
theorem zn_D : ∀ a, a < 3 → ∀ b, b < 3 → a ≠ b → (zT_D a).2.1 ≠ (zT_D b).2.1 := by decide +kernel
theorem zo_D : ∀ k, k < 3 → parseFieldDescriptor (zT_D k).2.2.1 = some (zt_D k) := by decide +kernel
def zT_N : u_T := fun k => match k with
  | 0 => ("KeyMeetingModel", "thrown", "I", false)
  | 1 => ("KeyMeetingModel", "state", "I", false)
  | 2 => ("KeyMeetingModel", "told", "[I", true)
  | 3 => ("KeyMeetingModel", "sent", "[I", true)
  | 4 => ("KeyMeetingModel", "left", "[I", true)
  | 5 => ("KeyMeetingModel", "common", "[I", true)
  | 6 => ("KeyMeetingModel", "hashes", "[I", true)
  | 7 => ("KeyMeetingModel", "keys", "[I", true)
  | 8 => ("KeyMeetingModel", "p", "[I", true)
  | 9 => ("KeyMeetingModel", "m", "[I", true)
  | 10 => ("KeyMeetingModel", "base", "[I", true)
  | 11 => ("KeyMeetingModel", "power", "[I", true)
  | 12 => ("KeyMeetingModel", "result", "[I", true)
  | 13 => ("KeyMeetingModel", "product", "[I", true)
  | 14 => ("KeyMeetingModel", "rest", "[I", true)
  | 15 => ("KeyMeetingModel", "hostP", "[I", true)
  | 16 => ("KeyMeetingModel", "hostQ", "[I", true)
  | 17 => ("KeyMeetingModel", "secret", "[I", true)
  | 18 => ("KeyMeetingModel", "hasSecret", "Z", false)
  | 19 => ("KeyMeetingModel", "size", "I", false)
  | 20 => ("KeyMeetingModel", "row", "[B", true)
  | 21 => ("KeyMeetingModel", "w", "[I", true)
  | 22 => ("KeyMeetingModel", "digest", "[I", true)
  | 23 => ("KeyMeetingModel", "begun", "[I", true)
  | 24 => ("KeyMeetingModel", "roots", "[I", true)
  | _ => ("KeyMeetingModel", "begins", "[I", true)
def zt_N : Nat → FieldType := fun k => match k with
  | 0 => .int
  | 1 => .int
  | 2 => .array .int
  | 3 => .array .int
  | 4 => .array .int
  | 5 => .array .int
  | 6 => .array .int
  | 7 => .array .int
  | 8 => .array .int
  | 9 => .array .int
  | 10 => .array .int
  | 11 => .array .int
  | 12 => .array .int
  | 13 => .array .int
  | 14 => .array .int
  | 15 => .array .int
  | 16 => .array .int
  | 17 => .array .int
  | 18 => .boolean
  | 19 => .int
  | 20 => .array .byte
  | 21 => .array .int
  | 22 => .array .int
  | 23 => .array .int
  | 24 => .array .int
  | _ => .array .int
theorem zn_N : ∀ a, a < 26 → ∀ b, b < 26 → a ≠ b → (zT_N a).2.1 ≠ (zT_N b).2.1 := by decide +kernel
theorem zo_N : ∀ k, k < 26 → parseFieldDescriptor (zT_N k).2.2.1 = some (zt_N k) := by decide +kernel
abbrev vwCl : List vw_C := [(zR_K, zT_K, 13), (zR_M, zT_M, 6), (zR_H, zT_H, 5), (zR_D, zT_D, 3), (zR_N, zT_N, 26)]
abbrev zc_K_init : ByteArray := prog_1_method_1_code
def zy_K_init : MethodName := ⟨zR_K, "<init>", "()V"⟩
abbrev zc_H_init : ByteArray := prog_3_method_1_code
def zy_H_init : MethodName := ⟨zR_H, "<init>", "()V"⟩
abbrev zc_M_init : ByteArray := prog_4_method_1_code
def zy_M_init : MethodName := ⟨zR_M, "<init>", "()V"⟩
abbrev zc_D_init : ByteArray := prog_2_method_1_code
def zy_D_init : MethodName := ⟨zR_D, "<init>", "()V"⟩
abbrev zc_K_offer : ByteArray := prog_1_method_4_code
def zy_K_offer : MethodName := ⟨zR_K, "offer", "()I"⟩
abbrev zc_K_numbersAreFit : ByteArray := prog_1_method_15_code
def zy_K_numbersAreFit : MethodName := ⟨zR_K, "numbersAreFit", "()Z"⟩
abbrev zc_W_atLeast : ByteArray := prog_5_method_4_code
def zy_W_atLeast : MethodName := ⟨zR_W, "atLeast", "([II)Z"⟩
abbrev zc_K_isFitPower : ByteArray := prog_1_method_16_code
def zy_K_isFitPower : MethodName := ⟨zR_K, "isFitPower", "([I)Z"⟩
abbrev zc_W_subtract : ByteArray := prog_5_method_5_code
def zy_W_subtract : MethodName := ⟨zR_W, "subtract", "([II[I)V"⟩
abbrev zc_W_compare : ByteArray := prog_5_method_3_code
def zy_W_compare : MethodName := ⟨zR_W, "compare", "([I[I)I"⟩
abbrev zc_H_take : ByteArray := prog_3_method_2_code
def zy_H_take : MethodName := ⟨zR_H, "take", "([I[I)Z"⟩
abbrev zc_H_takeLowHalf : ByteArray := prog_3_method_3_code
def zy_H_takeLowHalf : MethodName := ⟨zR_H, "takeLowHalf", "([I[I)V"⟩
abbrev zc_H_multiplyBoth : ByteArray := prog_3_method_4_code
def zy_H_multiplyBoth : MethodName := ⟨zR_H, "multiplyBoth", "([I)V"⟩
abbrev zc_W_multiply : ByteArray := prog_5_method_6_code
def zy_W_multiply : MethodName := ⟨zR_W, "multiply", "([I[I[I)V"⟩
abbrev zc_A_fill : ByteArray := prog_16_method_103_code
def zy_A_fill : MethodName := ⟨zR_A, "fill", "([II)V"⟩
abbrev zc_W_addMultiple : ByteArray := prog_5_method_7_code
def zy_W_addMultiple : MethodName := ⟨zR_W, "addMultiple", "(J[I[II)I"⟩
abbrev zc_H_invert : ByteArray := prog_3_method_5_code
def zy_H_invert : MethodName := ⟨zR_H, "invert", "()Z"⟩
abbrev zc_H_restOfInverse : ByteArray := prog_3_method_6_code
def zy_H_restOfInverse : MethodName := ⟨zR_H, "restOfInverse", "()J"⟩
abbrev zc_H_inverseOfSmall : ByteArray := prog_3_method_7_code
def zy_H_inverseOfSmall : MethodName := ⟨zR_H, "inverseOfSmall", "(J)J"⟩
abbrev zc_H_divideInverse : ByteArray := prog_3_method_8_code
def zy_H_divideInverse : MethodName := ⟨zR_H, "divideInverse", "(J)V"⟩
abbrev zc_M_take : ByteArray := prog_4_method_2_code
def zy_M_take : MethodName := ⟨zR_M, "take", "([I)V"⟩
abbrev zc_W_leadingZeros : ByteArray := prog_5_method_9_code
def zy_W_leadingZeros : MethodName := ⟨zR_W, "leadingZeros", "([I)I"⟩
abbrev zc_W_hasBit : ByteArray := prog_5_method_8_code
def zy_W_hasBit : MethodName := ⟨zR_W, "hasBit", "([II)Z"⟩
abbrev zc_W_shiftLeft : ByteArray := prog_5_method_10_code
def zy_W_shiftLeft : MethodName := ⟨zR_W, "shiftLeft", "([II[I)V"⟩
abbrev zc_W_wordOrZero : ByteArray := prog_5_method_12_code
def zy_W_wordOrZero : MethodName := ⟨zR_W, "wordOrZero", "([II)J"⟩
abbrev zc_M_power : ByteArray := prog_4_method_4_code
def zy_M_power : MethodName := ⟨zR_M, "power", "([I[I[I)V"⟩
abbrev zc_M_multiply : ByteArray := prog_4_method_5_code
def zy_M_multiply : MethodName := ⟨zR_M, "multiply", "([I[I[I)V"⟩
abbrev zc_M_reduce : ByteArray := prog_4_method_6_code
def zy_M_reduce : MethodName := ⟨zR_M, "reduce", "()V"⟩
abbrev zc_M_guessDigit : ByteArray := prog_4_method_7_code
def zy_M_guessDigit : MethodName := ⟨zR_M, "guessDigit", "(I)J"⟩
abbrev zc_M_takeAway : ByteArray := prog_4_method_8_code
def zy_M_takeAway : MethodName := ⟨zR_M, "takeAway", "(JI)V"⟩
abbrev zc_M_giveBack : ByteArray := prog_4_method_9_code
def zy_M_giveBack : MethodName := ⟨zR_M, "giveBack", "(I)J"⟩
abbrev zc_W_shiftRight : ByteArray := prog_5_method_11_code
def zy_W_shiftRight : MethodName := ⟨zR_W, "shiftRight", "([II[I)V"⟩
abbrev zc_W_copy : ByteArray := prog_5_method_2_code
def zy_W_copy : MethodName := ⟨zR_W, "copy", "([I[I)V"⟩
abbrev zc_K_answer : ByteArray := prog_1_method_5_code
def zy_K_answer : MethodName := ⟨zR_K, "answer", "()I"⟩
abbrev zc_K_endWith : ByteArray := prog_1_method_14_code
def zy_K_endWith : MethodName := ⟨zR_K, "endWith", "(I)I"⟩
abbrev zc_K_makeHash : ByteArray := prog_1_method_17_code
def zy_K_makeHash : MethodName := ⟨zR_K, "makeHash", "(I[I)V"⟩
abbrev zc_D_clear : ByteArray := prog_2_method_2_code
def zy_D_clear : MethodName := ⟨zR_D, "clear", "()V"⟩
abbrev zc_D_put : ByteArray := prog_2_method_3_code
def zy_D_put : MethodName := ⟨zR_D, "put", "([I)V"⟩
abbrev zc_D_putWord : ByteArray := prog_2_method_5_code
def zy_D_putWord : MethodName := ⟨zR_D, "putWord", "(I)V"⟩
abbrev zc_D_mixRow : ByteArray := prog_2_method_6_code
def zy_D_mixRow : MethodName := ⟨zR_D, "mixRow", "()V"⟩
abbrev zc_D_spreadRow : ByteArray := prog_2_method_7_code
def zy_D_spreadRow : MethodName := ⟨zR_D, "spreadRow", "()V"⟩
abbrev zc_D_turn : ByteArray := prog_2_method_8_code
def zy_D_turn : MethodName := ⟨zR_D, "turn", "(II)I"⟩
abbrev zc_D_end : ByteArray := prog_2_method_4_code
def zy_D_end : MethodName := ⟨zR_D, "end", "(II[II)V"⟩
abbrev zc_K_sign : ByteArray := prog_1_method_18_code
def zy_K_sign : MethodName := ⟨zR_K, "sign", "()V"⟩
abbrev zc_M_rest : ByteArray := prog_4_method_3_code
def zy_M_rest : MethodName := ⟨zR_M, "rest", "([I[I)V"⟩
abbrev zc_K_accept : ByteArray := prog_1_method_6_code
def zy_K_accept : MethodName := ⟨zR_K, "accept", "()I"⟩
abbrev zc_K_isSigned : ByteArray := prog_1_method_19_code
def zy_K_isSigned : MethodName := ⟨zR_K, "isSigned", "()Z"⟩
abbrev zc_K_makeKeys : ByteArray := prog_1_method_20_code
def zy_K_makeKeys : MethodName := ⟨zR_K, "makeKeys", "(I)V"⟩
abbrev zc_K_state : ByteArray := prog_1_method_10_code
def zy_K_state : MethodName := ⟨zR_K, "state", "()I"⟩
abbrev zc_K_begin : ByteArray := prog_1_method_11_code
def zy_K_begin : MethodName := ⟨zR_K, "begin", "()V"⟩
abbrev zc_K_number : ByteArray := prog_1_method_2_code
def zy_K_number : MethodName := ⟨zR_K, "number", "(III)V"⟩
abbrev zc_K_needIndex : ByteArray := prog_1_method_13_code
def zy_K_needIndex : MethodName := ⟨zR_K, "needIndex", "(II)V"⟩
abbrev zc_K_small : ByteArray := prog_1_method_3_code
def zy_K_small : MethodName := ⟨zR_K, "small", "(IJ)V"⟩
abbrev zc_K_alter : ByteArray := prog_1_method_7_code
def zy_K_alter : MethodName := ⟨zR_K, "alter", "(III)I"⟩
abbrev zc_K_sent : ByteArray := prog_1_method_8_code
def zy_K_sent : MethodName := ⟨zR_K, "sent", "(II)I"⟩
abbrev zc_K_key : ByteArray := prog_1_method_9_code
def zy_K_key : MethodName := ⟨zR_K, "key", "(II)I"⟩
abbrev zc_K_secret : ByteArray := prog_1_method_12_code
def zy_K_secret : MethodName := ⟨zR_K, "secret", "(I)I"⟩
abbrev zc_N_init : ByteArray := prog_7_method_1_code
def zy_N_init : MethodName := ⟨zR_N, "<init>", "()V"⟩
abbrev zc_N_number : ByteArray := prog_7_method_17_code
def zy_N_number : MethodName := ⟨zR_N, "number", "(III)V"⟩
abbrev zc_N_refused : ByteArray := prog_7_method_3_code
def zy_N_refused : MethodName := ⟨zR_N, "refused", "(ZZ)Z"⟩
abbrev zc_N_small : ByteArray := prog_7_method_18_code
def zy_N_small : MethodName := ⟨zR_N, "small", "(IJ)V"⟩
abbrev zc_N_offer : ByteArray := prog_7_method_24_code
def zy_N_offer : MethodName := ⟨zR_N, "offer", "()I"⟩
abbrev zc_N_isGood : ByteArray := prog_7_method_22_code
def zy_N_isGood : MethodName := ⟨zR_N, "isGood", "()Z"⟩
abbrev zc_N_figures : ByteArray := prog_7_method_4_code
def zy_N_figures : MethodName := ⟨zR_N, "figures", "([II[I)V"⟩
abbrev zc_N_find : ByteArray := prog_7_method_20_code
def zy_N_find : MethodName := ⟨zR_N, "find", "()V"⟩
abbrev zc_N_isSmall : ByteArray := prog_7_method_19_code
def zy_N_isSmall : MethodName := ⟨zR_N, "isSmall", "([I)Z"⟩
abbrev zc_N_lessOne : ByteArray := prog_7_method_21_code
def zy_N_lessOne : MethodName := ⟨zR_N, "lessOne", "([I)V"⟩
abbrev zc_N_multiply : ByteArray := prog_7_method_9_code
def zy_N_multiply : MethodName := ⟨zR_N, "multiply", "([I[I)V"⟩
abbrev zc_N_isWithin : ByteArray := prog_7_method_8_code
def zy_N_isWithin : MethodName := ⟨zR_N, "isWithin", "([III)Z"⟩
abbrev zc_N_compare : ByteArray := prog_7_method_6_code
def zy_N_compare : MethodName := ⟨zR_N, "compare", "([I[I)I"⟩
abbrev zc_N_raiseBy : ByteArray := prog_7_method_23_code
def zy_N_raiseBy : MethodName := ⟨zR_N, "raiseBy", "([III[II)V"⟩
abbrev zc_N_copy : ByteArray := prog_7_method_7_code
def zy_N_copy : MethodName := ⟨zR_N, "copy", "([I[I)V"⟩
abbrev zc_N_raise : ByteArray := prog_7_method_12_code
def zy_N_raise : MethodName := ⟨zR_N, "raise", "()V"⟩
abbrev zc_N_remain : ByteArray := prog_7_method_11_code
def zy_N_remain : MethodName := ⟨zR_N, "remain", "([I)V"⟩
abbrev zc_N_isLess : ByteArray := prog_7_method_10_code
def zy_N_isLess : MethodName := ⟨zR_N, "isLess", "(I)Z"⟩
abbrev zc_N_words : ByteArray := prog_7_method_5_code
def zy_N_words : MethodName := ⟨zR_N, "words", "([I[II)V"⟩
abbrev zc_N_answer : ByteArray := prog_7_method_28_code
def zy_N_answer : MethodName := ⟨zR_N, "answer", "()I"⟩
abbrev zc_N_fail : ByteArray := prog_7_method_25_code
def zy_N_fail : MethodName := ⟨zR_N, "fail", "(I)I"⟩
abbrev zc_N_hash : ByteArray := prog_7_method_26_code
def zy_N_hash : MethodName := ⟨zR_N, "hash", "(I[I)V"⟩
abbrev zc_N_addWords : ByteArray := prog_7_method_14_code
def zy_N_addWords : MethodName := ⟨zR_N, "addWords", "([II)V"⟩
abbrev zc_N_reckon : ByteArray := prog_7_method_16_code
def zy_N_reckon : MethodName := ⟨zR_N, "reckon", "()V"⟩
abbrev zc_N_mix : ByteArray := prog_7_method_15_code
def zy_N_mix : MethodName := ⟨zR_N, "mix", "()V"⟩
abbrev zc_N_turn : ByteArray := prog_7_method_13_code
def zy_N_turn : MethodName := ⟨zR_N, "turn", "(II)I"⟩
abbrev zc_N_hashRest : ByteArray := prog_7_method_27_code
def zy_N_hashRest : MethodName := ⟨zR_N, "hashRest", "(I[I)V"⟩
abbrev zc_N_accept : ByteArray := prog_7_method_32_code
def zy_N_accept : MethodName := ⟨zR_N, "accept", "()I"⟩
abbrev zc_N_isTrusted : ByteArray := prog_7_method_29_code
def zy_N_isTrusted : MethodName := ⟨zR_N, "isTrusted", "()Z"⟩
abbrev zc_N_isSigned : ByteArray := prog_7_method_31_code
def zy_N_isSigned : MethodName := ⟨zR_N, "isSigned", "()Z"⟩
abbrev zc_N_makeKeys : ByteArray := prog_7_method_30_code
def zy_N_makeKeys : MethodName := ⟨zR_N, "makeKeys", "(I)V"⟩
abbrev zc_N_alter : ByteArray := prog_7_method_34_code
def zy_N_alter : MethodName := ⟨zR_N, "alter", "(III)I"⟩
abbrev zc_N_isNone : ByteArray := prog_7_method_33_code
def zy_N_isNone : MethodName := ⟨zR_N, "isNone", "(II)Z"⟩
abbrev zc_N_sent : ByteArray := prog_7_method_35_code
def zy_N_sent : MethodName := ⟨zR_N, "sent", "(II)I"⟩
abbrev zc_N_key : ByteArray := prog_7_method_36_code
def zy_N_key : MethodName := ⟨zR_N, "key", "(II)I"⟩
abbrev zc_N_state : ByteArray := prog_7_method_37_code
def zy_N_state : MethodName := ⟨zR_N, "state", "()I"⟩
abbrev zc_N_begin : ByteArray := prog_7_method_38_code
def zy_N_begin : MethodName := ⟨zR_N, "begin", "()V"⟩
abbrev zc_N_secret : ByteArray := prog_7_method_39_code
def zy_N_secret : MethodName := ⟨zR_N, "secret", "(I)I"⟩
/-- the words of every method but its own code: the good ones of the whole table -/
def kz_T : List Cond := lw_tbl.filter goodWord
theorem kz_c {w0 w : Cond} (h : w ∈ kz_T) : w ∈ w0 :: kz_T := List.mem_cons_of_mem _ h
theorem kz_mw (i : Nat) {w : Cond} (h : lw_tbl[i]? = some w) (hg : goodWord w = true) : w ∈ kz_T := List.mem_filter.mpr ⟨List.mem_of_getElem? h, hg⟩
theorem kz_g {w0 wc : Cond} {ex : List Cond} (hex : ∀ w ∈ ex, w ∈ kz_T) (hc : wc ∈ kz_T) : GoodIn (w0 :: kz_T) (ex ++ (wc :: kz_T)) := by
  intro w hw
  have h : w ∈ kz_T := by
    rcases List.mem_append.mp hw with h | h
    · exact hex w h
    · rcases List.mem_cons.mp h with h | h
      · rw [h]; exact hc
      · exact h
  exact ⟨List.mem_cons_of_mem _ h, good_of_word (List.mem_filter.mp h).2⟩
theorem kz_m1w {a : Cond} (ha : a ∈ kz_T) : ∀ w ∈ [a], w ∈ kz_T := fun w h => by rw [List.mem_singleton.mp h]; exact ha
theorem kz_mc {a : Cond} {l : List Cond} (ha : a ∈ kz_T) (hl : ∀ w ∈ l, w ∈ kz_T) : ∀ w ∈ a :: l, w ∈ kz_T := fun w h => (List.mem_cons.mp h).elim (fun e => by rw [e]; exact ha) (hl w)
theorem kz_mn : ∀ w ∈ ([] : List Cond), w ∈ kz_T := fun _ h => absurd h List.not_mem_nil
def zw_K_init : List Cond := .code zy_K_init zc_K_init 1 none :: kz_T
def zw_H_init : List Cond := .code zy_H_init zc_H_init 1 none :: kz_T
def zw_M_init : List Cond := .code zy_M_init zc_M_init 1 none :: kz_T
def zw_D_init : List Cond := .code zy_D_init zc_D_init 1 none :: kz_T
def zw_K_offer : List Cond := .code zy_K_offer zc_K_offer 1 (some .int) :: kz_T
def zw_K_numbersAreFit : List Cond := .code zy_K_numbersAreFit zc_K_numbersAreFit 1 (some .boolean) :: kz_T
def zw_W_atLeast : List Cond := .code zy_W_atLeast zc_W_atLeast 3 (some .boolean) :: kz_T
def zw_K_isFitPower : List Cond := .code zy_K_isFitPower zc_K_isFitPower 2 (some .boolean) :: kz_T
def zw_W_subtract : List Cond := .code zy_W_subtract zc_W_subtract 8 none :: kz_T
def zw_W_compare : List Cond := .code zy_W_compare zc_W_compare 3 (some .int) :: kz_T
def zw_H_take : List Cond := .code zy_H_take zc_H_take 3 (some .boolean) :: kz_T
def zw_H_takeLowHalf : List Cond := .code zy_H_takeLowHalf zc_H_takeLowHalf 3 none :: kz_T
def zw_H_multiplyBoth : List Cond := .code zy_H_multiplyBoth zc_H_multiplyBoth 2 none :: kz_T
def zw_W_multiply : List Cond := .code zy_W_multiply zc_W_multiply 4 none :: kz_T
def zw_A_fill : List Cond := .code zy_A_fill zc_A_fill 4 none :: kz_T
def zw_W_addMultiple : List Cond := .code zy_W_addMultiple zc_W_addMultiple 10 (some .int) :: kz_T
def zw_H_invert : List Cond := .code zy_H_invert zc_H_invert 10 (some .boolean) :: kz_T
def zw_H_restOfInverse : List Cond := .code zy_H_restOfInverse zc_H_restOfInverse 4 (some .long) :: kz_T
def zw_H_inverseOfSmall : List Cond := .code zy_H_inverseOfSmall zc_H_inverseOfSmall 5 (some .long) :: kz_T
def zw_H_divideInverse : List Cond := .code zy_H_divideInverse zc_H_divideInverse 8 none :: kz_T
def zw_M_take : List Cond := .code zy_M_take zc_M_take 2 none :: kz_T
def zw_W_leadingZeros : List Cond := .code zy_W_leadingZeros zc_W_leadingZeros 2 (some .int) :: kz_T
def zw_W_hasBit : List Cond := .code zy_W_hasBit zc_W_hasBit 2 (some .boolean) :: kz_T
def zw_W_shiftLeft : List Cond := .code zy_W_shiftLeft zc_W_shiftLeft 7 none :: kz_T
def zw_W_wordOrZero : List Cond := .code zy_W_wordOrZero zc_W_wordOrZero 2 (some .long) :: kz_T
def zw_M_power : List Cond := .code zy_M_power zc_M_power 5 none :: kz_T
def zw_M_multiply : List Cond := .code zy_M_multiply zc_M_multiply 4 none :: kz_T
def zw_M_reduce : List Cond := .code zy_M_reduce zc_M_reduce 4 none :: kz_T
def zw_M_guessDigit : List Cond := .code zy_M_guessDigit zc_M_guessDigit 10 (some .long) :: kz_T
def zw_M_takeAway : List Cond := .code zy_M_takeAway zc_M_takeAway 11 none :: kz_T
def zw_M_giveBack : List Cond := .code zy_M_giveBack zc_M_giveBack 7 (some .long) :: kz_T
def zw_W_shiftRight : List Cond := .code zy_W_shiftRight zc_W_shiftRight 7 none :: kz_T
def zw_W_copy : List Cond := .code zy_W_copy zc_W_copy 2 none :: kz_T
def zw_K_answer : List Cond := .code zy_K_answer zc_K_answer 1 (some .int) :: kz_T
def zw_K_endWith : List Cond := .code zy_K_endWith zc_K_endWith 2 (some .int) :: kz_T
def zw_K_makeHash : List Cond := .code zy_K_makeHash zc_K_makeHash 3 none :: kz_T
def zw_D_clear : List Cond := .code zy_D_clear zc_D_clear 1 none :: kz_T
def zw_D_put : List Cond := .code zy_D_put zc_D_put 3 none :: kz_T
def zw_D_putWord : List Cond := .code zy_D_putWord zc_D_putWord 2 none :: kz_T
def zw_D_mixRow : List Cond := .code zy_D_mixRow zc_D_mixRow 12 none :: kz_T
def zw_D_spreadRow : List Cond := .code zy_D_spreadRow zc_D_spreadRow 6 none :: kz_T
def zw_D_turn : List Cond := .code zy_D_turn zc_D_turn 2 (some .int) :: kz_T
def zw_D_end : List Cond := .code zy_D_end zc_D_end 8 none :: kz_T
def zw_K_sign : List Cond := .code zy_K_sign zc_K_sign 1 none :: kz_T
def zw_M_rest : List Cond := .code zy_M_rest zc_M_rest 3 none :: kz_T
def zw_K_accept : List Cond := .code zy_K_accept zc_K_accept 1 (some .int) :: kz_T
def zw_K_isSigned : List Cond := .code zy_K_isSigned zc_K_isSigned 1 (some .boolean) :: kz_T
def zw_K_makeKeys : List Cond := .code zy_K_makeKeys zc_K_makeKeys 3 none :: kz_T
def zw_K_state : List Cond := .code zy_K_state zc_K_state 1 (some .int) :: kz_T
def zw_K_begin : List Cond := .code zy_K_begin zc_K_begin 1 none :: kz_T
def zw_K_number : List Cond := .code zy_K_number zc_K_number 4 none :: kz_T
def zw_K_needIndex : List Cond := .code zy_K_needIndex zc_K_needIndex 2 none :: kz_T
def zw_K_small : List Cond := .code zy_K_small zc_K_small 4 none :: kz_T
def zw_K_alter : List Cond := .code zy_K_alter zc_K_alter 5 (some .int) :: kz_T
def zw_K_sent : List Cond := .code zy_K_sent zc_K_sent 3 (some .int) :: kz_T
def zw_K_key : List Cond := .code zy_K_key zc_K_key 3 (some .int) :: kz_T
def zw_K_secret : List Cond := .code zy_K_secret zc_K_secret 2 (some .int) :: kz_T
def zw_N_init : List Cond := .code zy_N_init zc_N_init 1 none :: kz_T
def zw_N_number : List Cond := .code zy_N_number zc_N_number 4 none :: kz_T
def zw_N_refused : List Cond := .code zy_N_refused zc_N_refused 3 (some .boolean) :: kz_T
def zw_N_small : List Cond := .code zy_N_small zc_N_small 6 none :: kz_T
def zw_N_offer : List Cond := .code zy_N_offer zc_N_offer 2 (some .int) :: kz_T
def zw_N_isGood : List Cond := .code zy_N_isGood zc_N_isGood 3 (some .boolean) :: kz_T
def zw_N_figures : List Cond := .code zy_N_figures zc_N_figures 5 none :: kz_T
def zw_N_find : List Cond := .code zy_N_find zc_N_find 9 none :: kz_T
def zw_N_isSmall : List Cond := .code zy_N_isSmall zc_N_isSmall 3 (some .boolean) :: kz_T
def zw_N_lessOne : List Cond := .code zy_N_lessOne zc_N_lessOne 2 none :: kz_T
def zw_N_multiply : List Cond := .code zy_N_multiply zc_N_multiply 7 none :: kz_T
def zw_N_isWithin : List Cond := .code zy_N_isWithin zc_N_isWithin 10 (some .boolean) :: kz_T
def zw_N_compare : List Cond := .code zy_N_compare zc_N_compare 3 (some .int) :: kz_T
def zw_N_raiseBy : List Cond := .code zy_N_raiseBy zc_N_raiseBy 6 none :: kz_T
def zw_N_copy : List Cond := .code zy_N_copy zc_N_copy 3 none :: kz_T
def zw_N_raise : List Cond := .code zy_N_raise zc_N_raise 2 none :: kz_T
def zw_N_remain : List Cond := .code zy_N_remain zc_N_remain 13 none :: kz_T
def zw_N_isLess : List Cond := .code zy_N_isLess zc_N_isLess 4 (some .boolean) :: kz_T
def zw_N_words : List Cond := .code zy_N_words zc_N_words 4 none :: kz_T
def zw_N_answer : List Cond := .code zy_N_answer zc_N_answer 2 (some .int) :: kz_T
def zw_N_fail : List Cond := .code zy_N_fail zc_N_fail 2 (some .int) :: kz_T
def zw_N_hash : List Cond := .code zy_N_hash zc_N_hash 4 none :: kz_T
def zw_N_addWords : List Cond := .code zy_N_addWords zc_N_addWords 4 none :: kz_T
def zw_N_reckon : List Cond := .code zy_N_reckon zc_N_reckon 6 none :: kz_T
def zw_N_mix : List Cond := .code zy_N_mix zc_N_mix 7 none :: kz_T
def zw_N_turn : List Cond := .code zy_N_turn zc_N_turn 2 (some .int) :: kz_T
def zw_N_hashRest : List Cond := .code zy_N_hashRest zc_N_hashRest 4 none :: kz_T
def zw_N_accept : List Cond := .code zy_N_accept zc_N_accept 1 (some .int) :: kz_T
def zw_N_isTrusted : List Cond := .code zy_N_isTrusted zc_N_isTrusted 3 (some .boolean) :: kz_T
def zw_N_isSigned : List Cond := .code zy_N_isSigned zc_N_isSigned 2 (some .boolean) :: kz_T
def zw_N_makeKeys : List Cond := .code zy_N_makeKeys zc_N_makeKeys 4 none :: kz_T
def zw_N_alter : List Cond := .code zy_N_alter zc_N_alter 4 (some .int) :: kz_T
def zw_N_isNone : List Cond := .code zy_N_isNone zc_N_isNone 2 (some .boolean) :: kz_T
def zw_N_sent : List Cond := .code zy_N_sent zc_N_sent 3 (some .int) :: kz_T
def zw_N_key : List Cond := .code zy_N_key zc_N_key 3 (some .int) :: kz_T
def zw_N_state : List Cond := .code zy_N_state zc_N_state 1 (some .int) :: kz_T
def zw_N_begin : List Cond := .code zy_N_begin zc_N_begin 2 none :: kz_T
def zw_N_secret : List Cond := .code zy_N_secret zc_N_secret 2 (some .int) :: kz_T
theorem zi_K : ∀ w ∈ u_ws zR_K zT_K 13, w ∈ kz_T := fun w h => List.mem_filter.mpr ⟨(by decide +kernel : ∀ w ∈ u_ws zR_K zT_K 13, w ∈ lw_tbl) w h, (by decide +kernel : ∀ w ∈ u_ws zR_K zT_K 13, goodWord w = true) w h⟩
theorem zi_M : ∀ w ∈ u_ws zR_M zT_M 6, w ∈ kz_T := fun w h => List.mem_filter.mpr ⟨(by decide +kernel : ∀ w ∈ u_ws zR_M zT_M 6, w ∈ lw_tbl) w h, (by decide +kernel : ∀ w ∈ u_ws zR_M zT_M 6, goodWord w = true) w h⟩
theorem zi_H : ∀ w ∈ u_ws zR_H zT_H 5, w ∈ kz_T := fun w h => List.mem_filter.mpr ⟨(by decide +kernel : ∀ w ∈ u_ws zR_H zT_H 5, w ∈ lw_tbl) w h, (by decide +kernel : ∀ w ∈ u_ws zR_H zT_H 5, goodWord w = true) w h⟩
theorem zi_D : ∀ w ∈ u_ws zR_D zT_D 3, w ∈ kz_T := fun w h => List.mem_filter.mpr ⟨(by decide +kernel : ∀ w ∈ u_ws zR_D zT_D 3, w ∈ lw_tbl) w h, (by decide +kernel : ∀ w ∈ u_ws zR_D zT_D 3, goodWord w = true) w h⟩
theorem zi_N : ∀ w ∈ u_ws zR_N zT_N 26, w ∈ kz_T := fun w h => List.mem_filter.mpr ⟨(by decide +kernel : ∀ w ∈ u_ws zR_N zT_N 26, w ∈ lw_tbl) w h, (by decide +kernel : ∀ w ∈ u_ws zR_N zT_N 26, goodWord w = true) w h⟩
