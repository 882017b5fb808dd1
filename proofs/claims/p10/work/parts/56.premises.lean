/-! what the class's own throws rest on, as premises of a call -/
def kz_names : List String := ["java/lang/RuntimeException", "java/lang/Exception"]
def kz_PI (sa : Nat) (U : State) : Prop := kz_thr "KeyMeeting" 143 "java/lang/IndexOutOfBoundsException" kz_names U ∧ vk_R "KeyMeeting" 141 "no such index" sa U
def kz_PA (sa : Nat) (U : State) : Prop := kz_thr "KeyMeeting" 72 "java/lang/IllegalArgumentException" kz_names U ∧ vk_R "KeyMeeting" 70 "below 0" sa U
def kz_PS (sa : Nat) (U : State) : Prop := kz_thr "KeyMeeting" 132 "java/lang/IllegalStateException" kz_names U ∧ vk_R "KeyMeeting" 130 "no keys" sa U
theorem kz_PI.old {sa : Nat} {s U : State} (hO : kz_old s U) (h : kz_PI sa s) : kz_PI sa U := ⟨kz_thr.old hO (by decide +kernel) h.1, vk_R.warm hO.1 h.2⟩
theorem kz_PA.old {sa : Nat} {s U : State} (hO : kz_old s U) (h : kz_PA sa s) : kz_PA sa U := ⟨kz_thr.old hO (by decide +kernel) h.1, vk_R.warm hO.1 h.2⟩
theorem kz_PS.old {sa : Nat} {s U : State} (hO : kz_old s U) (h : kz_PS sa s) : kz_PS sa U := ⟨kz_thr.old hO (by decide +kernel) h.1, vk_R.warm hO.1 h.2⟩
theorem kz_old.calling (U : State) (g : JFrame) (mk : MethodId) (a : Array Value) : kz_old U (U.calling g mk a) := ⟨State.WarmedH.refl U, fun _ _ => rfl⟩
theorem kz_old.trans {s t U : State} (h1 : kz_old s t) (h2 : kz_old t U) (hz : s.heap.size ≤ t.heap.size) : kz_old s U := ⟨State.WarmedH.trans h1.1 h2.1, fun q hq => (h2.2 q (Nat.lt_of_lt_of_le hq hz)).trans (h1.2 q hq)⟩
section KP
variable {p : Program} {l : Launch} {e : Env} {R : Room} {s : State} {m : MethodId} {args : Array Value} {below : List Frame} {meth : Method} {c : Code} {H : Heap} {locs : List Loc} {cells slots : Nat} {Q : State → Prop}
variable {cc : ByteArray} {D : va_G} {cl : List vw_C} {A : Nat → Prop} {tys : List (ClassId × FieldType)} {zs : List (String × String × String × Value)} {ns : List Cond} {wc wr : va_W} {mc ms : Nat} {PX : State → Prop} {Pc : Array Value → State → Prop}
theorem kz_preTS {As : List Value} (hold : ∀ U V : State, kz_old U V → PX U → PX V) (hPX : PX s) (hpre : PreS s H Pc As) (hS : va_S A s.heap H locs) (hAn : ∀ q, A q → s.heap.size ≤ q) : PreS s H (fun a U => Pc a U ∧ PX U) As :=
  ⟨fun a U g mk h => ⟨hpre.1 a U g mk h.1, hold U _ (kz_old.calling U g mk a) h.2⟩, fun U hU hW => ⟨hpre.2 U hU hW, hold s U ⟨hW, fun q hq => by rw [hU]; exact hS.2.1 q hq (fun z => absurd (hAn q z) (Nat.not_le.mpr hq))⟩ hPX⟩⟩
theorem kz_preTV {As : List Value} {C : String} {b : Addr} (hold : ∀ U V : State, kz_old U V → PX U → PX V) (hPX : PX s) (hpre : PreV s H C b Pc As) (hS : va_S A s.heap H locs) (hAn : ∀ q, A q → s.heap.size ≤ q) : PreV s H C b (fun a U => Pc a U ∧ PX U) As :=
  ⟨fun a U g mk h => ⟨hpre.1 a U g mk h.1, hold U _ (kz_old.calling U g mk a) h.2⟩, hpre.2.1, fun U hU hW => ⟨hpre.2.2 U hU hW, hold s U ⟨hW, fun q hq => by rw [hU]; exact hS.2.1 q hq (fun z => absurd (hAn q z) (Nat.not_le.mpr hq))⟩ hPX⟩⟩
theorem kz_metT {y : MethodName} {ws ws' : List Cond} {rm : Room} {av : List Value} {sz : Nat} {E : String} {maxL : Nat} {ret : Option FieldType} (hy : plainName y.cls = true) (hw : ws = Cond.code y cc maxL ret :: ws') (hav : (lg_sl av).length ≤ maxL)
    (body : ∀ (p : Program) (e : Env) (s : State) (m : MethodId) (below : List Frame) (meth : Method) (c : Code) (A : Nat → Prop) (ls : Array Slot), kz_F p s m av.toArray meth c cc maxL y ws ret → (∀ q, s.heap.size ≤ q → A q) → (∀ q, A q → s.heap.size ≤ q) → kz_dy D cl A s.heap s.heap [] [] → va_K D cl tys s → kz_ro D cl A s s.heap wr → kz_Z zs A s s.heap → kz_N ns s → (∀ x ∈ c.exceptionTable.toList, False) → PX s → lv_has ls maxL (lv_args 0 av) →
      W p l e rm s m av.toArray below meth c s.heap [] 0 0 (kz_MQT below E av.toArray s mc ms) (F0 m 0 ls [])) : kz_MetT l y ws rm (fun a U => kz_Pc D cl tys zs ns av [] wr sz a U ∧ PX U) E mc ms := by
  refine kz_ofT (cc := cc) (maxL := maxL) (ret := ret) hy hw ?_
  intro p e s m args below meth c s₁ B hml hem hv
  obtain ⟨⟨rfl, hsz, hP, hD0, hK, hro, hZ, hN⟩, hPX⟩ := hv
  subst hsz
  rw [lg_entry_eq]
  exact body p e s m below meth c (va_A [] s.heap.size) _ ⟨B.exec, B.bytes, hml, B.returns, findClass_of_methodNamed B.named, B.notSynchronized, atoms_spec (ws := ws) B.pre, (name_of_methodNamed B.named B.method).1⟩ (fun q h => Or.inr h) (fun q h => h.elim (fun ⟨k, e, h⟩ => by simp at h) id) ⟨hP, hD0.self, va_S.rf⟩ hK hro hZ hN hem hPX (lv_entry av hav)
end KP
