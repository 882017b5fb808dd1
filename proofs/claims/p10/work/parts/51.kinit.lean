/-! what the class's constructor needs -/
theorem kz_rowN (N : Nat) (r : Nat → Nat) : (fun i => if i < N then some (r i) else none) = kz_row ((List.range N).map r) := by
  funext i
  unfold kz_row
  rw [List.getElem?_map]
  by_cases h : i < N
  · rw [if_pos h, List.getElem?_range h]
    rfl
  · rw [if_neg h, List.getElem?_eq_none (by rw [List.length_range]; omega)]
    rfl
section KI
variable {p : Program} {l : Launch} {e : Env} {R : Room} {s : State} {m : MethodId} {args : Array Value} {below : List Frame} {meth : Method} {c : Code} {H : Heap} {locs : List Loc} {cells slots : Nat} {Q : State → Prop}
variable {cc : ByteArray} {pc : Nat} {ls : Array Slot} {rest : List Value} {D : va_G} {cl : List vw_C} {A : Nat → Prop} {ww : va_W} {tys : List (ClassId × FieldType)} {zs : List (String × String × String × Value)} {ns : List Cond} {wc wr : va_W} {mc ms : Nat}
theorem kz_mnar (hexec : p.tables.exec = Jvm.exec) (hb : c.code = cc) {own : String} {index : Nat} (hown : s.vm.findClass own = some m.cls) (hclink : (Cond.classLink own index "[[I").before args s = true) {cA cI : ClassId} (hGA : kz_GA cA cI s)
    (hdy : kz_dy D cl A s.heap H locs ww) (hA : ∀ q, s.heap.size ≤ q → A q) {n k : Int32} {N K : Nat} (hn : ¬ n < 0) (hk : ¬ k < 0) (hN : n.toNatClampNeg = N) (hM : k.toNatClampNeg = K) (hb1 : N * 4 ≤ 536870912) (hb2 : K * 4 ≤ 536870912) (hcells : cells + (1 + N) ≤ R.cells) (hslots : slots + (N + N * K) ≤ R.slots) (hdg : decode cc pc = .ok (.multianewarray index 2, 4))
    (kk : ∀ (q : Nat) (r : Nat → Nat) (H1 : Heap), kz_dy D cl A s.heap H1 locs (ww ++ ((q, .inl (cA, N, .inr (.inr (.inr (.inr (kz_row ((List.range N).map r))))))) :: (List.range N).map (fun i => (r i, .inl (cI, K, .inl (fun _ => 0)))))) → W p l e R s m args below meth c H1 locs (cells + 1 + N) (slots + N + N * K) Q (F0 m (pc + 4) ls (.ref q :: rest))) : W p l e R s m args below meth c H locs cells slots Q (F0 m pc ls (.int k :: .int n :: rest)) :=
  kz_mna hexec hb hown hclink hGA hdy hA hn hk hN hM hb1 hb2 hcells hslots hdg (fun q r H1 h => kk q r H1 (by unfold kz_new at h; rw [kz_rowN] at h; exact h))
theorem kz_GA.moved {cA cI : ClassId} {u U : State} (hvm : u.vm.Alike U.vm) (h : kz_GA cA cI u) : kz_GA cA cI U := by
  obtain ⟨kA, kI, c0, h1, h2, h3, h4, h5⟩ := h
  obtain ⟨kA1, a1, a2⟩ := hvm.2.2 _ _ h1
  obtain ⟨kI1, b1, b2⟩ := hvm.2.2 _ _ h3
  exact ⟨kA1, kI1, c0, a1, by rw [a2]; exact h2, b1, by rw [b2]; exact h4, by first | (rw [hvm.findClass]; exact h5) | exact (hvm.findClass _ _).trans h5 | exact (hvm.findClass _).trans h5⟩
theorem kz_metA {y : MethodName} {ws ws' : List Cond} {rm : Room} {av : List Value} {sz : Nat} {cA cI : ClassId} {Qc : (Nat → Prop) → Array Value → State → Outcome → State → Prop} {maxL : Nat} {ret : Option FieldType} (hy : plainName y.cls = true) (hw : ws = Cond.code y cc maxL ret :: ws') (hav : (lg_sl av).length ≤ maxL)
    (body : ∀ (p : Program) (e : Env) (s : State) (m : MethodId) (below : List Frame) (meth : Method) (c : Code) (A : Nat → Prop) (ls : Array Slot), kz_F p s m av.toArray meth c cc maxL y ws ret → (∀ q, s.heap.size ≤ q → A q) → kz_dy D cl A s.heap s.heap [] wc → va_K D cl tys s → kz_ro D cl A s s.heap wr → kz_Z zs A s s.heap → kz_N ns s → kz_GA cA cI s → lv_has ls maxL (lv_args 0 av) →
      W p l e rm s m av.toArray below meth c s.heap [] 0 0 (MQ below (Qc A) av.toArray s mc ms A) (F0 m 0 ls [])) : Met l y ws rm (fun a U => kz_Pc D cl tys zs ns av wc wr sz a U ∧ kz_GA cA cI U) (Qc (va_A wc sz)) mc ms (va_A wc sz) := by
  refine Met.ofW (cc := cc) (maxL := maxL) (ret := ret) hy hw ?_
  intro p e s m args below meth c s₁ B hml hv
  obtain ⟨⟨rfl, hsz, hP, hD0, hK, hro, hZ, hN⟩, hGA⟩ := hv
  subst hsz
  rw [lg_entry_eq]
  exact body p e s m below meth c _ _ ⟨B.exec, B.bytes, hml, B.returns, findClass_of_methodNamed B.named, B.notSynchronized, atoms_spec (ws := ws) B.pre, (name_of_methodNamed B.named B.method).1⟩ (fun q h => Or.inr h) ⟨hP, hD0.self, va_S.rf⟩ hK hro hZ hN hGA (lv_entry av hav)
end KI
