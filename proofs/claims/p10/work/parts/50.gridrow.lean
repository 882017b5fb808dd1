/-! new int[N][K] as a row of the walk -/
def kz_GA (cA cI : ClassId) (U : State) : Prop := ∃ (kA kI : Class) (c0 : ClassId), U.vm.classes[cA]? = some kA ∧ kA.kind = .array cI (.array .int) ∧ U.vm.classes[cI]? = some kI ∧ kI.kind = .array c0 .int ∧ U.vm.findClass "[[I" = some cA
theorem kz_D_app {A : Nat → Prop} {ww new : va_W} {h : Nat} (hD : va_D A ww) (hlt : ∀ (k : Nat) (q : Nat × va_E), ww[k]? = some q → q.1 < h) (hnew : ∀ (k : Nat) (q : Nat × va_E), new[k]? = some q → q.1 = h + k) (hA : ∀ q, h ≤ q → A q) : va_D A (ww ++ new) := by
  refine ⟨fun i j x y hi hj hxy => ?_, fun k x hx => ?_⟩
  · by_cases h1 : i < ww.length <;> by_cases h2 : j < ww.length
    · rw [List.getElem?_append_left h1] at hi
      rw [List.getElem?_append_left h2] at hj
      exact hD.1 i j x y hi hj hxy
    · rw [List.getElem?_append_left h1] at hi
      rw [List.getElem?_append_right (by omega)] at hj
      have a := hlt _ _ hi
      have b := hnew _ _ hj
      omega
    · rw [List.getElem?_append_right (by omega)] at hi
      rw [List.getElem?_append_left h2] at hj
      have a := hlt _ _ hj
      have b := hnew _ _ hi
      omega
    · rw [List.getElem?_append_right (by omega)] at hi hj
      have a := hnew _ _ hi
      have b := hnew _ _ hj
      omega
  · by_cases h1 : k < ww.length
    · rw [List.getElem?_append_left h1] at hx
      exact hD.2 k x hx
    · rw [List.getElem?_append_right (by omega)] at hx
      rw [hnew _ _ hx]
      exact hA _ (by omega)
def kz_new (cA cI : ClassId) (N K q : Nat) (r : Nat → Nat) : va_W := (q, .inl (cA, N, .inr (.inr (.inr (.inr (fun i => if i < N then some (r i) else none)))))) :: (List.range N).map (fun i => (r i, .inl (cI, K, .inl (fun _ => 0))))
theorem kz_new_at {cA cI : ClassId} {N K q : Nat} {r : Nat → Nat} {k : Nat} {x : Nat × va_E} (hx : (kz_new cA cI N K q r)[k]? = some x) : (k = 0 ∧ x = (q, .inl (cA, N, .inr (.inr (.inr (.inr (fun i => if i < N then some (r i) else none))))))) ∨ ∃ i, k = i + 1 ∧ i < N ∧ x = (r i, .inl (cI, K, .inl (fun _ => 0))) := by
  unfold kz_new at hx
  cases k with
  | zero => exact Or.inl ⟨rfl, (Option.some.inj hx).symm⟩
  | succ i =>
    rw [List.getElem?_cons_succ, List.getElem?_map] at hx
    by_cases h : i < N
    · rw [List.getElem?_range h] at hx
      exact Or.inr ⟨i, rfl, h, (Option.some.inj hx).symm⟩
    · rw [List.getElem?_eq_none (by rw [List.length_range]; omega)] at hx
      cases hx
section KM
variable {p : Program} {l : Launch} {e : Env} {R : Room} {s : State} {m : MethodId} {args : Array Value} {below : List Frame} {meth : Method} {c : Code} {H : Heap} {locs : List Loc} {cells slots : Nat} {Q : State → Prop}
variable {cc : ByteArray} {pc : Nat} {ls : Array Slot} {rest : List Value} {D : va_G} {cl : List vw_C} {A : Nat → Prop} {ww : va_W}
theorem kz_mna (hexec : p.tables.exec = Jvm.exec) (hb : c.code = cc) {own : String} {index : Nat} (hown : s.vm.findClass own = some m.cls) (hclink : (Cond.classLink own index "[[I").before args s = true) {cA cI : ClassId} (hGA : kz_GA cA cI s)
    (hdy : kz_dy D cl A s.heap H locs ww) (hA : ∀ q, s.heap.size ≤ q → A q) {n k : Int32} {N K : Nat} (hn : ¬ n < 0) (hk : ¬ k < 0) (hN : n.toNatClampNeg = N) (hM : k.toNatClampNeg = K) (hb1 : N * 4 ≤ 536870912) (hb2 : K * 4 ≤ 536870912) (hcells : cells + (1 + N) ≤ R.cells) (hslots : slots + (N + N * K) ≤ R.slots) (hdg : decode cc pc = .ok (.multianewarray index 2, 4))
    (kk : ∀ (q : Nat) (r : Nat → Nat) (H1 : Heap), kz_dy D cl A s.heap H1 locs (ww ++ kz_new cA cI N K q r) → W p l e R s m args below meth c H1 locs (cells + 1 + N) (slots + N + N * K) Q (F0 m (pc + 4) ls (.ref q :: rest))) : W p l e R s m args below meth c H locs cells slots Q (F0 m pc ls (.int k :: .int n :: rest)) := by
  subst hN
  subst hM
  intro T hT X
  obtain ⟨kA, kI, c0, hkA, hkindA, hkI, hkindI, hfA⟩ := hGA
  have hpl : e.platform.magicAccessors = ({} : Platform).magicAccessors := by rw [X.admits.platform]
  obtain ⟨c1, hfc1, hcl⟩ := Cond.classLink_spec hown hclink e.platform hpl
  cases Option.some.inj (hfA.symm.trans hfc1)
  obtain ⟨hg1, hwarm, hready⟩ := State.classEntry (e := e) X.warmed hcl
  generalize T.vm.noted m.cls index (.cls cA) = vm1 at hg1 hwarm hready
  obtain ⟨kA1, hkA1, heA⟩ := hwarm.alike.2.2 _ _ hkA
  obtain ⟨kI1, hkI1, heI⟩ := hwarm.alike.2.2 _ _ hkI
  have hkindA1 : kA1.kind = .array cI (.array .int) := by rw [heA]; exact hkindA
  have hkindI1 : kI1.kind = .array c0 .int := by rw [heI]; exact hkindI
  have X1 := X.noted hwarm
  obtain ⟨hr1, hr2⟩ := X.roomAbove hcells hslots
  have XF := kz_gs_stand X1 cA cI n.toNatClampNeg k.toNatClampNeg n.toNatClampNeg
  obtain ⟨a1, a2, a3, a4, a5, a6⟩ := kz_gs_at (T.setVm vm1) cA cI n.toNatClampNeg k.toNatClampNeg n.toNatClampNeg
  have hTh : (T.setVm vm1).heap = H := hT
  rw [hTh] at a1 a2 a5 a6
  obtain ⟨hP, hD, hS⟩ := hdy
  have hlt : ∀ (k9 : Nat) (q : Nat × va_E), ww[k9]? = some q → q.1 < H.size := fun k9 q hq => (hP k9 q hq).lt
  have hnew : ∀ (k9 : Nat) (q : Nat × va_E), (kz_new cA cI n.toNatClampNeg k.toNatClampNeg H.size (fun i => H.size + 1 + i))[k9]? = some q → q.1 = H.size + k9 := fun k9 q hq => by
    rcases kz_new_at hq with ⟨h1, h2⟩ | ⟨i, h1, h2, h3⟩
    · rw [h2, h1]; rfl
    · rw [h3, h1]; show H.size + 1 + i = H.size + (i + 1); omega
  have hP2 : va_P D cl (ww ++ kz_new cA cI n.toNatClampNeg k.toNatClampNeg H.size (fun i => H.size + 1 + i)) (kz_gs (T.setVm vm1) cA cI n.toNatClampNeg k.toNatClampNeg n.toNatClampNeg).heap := by
    refine (hP.kept (fun k9 q hq => a5 q.1 (hlt k9 q hq))).app (fun k9 q hq => ?_)
    rcases kz_new_at hq with ⟨h1, h2⟩ | ⟨i, h1, h2, h3⟩
    · rw [h2]
      show (kz_gs (T.setVm vm1) cA cI n.toNatClampNeg k.toNatClampNeg n.toNatClampNeg).heap[H.size]? = some (vp_cell _ _)
      rw [a2, vp_cell_q]
      rfl
    · rw [h3]
      show (kz_gs (T.setVm vm1) cA cI n.toNatClampNeg k.toNatClampNeg n.toNatClampNeg).heap[H.size + 1 + i]? = some (vp_cell _ _)
      rw [a6 i h2, vp_cell_i]
      rfl
  have hS2 : va_S A s.heap (kz_gs (T.setVm vm1) cA cI n.toNatClampNeg k.toNatClampNeg n.toNatClampNeg).heap locs := ⟨Nat.le_trans hS.1 (by rw [a1]; omega), fun x h1 h2 => (a5 x (Nat.lt_of_lt_of_le h1 hS.1)).trans (hS.2.1 x h1 h2), hS.2.2⟩
  obtain ⟨t, b1, b2⟩ := kk H.size (fun i => H.size + 1 + i) _ ⟨hP2, kz_D_app hD hlt hnew (fun q hq => hA q (Nat.le_trans hS.1 hq)), hS2⟩ _ rfl XF
  refine ⟨t, ?_, b2⟩
  have l1 : ¬ n.toNatClampNeg > e.platform.arrayLengthLimit := by rw [Launch.admits_arrayLengthLimit X.admits]; omega
  have l2 : ¬ n.toNatClampNeg * componentBytes (.array .int) > e.platform.maxHeapBytes := by
    rw [Launch.admits_maxHeapBytes X.admits]; show ¬ n.toNatClampNeg * 4 > 536870912; omega
  have l3 : ¬ k.toNatClampNeg > e.platform.arrayLengthLimit := by rw [Launch.admits_arrayLengthLimit X.admits]; omega
  have l4 : ¬ k.toNatClampNeg * componentBytes .int > e.platform.maxHeapBytes := by
    rw [Launch.admits_maxHeapBytes X.admits]; show ¬ k.toNatClampNeg * 4 > 536870912; omega
  generalize hgf : F0 m pc ls (.int k :: .int n :: rest) = g
  have hgm : g.method = m := by subst hgf; rfl
  have hgs : g.stack = .int k :: .int n :: rest := by subst hgf; rfl
  have hgd : decode c.code g.pc = .ok (.multianewarray index 2, 4) := by rw [← hgf, hb]; exact hdg
  have hh : At T g.method c below := by rw [hgm]; exact X.here
  rw [← hgm] at hg1
  jvm_step hh [hexec, hgd]
  simp only [multianewarray.sem, wp_bind', W.resolveClassAt_links (State.method?_setTop g X.here.top) hg1]
  rw [W.popN, if_neg (by decide)]
  refine ⟨g, State.topJava?_setTop' (s := T.setVm vm1) g X.here.top, [.int n, .int k], rest, rfl, hgs, ?_⟩
  simp only [List.mapM_cons, List.mapM_nil, wp_bind', wp_pure']
  refine kz_wpMake hkA1 hkindA1 hkI1 hkindI1 hn hk l1 l2 l3 l4 (by show T.heap.size + 1 + _ ≤ _; omega) (by show T.slotsUsed + _ + _ ≤ _; omega) (fun d' acts' => ?_)
  have eS : ((T.setTop g).setVm vm1).setTop { g with stack := rest } = (T.setVm vm1).setTop { g with stack := rest } := by
    show ((T.setVm vm1).setTop g).setTop _ = _
    rw [State.setTop_setTop]
  rw [eS, kz_gs_top]
  simp only [wp_bind', W.mark, W.pushRef, State.topJava?_setTop' _ XF.here.top, Option.some.injEq, exists_eq_left', State.setTop_setTop, State.heap_setTop]
  intro acts
  simp [jvm, XF.here.top]
  subst hgf
  have hsz : T.heap.size = H.size := by rw [hT]
  rw [hsz]
  exact b1
end KM
