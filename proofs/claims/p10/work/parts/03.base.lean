/-! BASE (draft, not yet compiled): contracts with two lists of cells: wc, which may be written, and wr, which is only read -/
/-- an array of ints that is only read: its cell bears the figures, whatever else it bears (a static array of the class is one that the law has not made) -/
def kz_ra (U : State) (H : Heap) (a : Nat) (cA : ClassId) (N : Nat) (f : Nat → Int32) : Prop := ∃ cell : Cell, H[a]? = some cell ∧ (∀ ty, ArrOfT U cA ty → U.isArrayOf cell ty) ∧ cell.vm ≠ .unknown ∧ N ≤ cell.slots.size ∧ cell.slots.size.toInt32 = Int32.ofNat N ∧ ∀ j : Nat, j < N → cell.slots[j]? = some (.int (f j))
def kz_rd (D : va_G) (cl : List vw_C) (U : State) (H : Heap) (q : Nat × va_E) : Prop := match q.2 with
  | .inl (cA, N, .inl f) => kz_ra U H q.1 cA N f
  | _ => va_at D cl q H
theorem kz_ra.of {U : State} {H : Heap} {a : Nat} {cA : ClassId} {N : Nat} {f : Nat → Int32} (h : H[a]? = some (vp_cell cA (N, .inl f))) : kz_ra U H a cA N f := by
  refine ⟨arrV cA N (fun j => .int (f j)), h, fun ty hty => hty N (fun j => .int (f j)), (fun q => by cases q), ?_, ?_, fun j hj => arrV_read _ _ hj⟩
  · rw [arrV_size]; exact Nat.le_refl _
  · rw [arrV_size] <;> rfl
theorem kz_rd.of {D : va_G} {cl : List vw_C} {U : State} {H : Heap} {q : Nat × va_E} (h : va_at D cl q H) : kz_rd D cl U H q := by
  obtain ⟨a, e⟩ := q
  rcases e with ⟨cA, N, f | g⟩ | o
  · exact kz_ra.of h
  · exact h
  · exact h
theorem kz_rd.lt {D : va_G} {cl : List vw_C} {U : State} {H : Heap} {q : Nat × va_E} (h : kz_rd D cl U H q) : q.1 < H.size := by
  obtain ⟨a, e⟩ := q
  rcases e with ⟨cA, N, f | g⟩ | o
  · obtain ⟨cell, h1, -⟩ := h
    exact (Array.getElem?_eq_some_iff.mp h1).1
  · exact va_at.lt (D := D) (cl := cl) (q := (a, .inl (cA, N, .inr g))) h
  · exact va_at.lt (D := D) (cl := cl) (q := (a, .inr o)) h
theorem kz_rd.kept {D : va_G} {cl : List vw_C} {U : State} {H H1 : Heap} {q : Nat × va_E} (h : kz_rd D cl U H q) (hk : H1[q.1]? = H[q.1]?) : kz_rd D cl U H1 q := by
  obtain ⟨a, e⟩ := q
  rcases e with ⟨cA, N, f | g⟩ | o
  · obtain ⟨cell, h1, h2⟩ := h
    exact ⟨cell, hk.trans h1, h2⟩
  · exact va_at.kept (D := D) (cl := cl) (q := (a, .inl (cA, N, .inr g))) h hk
  · exact va_at.kept (D := D) (cl := cl) (q := (a, .inr o)) h hk
/-- tables that are alike: the same arrays, backwards too -/
theorem kz_arrBack {u U : State} {cA : ClassId} {ty : FieldType} (hvm : u.vm.Alike U.vm) (h : ArrOfT U cA ty) : ArrOfT u cA ty := by
  intro n z
  obtain ⟨h1, k, hk, comp, hkind⟩ := h n z
  refine ⟨h1, ?_⟩
  have hlt : cA < U.vm.classes.size := (Array.getElem?_eq_some_iff.mp hk).1
  rw [hvm.2.1] at hlt
  have hu : u.vm.classes[cA]? = some u.vm.classes[cA] := Array.getElem?_eq_getElem hlt
  obtain ⟨k', hk', he⟩ := hvm.2.2 _ _ hu
  cases hk.symm.trans hk'
  exact ⟨_, hu, comp, by rw [he] at hkind; exact hkind⟩
theorem kz_rd.moved {D : va_G} {cl : List vw_C} {u U : State} {H : Heap} {q : Nat × va_E} (hvm : u.vm.Alike U.vm) (h : kz_rd D cl u H q) : kz_rd D cl U H q := by
  obtain ⟨a, e⟩ := q
  rcases e with ⟨cA, N, f | g⟩ | o
  · obtain ⟨cell, h1, h2, h3⟩ := h
    exact ⟨cell, h1, fun ty hty => State.isArrayOf_alike hvm (h2 ty (kz_arrBack hvm hty)), h3⟩
  · exact h
  · exact h
def kz_ro (D : va_G) (cl : List vw_C) (A : Nat → Prop) (U : State) (H : Heap) (wr : va_W) : Prop := (∀ (k : Nat) (q : Nat × va_E), wr[k]? = some q → kz_rd D cl U H q) ∧ ∀ (k : Nat) (q : Nat × va_E), wr[k]? = some q → ¬ A q.1
theorem kz_ro.moved {D : va_G} {cl : List vw_C} {A : Nat → Prop} {u U : State} {H : Heap} {wr : va_W} (hvm : u.vm.Alike U.vm) (h : kz_ro D cl A u H wr) : kz_ro D cl A U H wr := ⟨fun k q hq => (h.1 k q hq).moved hvm, h.2⟩
theorem kz_ro.at {D : va_G} {cl : List vw_C} {A : Nat → Prop} {U : State} {H0 H : Heap} {wr : va_W} {locs : List Loc} (h : kz_ro D cl A U H0 wr) (hS : va_S A H0 H locs) : ∀ (k : Nat) (q : Nat × va_E), wr[k]? = some q → kz_rd D cl U H q :=
  fun k q hq => (h.1 k q hq).kept (hS.2.1 q.1 (h.1 k q hq).lt (h.2 k q hq))
theorem kz_ro.ob {D : va_G} {cl : List vw_C} {A : Nat → Prop} {U : State} {H0 H : Heap} {wr : va_W} {locs : List Loc} (h : kz_ro D cl A U H0 wr) (hS : va_S A H0 H locs) {k : Nat} {a : Nat} {x : Nat × List Value} (hk : wr[k]? = some (a, .inr x)) : va_P D cl [(a, .inr x)] H := by
  intro j q hq
  match j, hq with
  | 0, hq => cases hq; exact h.at hS k _ hk
def kz_dy (D : va_G) (cl : List vw_C) (A : Nat → Prop) (H0 H : Heap) (locs : List Loc) (ww : va_W) : Prop := va_P D cl ww H ∧ va_D A ww ∧ va_S A H0 H locs
theorem kz_pick {ww ww' : va_W} {is : List Nat} (hs : is.map (fun i => ww[i]?) = ww'.map some) {k : Nat} {q : Nat × va_E} (hk : ww'[k]? = some q) : ∃ i, is[k]? = some i ∧ ww[i]? = some q := by
  have h1 : (is.map (fun i => ww[i]?))[k]? = some (some q) := by rw [hs, List.getElem?_map, hk]; rfl
  rw [List.getElem?_map] at h1
  cases hi : is[k]? with
  | none => rw [hi] at h1; cases h1
  | some i => rw [hi] at h1; exact ⟨i, rfl, Option.some.inj h1⟩
theorem kz_dy.sub {D : va_G} {cl : List vw_C} {A : Nat → Prop} {H0 H : Heap} {locs : List Loc} {ww ww' : va_W} (h : kz_dy D cl A H0 H locs ww) (is : List Nat) (hn : va_nd is = true) (hs : is.map (fun i => ww[i]?) = ww'.map some) : kz_dy D cl A H0 H locs ww' :=
  ⟨fun k q hk => by obtain ⟨i, -, hi⟩ := kz_pick hs hk; exact h.1 i q hi, h.2.1.sub is hn hs, h.2.2⟩
/-- static fields that nobody writes; words of nest mates -/
def kz_Z (zs : List (String × String × String × Value)) (A : Nat → Prop) (U : State) (H : Heap) : Prop := ∀ z ∈ zs, va_Z z.1 z.2.1 z.2.2.1 z.2.2.2 A U H
def kz_N (ns : List Cond) (U : State) : Prop := ∀ w ∈ ns, va_Nw w U
def kz_isN (w : Cond) : Bool := match w with
  | .methodLinkNest _ _ _ _ => true
  | .fieldLinkNest _ _ _ _ _ _ => true
  | _ => false
theorem kz_N.warm {ns : List Cond} {s U : State} (hW : s.WarmedH U.vm) (hn : ns.all kz_isN = true) (h : kz_N ns s) : kz_N ns U := by
  intro w hw
  have h1 : kz_isN w = true := List.all_eq_true.mp hn w hw
  have h2 := h w hw
  cases w <;> first | exact va_Nw.warmM hW h2 | exact va_Nw.warmF hW h2 | (simp [kz_isN] at h1)
theorem kz_N.same {ns : List Cond} {s U : State} (hv : s.vm = U.vm) (hn : ns.all kz_isN = true) (h : kz_N ns s) : kz_N ns U := by
  intro w hw
  have h1 : kz_isN w = true := List.all_eq_true.mp hn w hw
  have h2 := h w hw
  cases w <;> first | exact va_Nw.same rfl hv h2 | (simp [kz_isN] at h1)
/-- a method's start -/
def kz_Pc (D : va_G) (cl : List vw_C) (tys : List (ClassId × FieldType)) (zs : List (String × String × String × Value)) (ns : List Cond) (av : List Value) (wc wr : va_W) (sz : Nat) : Array Value → State → Prop :=
  va_Pc av (fun U => U.heap.size = sz ∧ va_P D cl wc U.heap ∧ va_D (fun _ => True) wc ∧ va_K D cl tys U ∧ kz_ro D cl (va_A wc sz) U U.heap wr ∧ kz_Z zs (va_A wc sz) U U.heap ∧ kz_N ns U)
/-- a method's end: its cells -/
def kz_B (D : va_G) (cl : List vw_C) (A : Nat → Prop) {S : Type} (w : S → va_W) : S → State → Prop := fun u t => va_P D cl (w u) t.heap ∧ va_D A (w u)
theorem kz_blind {D : va_G} {cl : List vw_C} {tys : List (ClassId × FieldType)} {zs : List (String × String × String × Value)} {ns : List Cond} {av : List Value} {wc wr : va_W} {sz : Nat} (hn : ns.all kz_isN = true) : FrameBlind (kz_Pc D cl tys zs ns av wc wr sz) := by
  intro a U g mk h
  obtain ⟨h0, h1, h2, h3, h4, h5, h6, h7⟩ := h
  exact ⟨h0, h1, h2, h3, va_K.moved (u := U) (U := U.calling g mk a) (Vm.Alike.refl U.vm) h4, kz_ro.moved (u := U) (U := U.calling g mk a) (Vm.Alike.refl U.vm) h5, fun z hz => va_Z.moved (u := U) (U := U.calling g mk a) (Vm.Alike.refl U.vm) (h6 z hz), kz_N.same (s := U) (U := U.calling g mk a) rfl hn h7⟩
def kz_src (ww wq : va_W) (x : Bool × Nat) : Option (Nat × va_E) := if x.1 then wq[x.2]? else ww[x.2]?
theorem kz_srcAt {ww wq wr : va_W} {src : List (Bool × Nat)} (hs : src.map (kz_src ww wq) = wr.map some) {k : Nat} {q : Nat × va_E} (hk : wr[k]? = some q) : ∃ x, src[k]? = some x ∧ kz_src ww wq x = some q := by
  have h1 : (src.map (kz_src ww wq))[k]? = some (some q) := by rw [hs, List.getElem?_map, hk]; rfl
  rw [List.getElem?_map] at h1
  cases hi : src[k]? with
  | none => rw [hi] at h1; cases h1
  | some x => rw [hi] at h1; exact ⟨x, rfl, Option.some.inj h1⟩
/-- what a callee reads: cells of the caller's that the callee doesn't write (false), or cells that the caller reads too (true) -/
theorem kz_roOf {D : va_G} {cl : List vw_C} {A : Nat → Prop} {s : State} {H : Heap} {locs : List Loc} {ww wq wc wr : va_W} (hdy : kz_dy D cl A s.heap H locs ww) (hA : ∀ q, s.heap.size ≤ q → A q) (hro : kz_ro D cl A s s.heap wq)
    (isC : List Nat) (hC : isC.map (fun i => ww[i]?) = wc.map some) (src : List (Bool × Nat)) (hR : src.map (kz_src ww wq) = wr.map some) (hRd : ∀ x ∈ src, x.1 = true ∨ x.2 ∉ isC) : kz_ro D cl (va_A wc H.size) s H wr := by
  obtain ⟨hP, hD, hS⟩ := hdy
  have hF := va_free hD hS hA isC hC
  have hQ := hro.at hS
  refine ⟨fun k q hk => ?_, fun k q hk hz => ?_⟩
  · obtain ⟨x, h1, h2⟩ := kz_srcAt hR hk
    unfold kz_src at h2
    split at h2
    · exact hQ _ q h2
    · exact kz_rd.of (hP _ q h2)
  · obtain ⟨x, h1, h2⟩ := kz_srcAt hR hk
    unfold kz_src at h2
    split at h2
    · exact hro.2 _ q h2 (hF _ hz)
    · rename_i hx
      rcases hz with ⟨k2, e2, h3⟩ | h3
      · obtain ⟨j, h4, h5⟩ := kz_pick hC h3
        have hij := hD.1 _ _ _ _ h2 h5 rfl
        rcases hRd x (List.mem_of_getElem? h1) with h6 | h6
        · exact hx h6
        · exact h6 (by rw [hij]; exact List.mem_of_getElem? h4)
      · have := (hP _ q h2).lt
        omega
section KZ
variable {p : Program} {l : Launch} {e : Env} {R : Room} {s : State} {m : MethodId} {args : Array Value} {below : List Frame} {meth : Method} {c : Code} {H : Heap} {locs : List Loc} {cells slots : Nat} {Q : State → Prop}
variable {D : va_G} {cl : List vw_C} {A : Nat → Prop} {tys tys' : List (ClassId × FieldType)} {zs zs' : List (String × String × String × Value)} {ns ns' : List Cond} {ww wq wc wr wk : va_W}
variable {pc mc ms : Nat} {ls : Array Slot} {rest st0 : List Value} {a : Array Value}
/-- a call's start -/
theorem kz_at {As : List Value} (hdy : kz_dy D cl A s.heap H locs ww) (hA : ∀ q, s.heap.size ≤ q → A q) (hK : va_K D cl tys s) (hro : kz_ro D cl A s s.heap wq) (hZ : kz_Z zs A s s.heap) (hN : kz_N ns s)
    (isC : List Nat) (hCn : va_nd isC = true) (hC : isC.map (fun i => ww[i]?) = wc.map some) (src : List (Bool × Nat)) (hR : src.map (kz_src ww wq) = wr.map some) (hRd : ∀ x ∈ src, x.1 = true ∨ x.2 ∉ isC)
    (it : List Nat) (ht : it.filterMap (fun i => tys[i]?) = tys') (hz : ∀ z ∈ zs', z ∈ zs) (hn : ∀ w ∈ ns', w ∈ ns) (hnn : ns'.all kz_isN = true) : ∀ U : State, U.heap = H → s.WarmedH U.vm → kz_Pc D cl tys' zs' ns' As wc wr H.size As.toArray U := by
  intro U hU hW
  have hF := va_free hdy.2.1 hdy.2.2 hA isC hC
  refine ⟨rfl, by rw [hU], ?_, ?_, va_K.moved hW.alike (hK.sub it ht), ?_, ?_, ?_⟩
  · rw [hU]
    intro k q hk
    obtain ⟨i, -, hi⟩ := kz_pick hC hk
    exact hdy.1 i q hi
  · exact (hdy.2.1.sub isC hCn hC).weaken (fun _ _ _ _ => trivial)
  · rw [hU]
    exact kz_ro.moved hW.alike (kz_roOf hdy hA hro isC hC src hR hRd)
  · intro z hz'
    rw [hU]
    exact va_Z.moved hW.alike (((hZ z (hz z hz')).kept hdy.2.2.2.1).narrow hF)
  · exact kz_N.warm hW hnn (fun w hw => hN w (hn w hw))
theorem kz_preS {As : List Value} (hdy : kz_dy D cl A s.heap H locs ww) (hA : ∀ q, s.heap.size ≤ q → A q) (hK : va_K D cl tys s) (hro : kz_ro D cl A s s.heap wq) (hZ : kz_Z zs A s s.heap) (hN : kz_N ns s)
    (isC : List Nat) (hCn : va_nd isC = true) (hC : isC.map (fun i => ww[i]?) = wc.map some) (src : List (Bool × Nat)) (hR : src.map (kz_src ww wq) = wr.map some) (hRd : ∀ x ∈ src, x.1 = true ∨ x.2 ∉ isC)
    (it : List Nat) (ht : it.filterMap (fun i => tys[i]?) = tys') (hz : ∀ z ∈ zs', z ∈ zs) (hn : ∀ w ∈ ns', w ∈ ns) (hnn : ns'.all kz_isN = true) : PreS s H (kz_Pc D cl tys' zs' ns' As wc wr H.size) As :=
  ⟨kz_blind hnn, kz_at hdy hA hK hro hZ hN isC hCn hC src hR hRd it ht hz hn hnn⟩
theorem kz_preV {As : List Value} {b : Addr} {C : String} {ci q0 : Nat} {cq : vw_C} {fs : List Value} (hdy : kz_dy D cl A s.heap H locs ww) (hA : ∀ q, s.heap.size ≤ q → A q) (hK : va_K D cl tys s) (hro : kz_ro D cl A s s.heap wq) (hZ : kz_Z zs A s s.heap) (hN : kz_N ns s)
    (isC : List Nat) (hCn : va_nd isC = true) (hC : isC.map (fun i => ww[i]?) = wc.map some) (src : List (Bool × Nat)) (hR : src.map (kz_src ww wq) = wr.map some) (hRd : ∀ x ∈ src, x.1 = true ∨ x.2 ∉ isC)
    (it : List Nat) (ht : it.filterMap (fun i => tys[i]?) = tys') (hz : ∀ z ∈ zs', z ∈ zs) (hn : ∀ w ∈ ns', w ∈ ns) (hnn : ns'.all kz_isN = true) (hc : cl[ci]? = some cq) (he : ww[q0]? = some (b, .inr (ci, fs))) (hCq : cq.1 = C) : PreV s H C b (kz_Pc D cl tys' zs' ns' (.ref b :: As) wc wr H.size) As :=
  ⟨kz_blind hnn, by rw [← hCq]; exact va_recv hK hdy.1 hc he, kz_at (As := .ref b :: As) hdy hA hK hro hZ hN isC hCn hC src hR hRd it ht hz hn hnn⟩
/-- behind a call -/
theorem kz_calli {S : Type} {post : Int32 → S → Prop} {w : S → va_W} (hr : va_Run p l e R s m args below meth c H locs cells slots mc ms (F0 m pc ls st0) rest (va_Qi post (kz_B D cl (va_A wc H.size) w) (va_A wc H.size) a) (va_A wc H.size))
    (hdy : kz_dy D cl A s.heap H locs ww) (hA : ∀ q, s.heap.size ≤ q → A q) (isC isR : List Nat) (hC : isC.map (fun i => ww[i]?) = wc.map some) (hR : isR.map (fun i => ww[i]?) = wk.map some) (hn : va_nd isR = true) (hdis : ∀ i ∈ isR, i ∉ isC)
    (kk : ∀ (r : Int32) (u : S) (H1 : Heap) (locs1 : List Loc), post r u → kz_dy D cl A s.heap H1 locs1 (wk ++ w u) → W p l e R s m args below meth c H1 locs1 (cells + mc) (slots + ms) Q (F0 m (pc + 3) ls (.int r :: rest))) : W p l e R s m args below meth c H locs cells slots Q (F0 m pc ls st0) := by
  have hF := va_free hdy.2.1 hdy.2.2 hA isC hC
  refine va_calli hr hdy.2.2 (fun q _ h => hF q h) hF (fun r u t H1 locs1 ht hvm hw hB hz1 hk1 hS => ?_)
  obtain ⟨hP1, hD1⟩ := hB
  rw [ht] at hP1
  obtain ⟨hP, hD⟩ := va_join hdy.1 hdy.2.1 isC isR hC hR hn hdis hk1 hF hP1 hD1
  exact kk r u H1 locs1 hw ⟨hP, hD, hS⟩
theorem kz_calll {S : Type} {post : Int64 → S → Prop} {w : S → va_W} (hr : va_Run p l e R s m args below meth c H locs cells slots mc ms (F0 m pc ls st0) rest (va_Ql post (kz_B D cl (va_A wc H.size) w) (va_A wc H.size) a) (va_A wc H.size))
    (hdy : kz_dy D cl A s.heap H locs ww) (hA : ∀ q, s.heap.size ≤ q → A q) (isC isR : List Nat) (hC : isC.map (fun i => ww[i]?) = wc.map some) (hR : isR.map (fun i => ww[i]?) = wk.map some) (hn : va_nd isR = true) (hdis : ∀ i ∈ isR, i ∉ isC)
    (kk : ∀ (r : Int64) (u : S) (H1 : Heap) (locs1 : List Loc), post r u → kz_dy D cl A s.heap H1 locs1 (wk ++ w u) → W p l e R s m args below meth c H1 locs1 (cells + mc) (slots + ms) Q (F0 m (pc + 3) ls (.long r :: rest))) : W p l e R s m args below meth c H locs cells slots Q (F0 m pc ls st0) := by
  have hF := va_free hdy.2.1 hdy.2.2 hA isC hC
  refine va_calll hr hdy.2.2 (fun q _ h => hF q h) hF (fun r u t H1 locs1 ht hvm hw hB hz1 hk1 hS => ?_)
  obtain ⟨hP1, hD1⟩ := hB
  rw [ht] at hP1
  obtain ⟨hP, hD⟩ := va_join hdy.1 hdy.2.1 isC isR hC hR hn hdis hk1 hF hP1 hD1
  exact kk r u H1 locs1 hw ⟨hP, hD, hS⟩
theorem kz_callv {S : Type} {post : S → Prop} {w : S → va_W} (hr : va_Run p l e R s m args below meth c H locs cells slots mc ms (F0 m pc ls st0) rest (va_Qv post (kz_B D cl (va_A wc H.size) w) (va_A wc H.size) a) (va_A wc H.size))
    (hdy : kz_dy D cl A s.heap H locs ww) (hA : ∀ q, s.heap.size ≤ q → A q) (isC isR : List Nat) (hC : isC.map (fun i => ww[i]?) = wc.map some) (hR : isR.map (fun i => ww[i]?) = wk.map some) (hn : va_nd isR = true) (hdis : ∀ i ∈ isR, i ∉ isC)
    (kk : ∀ (u : S) (H1 : Heap) (locs1 : List Loc), post u → kz_dy D cl A s.heap H1 locs1 (wk ++ w u) → W p l e R s m args below meth c H1 locs1 (cells + mc) (slots + ms) Q (F0 m (pc + 3) ls rest)) : W p l e R s m args below meth c H locs cells slots Q (F0 m pc ls st0) := by
  have hF := va_free hdy.2.1 hdy.2.2 hA isC hC
  refine va_callv hr hdy.2.2 (fun q _ h => hF q h) hF (fun u t H1 locs1 ht hvm hw hB hz1 hk1 hS => ?_)
  obtain ⟨hP1, hD1⟩ := hB
  rw [ht] at hP1
  obtain ⟨hP, hD⟩ := va_join hdy.1 hdy.2.1 isC isR hC hR hn hdis hk1 hF hP1 hD1
  exact kk u H1 locs1 hw ⟨hP, hD, hS⟩
/-- what stays the same through a method's walk -/
def kz_F (p : Program) (s : State) (m : MethodId) (args : Array Value) (meth : Method) (c : Code) (cc : ByteArray) (nL : Nat) (y : MethodName) (Ts : List Cond) (ret : Option FieldType) : Prop :=
  p.tables.exec = Jvm.exec ∧ c.code = cc ∧ c.maxLocals = nL ∧ meth.sig.returnType = ret ∧ s.vm.findClass y.cls = some m.cls ∧ meth.locks = false ∧ (∀ w ∈ Ts, w.before args s = true) ∧ meth.name = y.name
theorem kz_met {y : MethodName} {ws ws' : List Cond} {rm : Room} {av : List Value} {sz : Nat} {Qc : (Nat → Prop) → Array Value → State → Outcome → State → Prop} {cc : ByteArray} {maxL : Nat} {ret : Option FieldType} (hy : plainName y.cls = true) (hw : ws = Cond.code y cc maxL ret :: ws') (hav : (lg_sl av).length ≤ maxL)
    (body : ∀ (p : Program) (e : Env) (s : State) (m : MethodId) (below : List Frame) (meth : Method) (c : Code) (A : Nat → Prop) (ls : Array Slot), kz_F p s m av.toArray meth c cc maxL y ws ret → (∀ q, s.heap.size ≤ q → A q) → kz_dy D cl A s.heap s.heap [] wc → va_K D cl tys s → kz_ro D cl A s s.heap wr → kz_Z zs A s s.heap → kz_N ns s → lv_has ls maxL (lv_args 0 av) →
      W p l e rm s m av.toArray below meth c s.heap [] 0 0 (MQ below (Qc A) av.toArray s mc ms A) (F0 m 0 ls [])) : Met l y ws rm (kz_Pc D cl tys zs ns av wc wr sz) (Qc (va_A wc sz)) mc ms (va_A wc sz) := by
  refine Met.ofW (cc := cc) (maxL := maxL) (ret := ret) hy hw ?_
  intro p e s m args below meth c s₁ B hml hv
  obtain ⟨rfl, hsz, hP, hD0, hK, hro, hZ, hN⟩ := hv
  subst hsz
  rw [lg_entry_eq]
  exact body p e s m below meth c _ _ ⟨B.exec, B.bytes, hml, B.returns, findClass_of_methodNamed B.named, B.notSynchronized, atoms_spec (ws := ws) B.pre, (name_of_methodNamed B.named B.method).1⟩ (fun q h => Or.inr h) ⟨hP, hD0.self, va_S.rf⟩ hK hro hZ hN (lv_entry av hav)
/-- a method's ends -/
theorem kz_vret {S : Type} {post : S → Prop} {w : S → va_W} {cc : ByteArray} {nL : Nat} {y : MethodName} {Ts : List Cond} (F : kz_F p s m args meth c cc nL y Ts none) (u : S) (hdy : kz_dy D cl A s.heap H locs (w u)) (hp : post u) (hdg : decode cc pc = .ok (.return_, 1)) : W p l e R s m args below meth c H locs cells slots (MQ below (va_Qv post (kz_B D cl A w) A) args s cells slots A) (F0 m pc ls []) := by
  obtain ⟨hx, hb, hml, hr, hown, hlocks, hts, hnm⟩ := F
  exact W.vret hx hb hr (fun t ht hW => ⟨⟨u, rfl, hp, by rw [ht]; exact hdy.1, hdy.2.1⟩, hdy.2.2.F ht⟩) hdy.2.2.2.2 hdg hlocks
theorem kz_iret {S : Type} {post : Int32 → S → Prop} {w : S → va_W} {cc : ByteArray} {nL : Nat} {y : MethodName} {Ts : List Cond} {v : Int32} (F : kz_F p s m args meth c cc nL y Ts (some .int)) (u : S) (hdy : kz_dy D cl A s.heap H locs (w u)) (hp : post v u) (hdg : decode cc pc = .ok (.ireturn, 1)) : W p l e R s m args below meth c H locs cells slots (MQ below (va_Qi post (kz_B D cl A w) A) args s cells slots A) (F0 m pc ls [.int v]) := by
  obtain ⟨hx, hb, hml, hr, hown, hlocks, hts, hnm⟩ := F
  exact W.iret hx hb hr (fun t ht hW => ⟨⟨v, u, rfl, hp, by rw [ht]; exact hdy.1, hdy.2.1⟩, hdy.2.2.F ht⟩) hdy.2.2.2.2 hdg hlocks
theorem kz_zret {S : Type} {post : Int32 → S → Prop} {w : S → va_W} {cc : ByteArray} {nL : Nat} {y : MethodName} {Ts : List Cond} {v : Int32} (F : kz_F p s m args meth c cc nL y Ts (some .boolean)) (u : S) (hdy : kz_dy D cl A s.heap H locs (w u)) (hv : v = 0 ∨ v = 1) (hp : post v u) (hdg : decode cc pc = .ok (.ireturn, 1)) : W p l e R s m args below meth c H locs cells slots (MQ below (va_Qi post (kz_B D cl A w) A) args s cells slots A) (F0 m pc ls [.int v]) := by
  obtain ⟨hx, hb, hml, hr, hown, hlocks, hts, hnm⟩ := F
  exact W.zret hx hb hr (by rcases hv with rfl | rfl <;> decide) (fun t ht hW => ⟨⟨v, u, rfl, hp, by rw [ht]; exact hdy.1, hdy.2.1⟩, hdy.2.2.F ht⟩) hdy.2.2.2.2 hdg hlocks
theorem kz_lret {S : Type} {post : Int64 → S → Prop} {w : S → va_W} {cc : ByteArray} {nL : Nat} {y : MethodName} {Ts : List Cond} {v : Int64} (F : kz_F p s m args meth c cc nL y Ts (some .long)) (u : S) (hdy : kz_dy D cl A s.heap H locs (w u)) (hp : post v u) (hdg : decode cc pc = .ok (.lreturn, 1)) : W p l e R s m args below meth c H locs cells slots (MQ below (va_Ql post (kz_B D cl A w) A) args s cells slots A) (F0 m pc ls [.long v]) := by
  obtain ⟨hx, hb, hml, hr, hown, hlocks, hts, hnm⟩ := F
  exact W.lret hx hb hr (fun t ht hW => ⟨⟨v, u, rfl, hp, by rw [ht]; exact hdy.1, hdy.2.1⟩, hdy.2.2.F ht⟩) hdy.2.2.2.2 hdg hlocks
end KZ
