/-! ===== lN to 2^62 under >> and >>> ===== -/
theorem pf_lI {a : Nat} (h : a < 2 ^ 63) : (lN a).toInt = (a : Int) := lg_ofNat_toInt h
theorem pf_shr {a d : Nat} {D : Int64} (hD : (D.toBitVec.smod 64).toNat = d) (h : a < 2 ^ 62) : lN a >>> D = lN (a / 2 ^ d) := by
  have hd : a / 2 ^ d ≤ a := Nat.div_le_self _ _
  apply Int64.toInt_inj.mp
  have e : (lN a >>> D).toInt = (lN a).toInt >>> d := by
    rw [← hD]
    exact BitVec.toInt_sshiftRight ..
  rw [e, Int.shiftRight_eq_div_pow, pf_lI (by omega), pf_lI (by omega)]
  rfl
theorem pf_ushr {a d : Nat} {D : UInt64} (hD : D.toNat % 64 = d) (h : a < 2 ^ 62) : ((lN a).toUInt64 >>> D).toInt64 = lN (a / 2 ^ d) := by
  have hd : a / 2 ^ d ≤ a := Nat.div_le_self _ _
  have e : (lN a).toUInt64 >>> D = UInt64.ofNat (a / 2 ^ d) := UInt64.toNat_inj.mp (by
    rw [UInt64.toNat_shiftRight, hD, Nat.shiftRight_eq_div_pow, UInt64.toNat_ofNat']
    show (UInt64.ofNat a).toNat / 2 ^ d = _
    rw [UInt64.toNat_ofNat', Nat.mod_eq_of_lt (by omega), Nat.mod_eq_of_lt (by omega)])
  rw [e]
  rfl
theorem pf_andw (x : Int64) : ∃ m, m < 2 ^ 32 ∧ x &&& 4294967295 = lN m := ⟨x.toBitVec.toNat % 2 ^ 32, Nat.mod_lt _ (by decide), Int64.toBitVec_inj.mp (BitVec.eq_of_toNat_eq (by
  show (x.toBitVec &&& 4294967295#64).toNat = (BitVec.ofNat 64 (x.toBitVec.toNat % 2 ^ 32)).toNat
  rw [BitVec.toNat_and, show (4294967295#64).toNat = 2 ^ 32 - 1 from by decide, Nat.and_two_pow_sub_one_eq_mod, BitVec.toNat_ofNat]
  omega))⟩
/-! ROWS of an instruction, or of two, that the walks use (draft, not yet compiled) -/
def kz_row (l : List Nat) (i : Nat) : Option Nat := l[i]?
theorem kz_m1 (n : Nat) : nI n + Int32.ofInt (-1) = nI n - 1 := by
  have h : Int32.ofInt (-1) = -1 := by decide
  rw [h, Int32.sub_eq_add_neg]
theorem kz_in {x : Int32} {n : Nat} (h0 : ¬ x < 0) (h : ¬ nI n ≤ x) (hn : n < 2 ^ 31) : vp_in x n := by
  rw [vp_in_iff]
  rw [Int32.lt_iff_toInt_lt, Int32.toInt_zero] at h0
  rw [Int32.le_iff_toInt_le, nI_toInt hn] at h
  omega
theorem kz_ne0 {a b : Nat} (ha : a < 2 ^ 32) (hb : b < 2 ^ 32) (h : lN a < lN b) : ¬ lN b = 0 := by
  intro q
  have h1 := (pk_lLT (by omega) (by omega)).mp h
  have h2 : lN b = lN 0 := q
  have h3 := (pk_lEQ (by omega) (by omega)).mp h2
  omega
theorem kz_cmp_lt {x y : Int64} : lg_cmp x y < 0 ↔ x < y := by
  unfold lg_cmp
  by_cases h1 : x > y
  · rw [if_pos h1]
    refine ⟨fun h => absurd h (by decide), fun h => ?_⟩
    have h2 : y < x := h1
    rw [Int64.lt_iff_toInt_lt] at h h2
    omega
  · rw [if_neg h1]
    by_cases h2 : x = y
    · rw [if_pos h2]
      refine ⟨fun h => absurd h (by decide), fun h => ?_⟩
      subst h2
      exact absurd h h1
    · rw [if_neg h2]
      refine ⟨fun _ => ?_, fun _ => by decide⟩
      have h3 : ¬ y < x := h1
      rw [Int64.lt_iff_toInt_lt] at h3 ⊢
      have h4 : x.toInt ≠ y.toInt := fun q => h2 (Int64.toInt_inj.mp q)
      omega
theorem kz_cmp_eq {x y : Int64} : lg_cmp x y = 0 ↔ x = y := by
  unfold lg_cmp
  by_cases h1 : x > y
  · rw [if_pos h1]
    refine ⟨fun h => absurd h (by decide), fun h => ?_⟩
    subst h
    have h2 : x < x := h1
    rw [Int64.lt_iff_toInt_lt] at h2
    omega
  · rw [if_neg h1]
    by_cases h2 : x = y
    · rw [if_pos h2]; exact ⟨fun _ => h2, fun _ => rfl⟩
    · rw [if_neg h2]; exact ⟨fun h => absurd h (by decide), fun h => absurd h h2⟩
section KR
variable {p : Program} {l : Launch} {e : Env} {R : Room} {s : State} {m : MethodId} {args : Array Value} {below : List Frame} {meth : Method} {c : Code} {H : Heap} {locs : List Loc} {cells slots : Nat} {Q : State → Prop}
variable {cc : ByteArray} {pc : Nat} {ls : Array Slot} {rest : List Value}
theorem kz_iadd (hexec : p.tables.exec = Jvm.exec) (hb : c.code = cc) {x y v : Int32} (hdg : decode cc pc = .ok (.iadd, 1)) (hv : x + y = v) (k : W p l e R s m args below meth c H locs cells slots Q (F0 m (pc + 1) ls (.int v :: rest))) : W p l e R s m args below meth c H locs cells slots Q (F0 m pc ls (.int y :: .int x :: rest)) := by
  subst hv; exact lv_iadd hexec hb hdg k
theorem kz_isub (hexec : p.tables.exec = Jvm.exec) (hb : c.code = cc) {x y v : Int32} (hdg : decode cc pc = .ok (.isub, 1)) (hv : x - y = v) (k : W p l e R s m args below meth c H locs cells slots Q (F0 m (pc + 1) ls (.int v :: rest))) : W p l e R s m args below meth c H locs cells slots Q (F0 m pc ls (.int y :: .int x :: rest)) := by
  subst hv; exact lv_isub hexec hb hdg k
theorem kz_imul (hexec : p.tables.exec = Jvm.exec) (hb : c.code = cc) {x y v : Int32} (hdg : decode cc pc = .ok (.imul, 1)) (hv : x * y = v) (k : W p l e R s m args below meth c H locs cells slots Q (F0 m (pc + 1) ls (.int v :: rest))) : W p l e R s m args below meth c H locs cells slots Q (F0 m pc ls (.int y :: .int x :: rest)) := by
  subst hv; exact lv_imul hexec hb hdg k
theorem kz_idiv (hexec : p.tables.exec = Jvm.exec) (hb : c.code = cc) {x y v : Int32} (hdg : decode cc pc = .ok (.idiv, 1)) (hne : ¬ y = 0) (hv : x / y = v) (k : W p l e R s m args below meth c H locs cells slots Q (F0 m (pc + 1) ls (.int v :: rest))) : W p l e R s m args below meth c H locs cells slots Q (F0 m pc ls (.int y :: .int x :: rest)) := by
  subst hv; exact lv_idiv hexec hb hdg hne k
theorem kz_irem (hexec : p.tables.exec = Jvm.exec) (hb : c.code = cc) {x y v : Int32} (hdg : decode cc pc = .ok (.irem, 1)) (hne : ¬ y = 0) (hv : x - x / y * y = v) (k : W p l e R s m args below meth c H locs cells slots Q (F0 m (pc + 1) ls (.int v :: rest))) : W p l e R s m args below meth c H locs cells slots Q (F0 m pc ls (.int y :: .int x :: rest)) := by
  subst hv; exact lv_irem hexec hb hdg hne k
/-- & 0xffffffffL: a natural below 2^32 -/
theorem kz_mask (hexec : p.tables.exec = Jvm.exec) (hb : c.code = cc) {x : Int64} (hdg : decode cc pc = .ok (.land, 1)) (k : ∀ z : Nat, z < 2 ^ 32 → W p l e R s m args below meth c H locs cells slots Q (F0 m (pc + 1) ls (.long (lN z) :: rest))) : W p l e R s m args below meth c H locs cells slots Q (F0 m pc ls (.long 4294967295 :: .long x :: rest)) := by
  obtain ⟨z, hz, ez⟩ := pf_andw x
  refine lv_land hexec hb hdg ?_
  rw [ez]
  exact k z hz
/-- lcmp and the branch behind it -/
theorem kz_llt (hexec : p.tables.exec = Jvm.exec) (hb : c.code = cc) {x y : Int64} {off : Int} {tgt : Nat} (hd1 : decode cc pc = .ok (.lcmp, 1)) (hd2 : decode cc (pc + 1) = .ok (.ifCond .lt off, 3)) (ht : ((pc + 1 : Nat) : Int) + off = (tgt : Int))
    (kt : x < y → W p l e R s m args below meth c H locs cells slots Q (F0 m tgt ls rest)) (kf : ¬ x < y → W p l e R s m args below meth c H locs cells slots Q (F0 m (pc + 1 + 3) ls rest)) : W p l e R s m args below meth c H locs cells slots Q (F0 m pc ls (.long y :: .long x :: rest)) :=
  W.lcmp hexec hb hd1 (lv_if_lt (tgt := tgt) hexec hb hd2 ht (fun h => kt (kz_cmp_lt.mp h)) (fun h => kf (fun q => h (kz_cmp_lt.mpr q))))
theorem kz_lge (hexec : p.tables.exec = Jvm.exec) (hb : c.code = cc) {x y : Int64} {off : Int} {tgt : Nat} (hd1 : decode cc pc = .ok (.lcmp, 1)) (hd2 : decode cc (pc + 1) = .ok (.ifCond .ge off, 3)) (ht : ((pc + 1 : Nat) : Int) + off = (tgt : Int))
    (kt : ¬ x < y → W p l e R s m args below meth c H locs cells slots Q (F0 m tgt ls rest)) (kf : x < y → W p l e R s m args below meth c H locs cells slots Q (F0 m (pc + 1 + 3) ls rest)) : W p l e R s m args below meth c H locs cells slots Q (F0 m pc ls (.long y :: .long x :: rest)) := by
  have key : ∀ z : Int32, 0 ≤ z ↔ ¬ z < 0 := fun z => by rw [Int32.le_iff_toInt_le, Int32.lt_iff_toInt_lt]; omega
  exact W.lcmp hexec hb hd1 (lv_if_ge (tgt := tgt) hexec hb hd2 ht (fun h => kt (fun q => (key _).mp h (kz_cmp_lt.mpr q))) (fun h => kf (kz_cmp_lt.mp (Classical.byContradiction fun q => h ((key _).mpr q)))))
theorem kz_leq (hexec : p.tables.exec = Jvm.exec) (hb : c.code = cc) {x y : Int64} {off : Int} {tgt : Nat} (hd1 : decode cc pc = .ok (.lcmp, 1)) (hd2 : decode cc (pc + 1) = .ok (.ifCond .eq off, 3)) (ht : ((pc + 1 : Nat) : Int) + off = (tgt : Int))
    (kt : x = y → W p l e R s m args below meth c H locs cells slots Q (F0 m tgt ls rest)) (kf : ¬ x = y → W p l e R s m args below meth c H locs cells slots Q (F0 m (pc + 1 + 3) ls rest)) : W p l e R s m args below meth c H locs cells slots Q (F0 m pc ls (.long y :: .long x :: rest)) :=
  W.lcmp hexec hb hd1 (lv_if_eq (tgt := tgt) hexec hb hd2 ht (fun h => kt (kz_cmp_eq.mp h)) (fun h => kf (fun q => h (kz_cmp_eq.mpr q))))
theorem kz_lne (hexec : p.tables.exec = Jvm.exec) (hb : c.code = cc) {x y : Int64} {off : Int} {tgt : Nat} (hd1 : decode cc pc = .ok (.lcmp, 1)) (hd2 : decode cc (pc + 1) = .ok (.ifCond .ne off, 3)) (ht : ((pc + 1 : Nat) : Int) + off = (tgt : Int))
    (kt : ¬ x = y → W p l e R s m args below meth c H locs cells slots Q (F0 m tgt ls rest)) (kf : x = y → W p l e R s m args below meth c H locs cells slots Q (F0 m (pc + 1 + 3) ls rest)) : W p l e R s m args below meth c H locs cells slots Q (F0 m pc ls (.long y :: .long x :: rest)) :=
  W.lcmp hexec hb hd1 (lv_if_ne (tgt := tgt) hexec hb hd2 ht (fun h => kt (fun q => h (kz_cmp_eq.mpr q))) (fun h => kf (kz_cmp_eq.mp h)))
variable {D : va_G} {cl : List vw_C} {A : Nat → Prop} {a : Nat} {tys tys' : List (ClassId × FieldType)} {ws : va_W} {H0 : Heap} {zs zs' : List (String × String × String × Value)} {ns ns' : List Cond} {ww wq wc wr : va_W}
/-- a row out of an array of arrays -/
theorem kz_aald (hexec : p.tables.exec = Jvm.exec) (hb : c.code = cc) (hK : va_K D cl tys s) (hP : va_P D cl ws H) (q0 t0 : Nat) {cA : ClassId} {n k t : Nat} {f : Nat → Option Nat} (ha : ws[q0]? = some (a, .inl (cA, n, .inr (.inr (.inr (.inr f)))))) (ht : tys[t0]? = some (cA, .array .int)) {i : Int32} (hin : vp_in i n) (hi : i.toNatClampNeg = k) (hv : f k = some t) (hdg : decode cc pc = .ok (.aaload, 1))
    (kk : W p l e R s m args below meth c H locs cells slots Q (F0 m (pc + 1) ls (.ref t :: rest))) : W p l e R s m args below meth c H locs cells slots Q (F0 m pc ls (.int i :: .ref a :: rest)) := by
  have hlt : i.toNatClampNeg < n := Nat.not_le.mp fun q => hin (Or.inr q)
  have hval : va_rf (f i.toNatClampNeg) = .ref t := by rw [hi, hv]; rfl
  exact W.aald (v := .ref t) (ty := .array .int) hexec hb (hP q0 _ ha) ((hK.2 t0 _ ht).1 n (fun j => va_rf (f j))) rfl (fun q => by cases q) (by show ¬ (i < 0 ∨ (arrV _ _ _).slots.size ≤ _); rw [arrV_size]; exact hin) (by show (arrV _ _ _).slots[_]? = _; rw [arrV_read _ _ hlt, hval]) rfl rfl hdg kk
/-- reads of arrays that are only read -/
theorem kz_riald (hexec : p.tables.exec = Jvm.exec) (hb : c.code = cc) (hK : va_K D cl tys s) (hro : kz_ro D cl A s s.heap wq) (hS : va_S A s.heap H locs) (q0 t0 : Nat) {cA : ClassId} {n : Nat} {f : Nat → Int32} (ha : wq[q0]? = some (a, .inl (cA, n, .inl f))) (ht : tys[t0]? = some (cA, .int)) {i : Int32} (hin : vp_in i n) (hdg : decode cc pc = .ok (.iaload, 1))
    (kk : W p l e R s m args below meth c H locs cells slots Q (F0 m (pc + 1) ls (.int (f i.toNatClampNeg) :: rest))) : W p l e R s m args below meth c H locs cells slots Q (F0 m pc ls (.int i :: .ref a :: rest)) := by
  obtain ⟨cell, g1, g2, g3, g4, g5, g6⟩ := hro.at hS q0 _ ha
  have hlt : i.toNatClampNeg < n := Nat.not_le.mp fun q => hin (Or.inr q)
  exact W.iald (v := .int (f i.toNatClampNeg)) hexec hb g1 (g2 _ (hK.2 t0 _ ht).1) g3 (fun q => q.elim (fun q => hin (Or.inl q)) (fun q => by omega)) (g6 _ hlt) rfl rfl hdg kk
theorem kz_rbald (hexec : p.tables.exec = Jvm.exec) (hb : c.code = cc) (hK : va_K D cl tys s) (hro : kz_ro D cl A s s.heap wq) (hS : va_S A s.heap H locs) (q0 t0 : Nat) {cA : ClassId} {n : Nat} {f : Nat → Int32} (ha : wq[q0]? = some (a, .inl (cA, n, .inl f))) (ht : tys[t0]? = some (cA, .byte)) {i : Int32} (hin : vp_in i n) (hdg : decode cc pc = .ok (.baload, 1))
    (kk : W p l e R s m args below meth c H locs cells slots Q (F0 m (pc + 1) ls (.int (f i.toNatClampNeg) :: rest))) : W p l e R s m args below meth c H locs cells slots Q (F0 m pc ls (.int i :: .ref a :: rest)) := by
  obtain ⟨cell, g1, g2, g3, g4, g5, g6⟩ := hro.at hS q0 _ ha
  have hlt : i.toNatClampNeg < n := Nat.not_le.mp fun q => hin (Or.inr q)
  exact W.bald (v := .int (f i.toNatClampNeg)) hexec hb g1 (g2 _ (hK.2 t0 _ ht).1) g3 (fun q => q.elim (fun q => hin (Or.inl q)) (fun q => by omega)) (g6 _ hlt) rfl rfl hdg kk
theorem kz_ralen (hexec : p.tables.exec = Jvm.exec) (hb : c.code = cc) (hK : va_K D cl tys s) (hro : kz_ro D cl A s s.heap wq) (hS : va_S A s.heap H locs) (q0 t0 : Nat) {cA : ClassId} {n : Nat} {f : Nat → Int32} (ha : wq[q0]? = some (a, .inl (cA, n, .inl f))) {ty : FieldType} (ht : tys[t0]? = some (cA, ty)) {v : Int32} (hv : Int32.ofNat n = v) (hdg : decode cc pc = .ok (.arraylength, 1))
    (kk : W p l e R s m args below meth c H locs cells slots Q (F0 m (pc + 1) ls (.int v :: rest))) : W p l e R s m args below meth c H locs cells slots Q (F0 m pc ls (.ref a :: rest)) := by
  obtain ⟨cell, g1, g2, g3, g4, g5, g6⟩ := hro.at hS q0 _ ha
  exact W.alen (n := v) hexec hb g1 (g2 _ (hK.2 t0 _ ht).1) (g5.trans hv) rfl rfl hdg kk
/-- System.arraycopy out of any array that bears the figures -/
theorem kz_copyg (hexec : p.tables.exec = Jvm.exec) (hb : c.code = cc) (hml : c.maxLocals = ls.size) {own : String} {index : Nat} (hown : s.vm.findClass own = some m.cls) (hlink : (Cond.methodLink own index arraycopyName).before args s = true) (hnat : (Cond.native arraycopyName).before args s = true) (hstat : (Cond.static arraycopyName).before args s = true) (hini : (Cond.initialized "java/lang/System").before args s = true)
    (hK : va_K D cl tys s) (hP : va_P D cl ws H) (hD : va_D A ws) (hS : va_S A s.heap H locs) {a0 n0 : Nat} {c0 : ClassId} {f : Nat → Int32} (hX : kz_ra s H a0 c0 n0 f) (hAr : ArrOfT s c0 .int) (q1 t1 : Nat) {c1 : ClassId} {n1 : Nat} {g : Nat → Int32} (ha1 : ws[q1]? = some (a, .inl (c1, n1, .inl g))) (ht1 : tys[t1]? = some (c1, .int))
    {sp dp n : Int32} (h1 : ¬ sp < 0) (h2 : ¬ dp < 0) (h3 : ¬ n < 0) (h4 : sp.toNatClampNeg + n.toNatClampNeg ≤ n0) (h5 : dp.toNatClampNeg + n.toNatClampNeg ≤ n1)
    (hframes : 1 ≤ R.frames) (hlocals : (rest.map fun v => v.category).sum + (nativeFrameWords "java/lang/System" "arraycopy" 5 + 11) ≤ R.locals) (hdg : decode cc pc = .ok (.invokestatic index, 3))
    (kk : ∀ (H1 : Heap) (locs1 : List Loc), va_P D cl (ws.set q1 (a, .inl (c1, n1, .inl (va_cpy f g sp.toNatClampNeg dp.toNatClampNeg n.toNatClampNeg)))) H1 → va_D A (ws.set q1 (a, .inl (c1, n1, .inl (va_cpy f g sp.toNatClampNeg dp.toNatClampNeg n.toNatClampNeg)))) → va_S A s.heap H1 locs1 → W p l e R s m args below meth c H1 locs1 cells slots Q (F0 m (pc + 3) ls rest)) : W p l e R s m args below meth c H locs cells slots Q (F0 m pc ls (.int n :: .int dp :: .ref a :: .int sp :: .ref a0 :: rest)) := by
  have up : ∀ z : Int32, ¬ z < 0 → z.toInt = (z.toNatClampNeg : Int) := fun z hz => by
    have hz0 := Int32.le_iff_toInt_le.mp (Int32.not_lt.mp hz)
    rw [show (0 : Int32).toInt = 0 from by decide] at hz0
    exact (Int.toNat_of_nonneg hz0).symm
  obtain ⟨cell, g1, g2, g3, g4, -, g6⟩ := hX
  obtain ⟨u0, k0, hk0, cm0, hkk0⟩ := g2 _ hAr
  obtain ⟨-, k1, hk1, cm1, hkk1⟩ := (hK.2 t1 _ ht1).1 n1 (fun j => .int (g j))
  have hd1 : H[a]? = some (vp_cell c1 (n1, .inl g)) := hP q1 _ ha1
  have hsz : (vp_cell c1 (n1, .inl g)).slots.size = n1 := by rw [vp_cell_i]; exact arrV_size _ _ _
  have hgot : ∀ i, i < n.toNatClampNeg → cell.slots.getD (sp.toNatClampNeg + i) .null = .int (f (sp.toNatClampNeg + i)) := fun i hi => by rw [Array.getD_eq_getD_getElem?, g6 _ (by omega)]; rfl
  intro T hT X
  subst hT
  obtain ⟨vm', X', step⟩ := X.arraycopy hexec hown hlink hnat hstat hini (src := a0) (dst := a) (cs := cell) (cd := vp_cell c1 (n1, .inl g)) (srcPos := sp) (destPos := dp) (n := n) g1 hd1 u0 (fun _ h => by cases h) g3 (fun h => by cases h) hk0 hk1 hkk0 hkk1 (by simp [refKind]) h1 h2 h3
    (by rw [up sp h1, up n h3]; omega) (by rw [up dp h2, up n h3, hsz]; omega) (fun vm₁ _ i hi => by rw [hgot i hi]; exact ⟨rfl, trivial⟩)
    (g := F0 m pc ls (.int n :: .int dp :: .ref a :: .int sp :: .ref a0 :: rest)) rfl (by rw [hml]) (rest := rest) rfl (by rw [hb]; exact hdg) hframes (by show 2 * 0 + _ + _ ≤ _; omega)
  have e1 : copied cell (vp_cell c1 (n1, .inl g)) sp dp n = vp_cell c1 (n1, .inl (va_cpy f g sp.toNatClampNeg dp.toNatClampNeg n.toNatClampNeg)) := va_copiedX (fun z => .int z) cell c1 f g g6 h4
  rw [e1] at X' step
  obtain ⟨nw, hnw⟩ : ∃ nw, nw = vp_cell c1 (n1, .inl (va_cpy f g sp.toNatClampNeg dp.toNatClampNeg n.toNatClampNeg)) := ⟨_, rfl⟩
  rw [← hnw] at X' step
  have hin : a < T.heap.size := (Array.getElem?_eq_some_iff.mp hd1).1
  have same : ∀ q : Nat, q ≠ a → (T.heap.setIfInBounds a nw)[q]? = T.heap[q]? := fun q hq => by simp [Array.getElem?_setIfInBounds, Ne.symm hq]
  have here : (T.heap.setIfInBounds a nw)[a]? = some nw := by simp [Array.getElem?_setIfInBounds, hin]
  have hSn : ∀ L : List Loc, (∀ x ∈ L, x.base = a) → va_S A s.heap (T.heap.setIfInBounds a nw) (locs ++ L) := fun L hL => by
    refine ⟨by rw [Array.size_setIfInBounds]; exact hS.1, fun q q1' q2 => ?_, fun x hx => ?_⟩
    · rw [same q (fun e => q2 (by rw [e]; exact hD.2 q1 _ ha1))]
      exact hS.2.1 q q1' q2
    · rcases List.mem_append.mp hx with h | h
      · exact hS.2.2 x h
      · rw [hL x h]
        exact hD.2 q1 _ ha1
  obtain ⟨t, t1', t2'⟩ := kk (T.heap.setIfInBounds a nw) _ (hP.set hD ha1 (show (T.heap.setIfInBounds a nw)[a]? = some _ from here.trans (congrArg some hnw)) same) (hD.set ha1) (hSn _ (fun x hx => by obtain ⟨z, -, hz⟩ := List.mem_map.mp hx; rw [← hz])) _ rfl X'
  exact ⟨t, step t t1', t2'⟩
/-- System.arraycopy out of an array that is only read -/
theorem kz_copyr (hexec : p.tables.exec = Jvm.exec) (hb : c.code = cc) (hml : c.maxLocals = ls.size) {own : String} {index : Nat} (hown : s.vm.findClass own = some m.cls) (hlink : (Cond.methodLink own index arraycopyName).before args s = true) (hnat : (Cond.native arraycopyName).before args s = true) (hstat : (Cond.static arraycopyName).before args s = true) (hini : (Cond.initialized "java/lang/System").before args s = true)
    (hK : va_K D cl tys s) (hP : va_P D cl ws H) (hD : va_D A ws) (hS : va_S A s.heap H locs) (hro : kz_ro D cl A s s.heap wq) (q0 q1 t0 t1 : Nat) {a0 : Nat} {c0 c1 : ClassId} {n0 n1 : Nat} {f g : Nat → Int32} (ha0 : wq[q0]? = some (a0, .inl (c0, n0, .inl f))) (ha1 : ws[q1]? = some (a, .inl (c1, n1, .inl g))) (ht0 : tys[t0]? = some (c0, .int)) (ht1 : tys[t1]? = some (c1, .int)) (_hprim : refKind .int = false)
    {sp dp n : Int32} (h1 : ¬ sp < 0) (h2 : ¬ dp < 0) (h3 : ¬ n < 0) (h4 : sp.toNatClampNeg + n.toNatClampNeg ≤ n0) (h5 : dp.toNatClampNeg + n.toNatClampNeg ≤ n1) (_hfit : ∀ i, i < n.toNatClampNeg → fits .int (.int (f (sp.toNatClampNeg + i))) = true)
    (hframes : 1 ≤ R.frames) (hlocals : (rest.map fun v => v.category).sum + (nativeFrameWords "java/lang/System" "arraycopy" 5 + 11) ≤ R.locals) (hdg : decode cc pc = .ok (.invokestatic index, 3))
    (kk : ∀ (H1 : Heap) (locs1 : List Loc), va_P D cl (ws.set q1 (a, .inl (c1, n1, .inl (va_cpy f g sp.toNatClampNeg dp.toNatClampNeg n.toNatClampNeg)))) H1 → va_D A (ws.set q1 (a, .inl (c1, n1, .inl (va_cpy f g sp.toNatClampNeg dp.toNatClampNeg n.toNatClampNeg)))) → va_S A s.heap H1 locs1 → W p l e R s m args below meth c H1 locs1 cells slots Q (F0 m (pc + 3) ls rest)) : W p l e R s m args below meth c H locs cells slots Q (F0 m pc ls (.int n :: .int dp :: .ref a :: .int sp :: .ref a0 :: rest)) := by
  exact kz_copyg hexec hb hml hown hlink hnat hstat hini hK hP hD hS (hro.at hS q0 _ ha0) ((hK.2 t0 _ ht0).1) q1 t1 ha1 ht1 h1 h2 h3 h4 h5 hframes hlocals hdg kk
/-- a call on a receiver that is only read -/
theorem kz_preVr {As : List Value} {b : Addr} {C : String} {ci q0 : Nat} {cq : vw_C} {fs : List Value} (hdy : kz_dy D cl A s.heap H locs ww) (hA : ∀ q, s.heap.size ≤ q → A q) (hK : va_K D cl tys s) (hro : kz_ro D cl A s s.heap wq) (hZ : kz_Z zs A s s.heap) (hN : kz_N ns s)
    (isC : List Nat) (hCn : va_nd isC = true) (hC : isC.map (fun i => ww[i]?) = wc.map some) (src : List (Bool × Nat)) (hR : src.map (kz_src ww wq) = wr.map some) (hRd : ∀ x ∈ src, x.1 = true ∨ x.2 ∉ isC)
    (it : List Nat) (ht : it.filterMap (fun i => tys[i]?) = tys') (hz : ∀ z ∈ zs', z ∈ zs) (hn : ∀ w ∈ ns', w ∈ ns) (hnn : ns'.all kz_isN = true) (hc : cl[ci]? = some cq) (he : wq[q0]? = some (b, .inr (ci, fs))) (hCq : cq.1 = C) : PreV s H C b (kz_Pc D cl tys' zs' ns' (.ref b :: As) wc wr H.size) As :=
  ⟨kz_blind hnn, by rw [← hCq]; exact va_recv hK (hro.ob hdy.2.2 he) hc (q0 := 0) rfl, kz_at (As := .ref b :: As) hdy hA hK hro hZ hN isC hCn hC src hR hRd it ht hz hn hnn⟩
end KR
