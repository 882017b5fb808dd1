set_option maxHeartbeats 4000000 in
set_option maxRecDepth 100000 in
/-- KeyMeeting$Words.compare([I[I)I -/
theorem c_E_compare (l : Launch) (dC : Nat → ClassId) (dI : Nat → Nat → Nat) (cI cAA cB cL : ClassId) (a b : Nat) (ga : Nat → Nat) (gb : Nat → Nat) (sz : Nat) (hd_ga : ∀ j, ga j < 4294967296) (hd_gb : ∀ j, gb j < 4294967296) : Met l zy_W_compare zw_W_compare { frames := 0, cells := 0, slots := 0, locals := 0 } (kz_Pc (dC, dI) vwCl [(cI, .int), (cAA, .array .int), (cB, .byte), (cL, .long)] [] [] [.ref a, .ref b] [] [(a, .inl (cI, 8, .inl (kz_dg ga))), (b, .inl (cI, 8, .inl (kz_dg gb)))] sz) (va_Qi (fun (r : Int32) (u : Unit) => ((r = 0 ∧ kx_V 8 ga = kx_V 8 gb) ∨ (r = 1 ∧ kx_V 8 gb < kx_V 8 ga) ∨ (r = -1 ∧ kx_V 8 ga < kx_V 8 gb)) ∧ True) (kz_B (dC, dI) vwCl (va_A [] sz) (fun u : Unit => [])) (va_A [] sz)) 0 0 (va_A [] sz) := by
  refine kz_met (y := zy_W_compare) (ws := zw_W_compare) (av := [.ref a, .ref b]) (sz := sz) (Qc := fun A => va_Qi (fun (r : Int32) (u : Unit) => ((r = 0 ∧ kx_V 8 ga = kx_V 8 gb) ∨ (r = 1 ∧ kx_V 8 gb < kx_V 8 ga) ∨ (r = -1 ∧ kx_V 8 ga < kx_V 8 gb)) ∧ True) (kz_B (dC, dI) vwCl A (fun u : Unit => [])) A) (cc := zc_W_compare) (maxL := 3) (ret := some .int) (by decide) rfl (Nat.le_of_ble_eq_true rfl) ?_
  intro p e s m below meth c A ls F hA hdy hK hro hZ hN hl
  obtain ⟨hx, hb, hml, hr, hown, hlocks, hts, hnm⟩ := id F
  have hl : lv_has ls 3 [(0, .ref a), (1, .ref b)] := hl
  refine lv_iconst (v := (nI (0))) hx hb zd_W_compare_0 (by decide) ?_
  refine lv_istore_n (lv' := [(2, .int (nI (0))), (0, .ref a), (1, .ref b)]) hx hb zd_W_compare_1 rfl hl (by decide) rfl (fun ls hl => ?_)
  have lp2 : ∀ (n2 k2 : Nat) (H : Heap) (locs : List Loc) (ls : Array Slot), k2 ≤ 8 → 8 - k2 < n2 → (∀ j, j < k2 → ga j = gb j) → kz_dy (dC, dI) vwCl A s.heap H locs [] → lv_has ls 3 [(2, .int (nI (k2))), (0, .ref a), (1, .ref b)] → W p l e { frames := 0, cells := 0, slots := 0, locals := 0 } s m ([.ref a, .ref b] : List Value).toArray below meth c H locs 0 0 (MQ below (va_Qi (fun (r : Int32) (u : Unit) => ((r = 0 ∧ kx_V 8 ga = kx_V 8 gb) ∨ (r = 1 ∧ kx_V 8 gb < kx_V 8 ga) ∨ (r = -1 ∧ kx_V 8 ga < kx_V 8 gb)) ∧ True) (kz_B (dC, dI) vwCl A (fun u : Unit => [])) A) ([.ref a, .ref b] : List Value).toArray s 0 0 A) (F0 m 2 ls []) := by
    intro n2
    induction n2 with
    | zero => intro k2; intros; omega
    | succ n2 ih2 =>
      intro k2 H locs ls hi2 hn2 he hdy hl
      refine lv_iload_n hx hb zd_W_compare_2 rfl (lv_at hl 0 rfl) ?_
      refine lv_bipush (v := (nI (8))) hx hb zd_W_compare_3 (by decide) ?_
      refine lv_icmp_ge (tgt := 49) hx hb zd_W_compare_5 (by decide) (fun hc5 => ?_) (fun hc5 => ?_)
      · have hc5 : 8 ≤ k2 := (nI_leI (by omega) (by omega)).mp hc5
        refine lv_iconst (v := (nI (0))) hx hb zd_W_compare_49 (by decide) ?_
        exact kz_iret F () hdy (⟨by first | exact Or.inl ⟨rfl, kx_V_ext (fun j hj => he j (by omega))⟩ | exact Or.inr (Or.inl ⟨rfl, kx_cmpLt (k := k2) (by omega) hd_gb (fun j hj => (he j hj).symm) (by omega)⟩) | exact Or.inr (Or.inr ⟨rfl, kx_cmpLt (k := k2) (by omega) hd_ga (fun j hj => he j hj) (by omega)⟩), trivial⟩) zd_W_compare_50
      · have hc5 : ¬ 8 ≤ k2 := fun h9 => hc5 ((nI_leI (by omega) (by omega)).mpr h9)
        refine lv_aload_n hx hb zd_W_compare_8 rfl (lv_at hl 1 rfl) ?_
        refine lv_iload_n hx hb zd_W_compare_9 rfl (lv_at hl 0 rfl) ?_
        refine kz_riald hx hb hK hro hdy.2.2 0 0 rfl rfl (vp_in_nI (by omega) (by omega)) zd_W_compare_10 ?_
        refine lv_topi (fun x1 h9 => ?_)
        obtain rfl : x1 = nI (ga k2) := h9.trans (kz_dgl ga (by omega))
        have hbx1 := hd_ga k2
        refine lv_aload_n hx hb zd_W_compare_11 rfl (lv_at hl 2 rfl) ?_
        refine lv_iload_n hx hb zd_W_compare_12 rfl (lv_at hl 0 rfl) ?_
        refine kz_riald hx hb hK hro hdy.2.2 1 0 rfl rfl (vp_in_nI (by omega) (by omega)) zd_W_compare_13 ?_
        refine lv_topi (fun x2 h9 => ?_)
        obtain rfl : x2 = nI (gb k2) := h9.trans (kz_dgl gb (by omega))
        have hbx2 := hd_gb k2
        refine lv_icmp_eq (tgt := 43) hx hb zd_W_compare_14 (by decide) (fun hc14 => ?_) (fun hc14 => ?_)
        · have hc14 : (ga k2) = (gb k2) := (kx_nIeq (by omega) (by omega)).mp hc14
          refine lv_iinc (v := (nI (k2 + 1))) (lv' := [(2, .int (nI (k2 + 1))), (0, .ref a), (1, .ref b)]) hx hb zd_W_compare_43 hl (k := 0) rfl (nI_1 _) (by decide) rfl (fun ls hl => ?_)
          refine lv_goto (tgt := 2) hx hb zd_W_compare_46 (by decide) ?_
          have hi9_he3 : ∀ j, j < k2 + 1 → ga j = gb j := by intro j hj; rcases (by omega : j = k2 ∨ j < k2) with h | h; rw [h]; omega; exact he j h
          exact ih2 (k2 + 1) _ _ _ (by omega) (by omega) hi9_he3 hdy (lv_sub hl [0, 1, 2] rfl)
        · have hc14 : ¬ (ga k2) = (gb k2) := fun h9 => hc14 ((kx_nIeq (by omega) (by omega)).mpr h9)
          refine lv_aload_n hx hb zd_W_compare_17 rfl (lv_at hl 1 rfl) ?_
          refine lv_iload_n hx hb zd_W_compare_18 rfl (lv_at hl 0 rfl) ?_
          refine kz_riald hx hb hK hro hdy.2.2 0 0 rfl rfl (vp_in_nI (by omega) (by omega)) zd_W_compare_19 ?_
          refine lv_topi (fun x4 h9 => ?_)
          obtain rfl : x4 = nI (ga k2) := h9.trans (kz_dgl ga (by omega))
          have hbx4 := hd_ga k2
          refine lv_i2l hx hb zd_W_compare_20 rfl ?_
          refine lv_ldc2 (v := (4294967295)) hx hb hown (hts _ (kz_c mw_180)) zd_W_compare_21 ?_
          refine lv_topl (fun yl5 h9 => ?_)
          obtain rfl : yl5 = kz_lz (4294967295) := h9.trans (kz_lz_c4294967295)
          refine lv_land hx hb zd_W_compare_24 ?_
          refine lv_topl (fun yl6 h9 => ?_)
          obtain rfl : yl6 = kz_lz (((ga k2 : Nat) : Int)) := h9.trans (kz_maskS (by omega))
          refine lv_aload_n hx hb zd_W_compare_25 rfl (lv_at hl 2 rfl) ?_
          refine lv_iload_n hx hb zd_W_compare_26 rfl (lv_at hl 0 rfl) ?_
          refine kz_riald hx hb hK hro hdy.2.2 1 0 rfl rfl (vp_in_nI (by omega) (by omega)) zd_W_compare_27 ?_
          refine lv_topi (fun x7 h9 => ?_)
          obtain rfl : x7 = nI (gb k2) := h9.trans (kz_dgl gb (by omega))
          have hbx7 := hd_gb k2
          refine lv_i2l hx hb zd_W_compare_28 rfl ?_
          refine lv_ldc2 (v := (4294967295)) hx hb hown (hts _ (kz_c mw_180)) zd_W_compare_29 ?_
          refine lv_topl (fun yl8 h9 => ?_)
          obtain rfl : yl8 = kz_lz (4294967295) := h9.trans (kz_lz_c4294967295)
          refine lv_land hx hb zd_W_compare_32 ?_
          refine lv_topl (fun yl9 h9 => ?_)
          obtain rfl : yl9 = kz_lz (((gb k2 : Nat) : Int)) := h9.trans (kz_maskS (by omega))
          refine kz_lge (tgt := 41) hx hb zd_W_compare_33 zd_W_compare_34 (by decide) (fun hc34 => ?_) (fun hc34 => ?_)
          · have hc34 : ¬ (((ga k2 : Nat) : Int)) < (((gb k2 : Nat) : Int)) := fun h9 => hc34 ((kz_lz_lt (by omega) (by omega) (by omega) (by omega)).mpr h9)
            refine lv_iconst (v := (nI (1))) hx hb zd_W_compare_41 (by decide) ?_
            exact kz_iret F () hdy (⟨by first | exact Or.inl ⟨rfl, kx_V_ext (fun j hj => he j (by omega))⟩ | exact Or.inr (Or.inl ⟨rfl, kx_cmpLt (k := k2) (by omega) hd_gb (fun j hj => (he j hj).symm) (by omega)⟩) | exact Or.inr (Or.inr ⟨rfl, kx_cmpLt (k := k2) (by omega) hd_ga (fun j hj => he j hj) (by omega)⟩), trivial⟩) zd_W_compare_42
          · have hc34 : (((ga k2 : Nat) : Int)) < (((gb k2 : Nat) : Int)) := (kz_lz_lt (by omega) (by omega) (by omega) (by omega)).mp hc34
            refine lv_iconst (v := (-1)) hx hb zd_W_compare_37 (by decide) ?_
            refine lv_goto (tgt := 42) hx hb zd_W_compare_38 (by decide) ?_
            exact kz_iret F () hdy (⟨by first | exact Or.inl ⟨rfl, kx_V_ext (fun j hj => he j (by omega))⟩ | exact Or.inr (Or.inl ⟨rfl, kx_cmpLt (k := k2) (by omega) hd_gb (fun j hj => (he j hj).symm) (by omega)⟩) | exact Or.inr (Or.inr ⟨rfl, kx_cmpLt (k := k2) (by omega) hd_ga (fun j hj => he j hj) (by omega)⟩), trivial⟩) zd_W_compare_42
  have hi9_he10 : ∀ j, j < 0 → ga j = gb j := by intro j hj; omega
  exact lp2 (8 - 0 + 1) 0 _ _ _ (by omega) (by omega) hi9_he10 hdy (lv_sub hl [0, 1, 2] rfl)

set_option maxHeartbeats 4000000 in
set_option maxRecDepth 100000 in
/-- KeyMeeting$Words.atLeast([II)Z -/
theorem c_E_atLeast (l : Launch) (dC : Nat → ClassId) (dI : Nat → Nat → Nat) (cI cAA cB cL : ClassId) (a : Nat) (ga : Nat → Nat) (sz : Nat) (hd_ga : ∀ j, ga j < 4294967296) : Met l zy_W_atLeast zw_W_atLeast { frames := 0, cells := 0, slots := 0, locals := 0 } (kz_Pc (dC, dI) vwCl [(cI, .int), (cAA, .array .int), (cB, .byte), (cL, .long)] [] [] [.ref a, .int (nI (3))] [] [(a, .inl (cI, 8, .inl (kz_dg ga)))] sz) (va_Qi (fun (r : Int32) (u : Unit) => (r = 0 ∨ r = 1) ∧ ((r = 1 ∧ 3 ≤ kx_V 8 ga) ∨ (r = 0 ∧ kx_V 8 ga < 3)) ∧ True) (kz_B (dC, dI) vwCl (va_A [] sz) (fun u : Unit => [])) (va_A [] sz)) 0 0 (va_A [] sz) := by
  refine kz_met (y := zy_W_atLeast) (ws := zw_W_atLeast) (av := [.ref a, .int (nI (3))]) (sz := sz) (Qc := fun A => va_Qi (fun (r : Int32) (u : Unit) => (r = 0 ∨ r = 1) ∧ ((r = 1 ∧ 3 ≤ kx_V 8 ga) ∨ (r = 0 ∧ kx_V 8 ga < 3)) ∧ True) (kz_B (dC, dI) vwCl A (fun u : Unit => [])) A) (cc := zc_W_atLeast) (maxL := 3) (ret := some .boolean) (by decide) rfl (Nat.le_of_ble_eq_true rfl) ?_
  intro p e s m below meth c A ls F hA hdy hK hro hZ hN hl
  obtain ⟨hx, hb, hml, hr, hown, hlocks, hts, hnm⟩ := id F
  have hl : lv_has ls 3 [(0, .ref a), (1, .int (nI (3)))] := hl
  refine lv_iconst (v := (nI (0))) hx hb zd_W_atLeast_0 (by decide) ?_
  refine lv_istore_n (lv' := [(2, .int (nI (0))), (0, .ref a), (1, .int (nI (3)))]) hx hb zd_W_atLeast_1 rfl hl (by decide) rfl (fun ls hl => ?_)
  have lp2 : ∀ (n2 k2 : Nat) (H : Heap) (locs : List Loc) (ls : Array Slot), k2 ≤ 7 → 7 - k2 < n2 → (∀ j, j < k2 → ga j = 0) → kz_dy (dC, dI) vwCl A s.heap H locs [] → lv_has ls 3 [(2, .int (nI (k2))), (0, .ref a), (1, .int (nI (3)))] → W p l e { frames := 0, cells := 0, slots := 0, locals := 0 } s m ([.ref a, .int (nI (3))] : List Value).toArray below meth c H locs 0 0 (MQ below (va_Qi (fun (r : Int32) (u : Unit) => (r = 0 ∨ r = 1) ∧ ((r = 1 ∧ 3 ≤ kx_V 8 ga) ∨ (r = 0 ∧ kx_V 8 ga < 3)) ∧ True) (kz_B (dC, dI) vwCl A (fun u : Unit => [])) A) ([.ref a, .int (nI (3))] : List Value).toArray s 0 0 A) (F0 m 2 ls []) := by
    intro n2
    induction n2 with
    | zero => intro k2; intros; omega
    | succ n2 ih2 =>
      intro k2 H locs ls hi2 hn2 hz hdy hl
      refine lv_iload_n hx hb zd_W_atLeast_2 rfl (lv_at hl 0 rfl) ?_
      refine lv_bipush (v := (nI (7))) hx hb zd_W_atLeast_3 (by decide) ?_
      refine lv_icmp_ge (tgt := 22) hx hb zd_W_atLeast_5 (by decide) (fun hc5 => ?_) (fun hc5 => ?_)
      · have hc5 : 7 ≤ k2 := (nI_leI (by omega) (by omega)).mp hc5
        refine lv_aload_n hx hb zd_W_atLeast_22 rfl (lv_at hl 1 rfl) ?_
        refine lv_bipush (v := (nI (7))) hx hb zd_W_atLeast_23 (by decide) ?_
        refine kz_riald hx hb hK hro hdy.2.2 0 0 rfl rfl (vp_in_nI (by omega) (by omega)) zd_W_atLeast_25 ?_
        refine lv_topi (fun x1 h9 => ?_)
        obtain rfl : x1 = nI (ga 7) := h9.trans (kz_dgl ga (by omega))
        have hbx1 := hd_ga 7
        refine lv_i2l hx hb zd_W_atLeast_26 rfl ?_
        refine lv_ldc2 (v := (4294967295)) hx hb hown (hts _ (kz_c mw_180)) zd_W_atLeast_27 ?_
        refine lv_topl (fun yl2 h9 => ?_)
        obtain rfl : yl2 = kz_lz (4294967295) := h9.trans (kz_lz_c4294967295)
        refine lv_land hx hb zd_W_atLeast_30 ?_
        refine lv_topl (fun yl3 h9 => ?_)
        obtain rfl : yl3 = kz_lz (((ga 7 : Nat) : Int)) := h9.trans (kz_maskS (by omega))
        refine lv_iload_n hx hb zd_W_atLeast_31 rfl (lv_at hl 2 rfl) ?_
        refine lv_i2l hx hb zd_W_atLeast_32 (kz_lz_i (n := 3) (by omega)) ?_
        refine kz_llt (tgt := 41) hx hb zd_W_atLeast_33 zd_W_atLeast_34 (by decide) (fun hc34 => ?_) (fun hc34 => ?_)
        · have hc34 : (((ga 7 : Nat) : Int)) < (((3 : Nat) : Int)) := (kz_lz_lt (by omega) (by omega) (by omega) (by omega)).mp hc34
          refine lv_iconst (v := (nI (0))) hx hb zd_W_atLeast_41 (by decide) ?_
          exact kz_zret F () hdy (by first | exact Or.inl rfl | exact Or.inr rfl | assumption) (⟨by first | exact Or.inl rfl | exact Or.inr rfl | assumption, by first | exact Or.inl ⟨rfl, kx_big (k := k2) (by omega) (by omega)⟩ | exact Or.inl ⟨rfl, by rw [kx_small (fun j hj => hz j (by omega))]; omega⟩ | exact Or.inr ⟨rfl, by rw [kx_small (fun j hj => hz j (by omega))]; omega⟩, trivial⟩) zd_W_atLeast_42
        · have hc34 : ¬ (((ga 7 : Nat) : Int)) < (((3 : Nat) : Int)) := fun h9 => hc34 ((kz_lz_lt (by omega) (by omega) (by omega) (by omega)).mpr h9)
          refine lv_iconst (v := (nI (1))) hx hb zd_W_atLeast_37 (by decide) ?_
          refine lv_goto (tgt := 42) hx hb zd_W_atLeast_38 (by decide) ?_
          exact kz_zret F () hdy (by first | exact Or.inl rfl | exact Or.inr rfl | assumption) (⟨by first | exact Or.inl rfl | exact Or.inr rfl | assumption, by first | exact Or.inl ⟨rfl, kx_big (k := k2) (by omega) (by omega)⟩ | exact Or.inl ⟨rfl, by rw [kx_small (fun j hj => hz j (by omega))]; omega⟩ | exact Or.inr ⟨rfl, by rw [kx_small (fun j hj => hz j (by omega))]; omega⟩, trivial⟩) zd_W_atLeast_42
      · have hc5 : ¬ 7 ≤ k2 := fun h9 => hc5 ((nI_leI (by omega) (by omega)).mpr h9)
        refine lv_aload_n hx hb zd_W_atLeast_8 rfl (lv_at hl 1 rfl) ?_
        refine lv_iload_n hx hb zd_W_atLeast_9 rfl (lv_at hl 0 rfl) ?_
        refine kz_riald hx hb hK hro hdy.2.2 0 0 rfl rfl (vp_in_nI (by omega) (by omega)) zd_W_atLeast_10 ?_
        refine lv_topi (fun x4 h9 => ?_)
        obtain rfl : x4 = nI (ga k2) := h9.trans (kz_dgl ga (by omega))
        have hbx4 := hd_ga k2
        refine lv_if_eq (tgt := 16) hx hb zd_W_atLeast_11 (by decide) (fun hc11 => ?_) (fun hc11 => ?_)
        · have hc11 : (ga k2) = 0 := (kx_nIeq (by omega) (by omega)).mp (by rw [nI_0]; exact hc11)
          refine lv_iinc (v := (nI (k2 + 1))) (lv' := [(2, .int (nI (k2 + 1))), (0, .ref a), (1, .int (nI (3)))]) hx hb zd_W_atLeast_16 hl (k := 0) rfl (nI_1 _) (by decide) rfl (fun ls hl => ?_)
          refine lv_goto (tgt := 2) hx hb zd_W_atLeast_19 (by decide) ?_
          have hi9_hz5 : ∀ j, j < k2 + 1 → ga j = 0 := by intro j hj; rcases (by omega : j = k2 ∨ j < k2) with h | h; rw [h]; omega; exact hz j h
          exact ih2 (k2 + 1) _ _ _ (by omega) (by omega) hi9_hz5 hdy (lv_sub hl [0, 1, 2] rfl)
        · have hc11 : ¬ (ga k2) = 0 := fun h9 => hc11 (by have h8 := (kx_nIeq (by omega) (by omega)).mpr h9; rw [nI_0] at h8; exact h8)
          refine lv_iconst (v := (nI (1))) hx hb zd_W_atLeast_14 (by decide) ?_
          exact kz_zret F () hdy (by first | exact Or.inl rfl | exact Or.inr rfl | assumption) (⟨by first | exact Or.inl rfl | exact Or.inr rfl | assumption, by first | exact Or.inl ⟨rfl, kx_big (k := k2) (by omega) (by omega)⟩ | exact Or.inl ⟨rfl, by rw [kx_small (fun j hj => hz j (by omega))]; omega⟩ | exact Or.inr ⟨rfl, by rw [kx_small (fun j hj => hz j (by omega))]; omega⟩, trivial⟩) zd_W_atLeast_15
  have hi9_hz6 : ∀ j, j < 0 → ga j = 0 := by intro j hj; omega
  exact lp2 (7 - 0 + 1) 0 _ _ _ (by omega) (by omega) hi9_hz6 hdy (lv_sub hl [0, 1, 2] rfl)

set_option maxHeartbeats 4000000 in
set_option maxRecDepth 100000 in
/-- KeyMeeting$Words.atLeast([II)Z -/
theorem c_E_atLeastN (l : Launch) (dC : Nat → ClassId) (dI : Nat → Nat → Nat) (cI cAA cB cL : ClassId) (a : Nat) (ga : Nat → Nat) (lea : Nat) (sz : Nat) (hd_ga : ∀ j, ga j < 4294967296) (hls : lea < 65536) : Met l zy_W_atLeast zw_W_atLeast { frames := 0, cells := 0, slots := 0, locals := 0 } (kz_Pc (dC, dI) vwCl [(cI, .int), (cAA, .array .int), (cB, .byte), (cL, .long)] [] [] [.ref a, .int (nI (lea))] [] [(a, .inl (cI, 8, .inl (kz_dg ga)))] sz) (va_Qi (fun (r : Int32) (u : Unit) => (r = 0 ∨ r = 1) ∧ ((r = 1 ∧ lea ≤ kx_V 8 ga) ∨ (r = 0 ∧ kx_V 8 ga < lea)) ∧ True) (kz_B (dC, dI) vwCl (va_A [] sz) (fun u : Unit => [])) (va_A [] sz)) 0 0 (va_A [] sz) := by
  refine kz_met (y := zy_W_atLeast) (ws := zw_W_atLeast) (av := [.ref a, .int (nI (lea))]) (sz := sz) (Qc := fun A => va_Qi (fun (r : Int32) (u : Unit) => (r = 0 ∨ r = 1) ∧ ((r = 1 ∧ lea ≤ kx_V 8 ga) ∨ (r = 0 ∧ kx_V 8 ga < lea)) ∧ True) (kz_B (dC, dI) vwCl A (fun u : Unit => [])) A) (cc := zc_W_atLeast) (maxL := 3) (ret := some .boolean) (by decide) rfl (Nat.le_of_ble_eq_true rfl) ?_
  intro p e s m below meth c A ls F hA hdy hK hro hZ hN hl
  obtain ⟨hx, hb, hml, hr, hown, hlocks, hts, hnm⟩ := id F
  have hl : lv_has ls 3 [(0, .ref a), (1, .int (nI (lea)))] := hl
  refine lv_iconst (v := (nI (0))) hx hb zd_W_atLeast_0 (by decide) ?_
  refine lv_istore_n (lv' := [(2, .int (nI (0))), (0, .ref a), (1, .int (nI (lea)))]) hx hb zd_W_atLeast_1 rfl hl (by decide) rfl (fun ls hl => ?_)
  have lp2 : ∀ (n2 k2 : Nat) (H : Heap) (locs : List Loc) (ls : Array Slot), k2 ≤ 7 → 7 - k2 < n2 → (∀ j, j < k2 → ga j = 0) → kz_dy (dC, dI) vwCl A s.heap H locs [] → lv_has ls 3 [(2, .int (nI (k2))), (0, .ref a), (1, .int (nI (lea)))] → W p l e { frames := 0, cells := 0, slots := 0, locals := 0 } s m ([.ref a, .int (nI (lea))] : List Value).toArray below meth c H locs 0 0 (MQ below (va_Qi (fun (r : Int32) (u : Unit) => (r = 0 ∨ r = 1) ∧ ((r = 1 ∧ lea ≤ kx_V 8 ga) ∨ (r = 0 ∧ kx_V 8 ga < lea)) ∧ True) (kz_B (dC, dI) vwCl A (fun u : Unit => [])) A) ([.ref a, .int (nI (lea))] : List Value).toArray s 0 0 A) (F0 m 2 ls []) := by
    intro n2
    induction n2 with
    | zero => intro k2; intros; omega
    | succ n2 ih2 =>
      intro k2 H locs ls hi2 hn2 hz hdy hl
      refine lv_iload_n hx hb zd_W_atLeast_2 rfl (lv_at hl 0 rfl) ?_
      refine lv_bipush (v := (nI (7))) hx hb zd_W_atLeast_3 (by decide) ?_
      refine lv_icmp_ge (tgt := 22) hx hb zd_W_atLeast_5 (by decide) (fun hc5 => ?_) (fun hc5 => ?_)
      · have hc5 : 7 ≤ k2 := (nI_leI (by omega) (by omega)).mp hc5
        refine lv_aload_n hx hb zd_W_atLeast_22 rfl (lv_at hl 1 rfl) ?_
        refine lv_bipush (v := (nI (7))) hx hb zd_W_atLeast_23 (by decide) ?_
        refine kz_riald hx hb hK hro hdy.2.2 0 0 rfl rfl (vp_in_nI (by omega) (by omega)) zd_W_atLeast_25 ?_
        refine lv_topi (fun x1 h9 => ?_)
        obtain rfl : x1 = nI (ga 7) := h9.trans (kz_dgl ga (by omega))
        have hbx1 := hd_ga 7
        refine lv_i2l hx hb zd_W_atLeast_26 rfl ?_
        refine lv_ldc2 (v := (4294967295)) hx hb hown (hts _ (kz_c mw_180)) zd_W_atLeast_27 ?_
        refine lv_topl (fun yl2 h9 => ?_)
        obtain rfl : yl2 = kz_lz (4294967295) := h9.trans (kz_lz_c4294967295)
        refine lv_land hx hb zd_W_atLeast_30 ?_
        refine lv_topl (fun yl3 h9 => ?_)
        obtain rfl : yl3 = kz_lz (((ga 7 : Nat) : Int)) := h9.trans (kz_maskS (by omega))
        refine lv_iload_n hx hb zd_W_atLeast_31 rfl (lv_at hl 2 rfl) ?_
        refine lv_i2l hx hb zd_W_atLeast_32 (kz_lz_i (n := lea) (by omega)) ?_
        refine kz_llt (tgt := 41) hx hb zd_W_atLeast_33 zd_W_atLeast_34 (by decide) (fun hc34 => ?_) (fun hc34 => ?_)
        · have hc34 : (((ga 7 : Nat) : Int)) < (((lea : Nat) : Int)) := (kz_lz_lt (by omega) (by omega) (by omega) (by omega)).mp hc34
          refine lv_iconst (v := (nI (0))) hx hb zd_W_atLeast_41 (by decide) ?_
          exact kz_zret F () hdy (by first | exact Or.inl rfl | exact Or.inr rfl | assumption) (⟨by first | exact Or.inl rfl | exact Or.inr rfl | assumption, by first | (have h8 := kx_bigN (d := ga) (k := k2) (by omega) (by omega); exact Or.inl ⟨rfl, by omega⟩) | exact Or.inl ⟨rfl, by rw [kx_small (fun j hj => hz j (by omega))]; omega⟩ | exact Or.inr ⟨rfl, by rw [kx_small (fun j hj => hz j (by omega))]; omega⟩, trivial⟩) zd_W_atLeast_42
        · have hc34 : ¬ (((ga 7 : Nat) : Int)) < (((lea : Nat) : Int)) := fun h9 => hc34 ((kz_lz_lt (by omega) (by omega) (by omega) (by omega)).mpr h9)
          refine lv_iconst (v := (nI (1))) hx hb zd_W_atLeast_37 (by decide) ?_
          refine lv_goto (tgt := 42) hx hb zd_W_atLeast_38 (by decide) ?_
          exact kz_zret F () hdy (by first | exact Or.inl rfl | exact Or.inr rfl | assumption) (⟨by first | exact Or.inl rfl | exact Or.inr rfl | assumption, by first | (have h8 := kx_bigN (d := ga) (k := k2) (by omega) (by omega); exact Or.inl ⟨rfl, by omega⟩) | exact Or.inl ⟨rfl, by rw [kx_small (fun j hj => hz j (by omega))]; omega⟩ | exact Or.inr ⟨rfl, by rw [kx_small (fun j hj => hz j (by omega))]; omega⟩, trivial⟩) zd_W_atLeast_42
      · have hc5 : ¬ 7 ≤ k2 := fun h9 => hc5 ((nI_leI (by omega) (by omega)).mpr h9)
        refine lv_aload_n hx hb zd_W_atLeast_8 rfl (lv_at hl 1 rfl) ?_
        refine lv_iload_n hx hb zd_W_atLeast_9 rfl (lv_at hl 0 rfl) ?_
        refine kz_riald hx hb hK hro hdy.2.2 0 0 rfl rfl (vp_in_nI (by omega) (by omega)) zd_W_atLeast_10 ?_
        refine lv_topi (fun x4 h9 => ?_)
        obtain rfl : x4 = nI (ga k2) := h9.trans (kz_dgl ga (by omega))
        have hbx4 := hd_ga k2
        refine lv_if_eq (tgt := 16) hx hb zd_W_atLeast_11 (by decide) (fun hc11 => ?_) (fun hc11 => ?_)
        · have hc11 : (ga k2) = 0 := (kx_nIeq (by omega) (by omega)).mp (by rw [nI_0]; exact hc11)
          refine lv_iinc (v := (nI (k2 + 1))) (lv' := [(2, .int (nI (k2 + 1))), (0, .ref a), (1, .int (nI (lea)))]) hx hb zd_W_atLeast_16 hl (k := 0) rfl (nI_1 _) (by decide) rfl (fun ls hl => ?_)
          refine lv_goto (tgt := 2) hx hb zd_W_atLeast_19 (by decide) ?_
          have hi9_hz5 : ∀ j, j < k2 + 1 → ga j = 0 := by intro j hj; rcases (by omega : j = k2 ∨ j < k2) with h | h; rw [h]; omega; exact hz j h
          exact ih2 (k2 + 1) _ _ _ (by omega) (by omega) hi9_hz5 hdy (lv_sub hl [0, 1, 2] rfl)
        · have hc11 : ¬ (ga k2) = 0 := fun h9 => hc11 (by have h8 := (kx_nIeq (by omega) (by omega)).mpr h9; rw [nI_0] at h8; exact h8)
          refine lv_iconst (v := (nI (1))) hx hb zd_W_atLeast_14 (by decide) ?_
          exact kz_zret F () hdy (by first | exact Or.inl rfl | exact Or.inr rfl | assumption) (⟨by first | exact Or.inl rfl | exact Or.inr rfl | assumption, by first | (have h8 := kx_bigN (d := ga) (k := k2) (by omega) (by omega); exact Or.inl ⟨rfl, by omega⟩) | exact Or.inl ⟨rfl, by rw [kx_small (fun j hj => hz j (by omega))]; omega⟩ | exact Or.inr ⟨rfl, by rw [kx_small (fun j hj => hz j (by omega))]; omega⟩, trivial⟩) zd_W_atLeast_15
  have hi9_hz6 : ∀ j, j < 0 → ga j = 0 := by intro j hj; omega
  exact lp2 (7 - 0 + 1) 0 _ _ _ (by omega) (by omega) hi9_hz6 hdy (lv_sub hl [0, 1, 2] rfl)

set_option maxHeartbeats 4000000 in
set_option maxRecDepth 100000 in
/-- KeyMeeting$Words.subtract([II[I)V -/
theorem c_E_subtract1 (l : Launch) (dC : Nat → ClassId) (dI : Nat → Nat → Nat) (cI cAA cB cL : ClassId) (o : Nat) (go : Nat → Nat) (sz : Nat) (hd_go : ∀ j, go j < 4294967296) (h1 : 1 ≤ kx_V 8 go) : Met l zy_W_subtract zw_W_subtract { frames := 0, cells := 0, slots := 0, locals := 0 } (kz_Pc (dC, dI) vwCl [(cI, .int), (cAA, .array .int), (cB, .byte), (cL, .long)] [] [] [.ref o, .int (nI (1)), .ref o] [(o, .inl (cI, 8, .inl (kz_dg go)))] [] sz) (va_Qv (fun (u : (Nat → Nat)) => (∀ j, u j < 4294967296) ∧ (kx_V 8 u + 1 = kx_V 8 go) ∧ True) (kz_B (dC, dI) vwCl (va_A [(o, .inl (cI, 8, .inl (kz_dg go)))] sz) (fun u : (Nat → Nat) => [(o, .inl (cI, 8, .inl (kz_dg u)))])) (va_A [(o, .inl (cI, 8, .inl (kz_dg go)))] sz)) 0 0 (va_A [(o, .inl (cI, 8, .inl (kz_dg go)))] sz) := by
  refine kz_met (y := zy_W_subtract) (ws := zw_W_subtract) (av := [.ref o, .int (nI (1)), .ref o]) (sz := sz) (Qc := fun A => va_Qv (fun (u : (Nat → Nat)) => (∀ j, u j < 4294967296) ∧ (kx_V 8 u + 1 = kx_V 8 go) ∧ True) (kz_B (dC, dI) vwCl A (fun u : (Nat → Nat) => [(o, .inl (cI, 8, .inl (kz_dg u)))])) A) (cc := zc_W_subtract) (maxL := 8) (ret := none) (by decide) rfl (Nat.le_of_ble_eq_true rfl) ?_
  intro p e s m below meth c A ls F hA hdy hK hro hZ hN hl
  obtain ⟨hx, hb, hml, hr, hown, hlocks, hts, hnm⟩ := id F
  have hl : lv_has ls 8 [(0, .ref o), (1, .int (nI (1))), (2, .ref o)] := hl
  refine lv_iload_n hx hb zd_W_subtract_0 rfl (lv_at hl 1 rfl) ?_
  refine lv_i2l hx hb zd_W_subtract_1 (kz_lz_i (n := 1) (by omega)) ?_
  refine lv_lstore_n (lv' := [(3, .long (kz_lz (((1 : Nat) : Int)))), (0, .ref o), (1, .int (nI (1))), (2, .ref o)]) hx hb zd_W_subtract_2 rfl hl (by decide) rfl (fun ls hl => ?_)
  refine lv_bipush (v := (nI (7))) hx hb zd_W_subtract_3 (by decide) ?_
  refine lv_istore (lv' := [(5, .int (nI (7))), (3, .long (kz_lz (((1 : Nat) : Int)))), (0, .ref o), (1, .int (nI (1))), (2, .ref o)]) hx hb zd_W_subtract_5 hl (by decide) rfl (fun ls hl => ?_)
  have lp7 : ∀ (k7 : Nat) (z1 : Int) (d2 : Nat → Nat) (H : Heap) (locs : List Loc) (ls : Array Slot), k7 ≤ 8 → (∀ j, d2 j < 4294967296) → (0 ≤ z1) → (z1 ≤ 1) → (kx_val (kx_rv 8 d2) (8 - (k7)) + 1 = kx_val (kx_rv 8 go) (8 - (k7)) + (z1).toNat * 4294967296 ^ (8 - (k7))) → (∀ j, j < k7 → d2 j = go j) → kz_dy (dC, dI) vwCl A s.heap H locs [(o, .inl (cI, 8, .inl (kz_dg d2)))] → lv_has ls 8 [(5, .int (nI k7 - 1)), (3, .long (kz_lz (z1))), (0, .ref o), (1, .int (nI (1))), (2, .ref o)] → W p l e { frames := 0, cells := 0, slots := 0, locals := 0 } s m ([.ref o, .int (nI (1)), .ref o] : List Value).toArray below meth c H locs 0 0 (MQ below (va_Qv (fun (u : (Nat → Nat)) => (∀ j, u j < 4294967296) ∧ (kx_V 8 u + 1 = kx_V 8 go) ∧ True) (kz_B (dC, dI) vwCl A (fun u : (Nat → Nat) => [(o, .inl (cI, 8, .inl (kz_dg u)))])) A) ([.ref o, .int (nI (1)), .ref o] : List Value).toArray s 0 0 A) (F0 m 7 ls []) := by
    intro k7
    induction k7 with
    | zero =>
      intro z1 d2 H locs ls hi7 hd_d2 hb0 hb1 hI hlo hdy hl
      refine lv_iload hx hb zd_W_subtract_7 (lv_at hl 0 rfl) ?_
      refine lv_if_lt (tgt := 51) hx hb zd_W_subtract_9 (by decide) (fun hc9 => ?_) (fun hc9 => ?_)
      · exact kz_vret F (d2) hdy (⟨hd_d2, by exact kx_subEnd hd_d2 h1 hb1 hI, trivial⟩) zd_W_subtract_51
      · exact absurd (by decide) hc9
    | succ k7 ih7 =>
      intro z1 d2 H locs ls hi7 hd_d2 hb0 hb1 hI hlo hdy hl
      rw [nI_pred] at hl
      refine lv_iload hx hb zd_W_subtract_7 (lv_at hl 0 rfl) ?_
      refine lv_if_lt (tgt := 51) hx hb zd_W_subtract_9 (by decide) (fun hc9 => ?_) (fun hc9 => ?_)
      · exact absurd hc9 (nI_pos (by omega))
      · refine lv_aload_n hx hb zd_W_subtract_12 rfl (lv_at hl 2 rfl) ?_
        refine lv_iload hx hb zd_W_subtract_13 (lv_at hl 0 rfl) ?_
        refine va_iald hx hb hK hdy.1 0 0 rfl rfl (vp_in_nI (by omega) (by omega)) zd_W_subtract_15 ?_
        refine lv_topi (fun x3 h9 => ?_)
        obtain rfl : x3 = nI (d2 k7) := h9.trans (kz_dgl d2 (by omega))
        have hbx3 := hd_d2 k7
        refine lv_i2l hx hb zd_W_subtract_16 rfl ?_
        refine lv_ldc2 (v := (4294967295)) hx hb hown (hts _ (kz_c mw_180)) zd_W_subtract_17 ?_
        refine lv_topl (fun yl4 h9 => ?_)
        obtain rfl : yl4 = kz_lz (4294967295) := h9.trans (kz_lz_c4294967295)
        refine lv_land hx hb zd_W_subtract_20 ?_
        refine lv_topl (fun yl5 h9 => ?_)
        obtain rfl : yl5 = kz_lz (((d2 k7 : Nat) : Int)) := h9.trans (kz_maskS (by omega))
        refine lv_lload_n hx hb zd_W_subtract_21 rfl (lv_at hl 1 rfl) ?_
        refine lv_lsub hx hb zd_W_subtract_22 ?_
        refine lv_topl (fun yl6 h9 => ?_)
        obtain rfl : yl6 = kz_lz ((((d2 k7 : Nat) : Int)) - z1) := h9.trans (kz_lz_sub _ _)
        refine lv_topl (fun yl8 h9 => ?_)
        obtain ⟨z7, ez7, rfl⟩ : ∃ z : Int, z = (((d2 k7 : Nat) : Int)) - z1 ∧ yl8 = kz_lz z := ⟨_, rfl, h9⟩
        refine lv_lstore (lv' := [(6, .long (kz_lz (z7))), (5, .int (nI (k7))), (3, .long (kz_lz (z1))), (0, .ref o), (1, .int (nI (1))), (2, .ref o)]) hx hb zd_W_subtract_23 hl (by decide) rfl (fun ls hl => ?_)
        refine lv_aload_n hx hb zd_W_subtract_25 rfl (lv_at hl 5 rfl) ?_
        refine lv_iload hx hb zd_W_subtract_26 (lv_at hl 1 rfl) ?_
        refine lv_lload hx hb zd_W_subtract_28 (lv_at hl 0 rfl) ?_
        refine lv_l2i hx hb zd_W_subtract_30 (kz_lz_i32 z7) ?_
        refine va_iast hx hb hK hdy.1 hdy.2.1 hdy.2.2 0 0 rfl rfl (vp_in_nI (by omega) (by omega)) zd_W_subtract_31 (fun H locs hP hD hS => ?_)
        have h9 := kz_dgu d2 (k := k7) ((z7 % 4294967296).toNat) (by omega)
        rw [h9] at hP hD
        obtain ⟨f9, ef9, hd_f9, hdy⟩ : ∃ f9 : Nat → Nat, f9 = kv_up d2 k7 ((z7 % 4294967296).toNat) ∧ (∀ j, f9 j < 4294967296) ∧ kz_dy (dC, dI) vwCl A s.heap H locs [(o, .inl (cI, 8, .inl (kz_dg f9)))] := ⟨_, rfl, kx_up_lt hd_d2 (by omega), hP, hD, hS⟩
        refine lv_lload hx hb zd_W_subtract_32 (lv_at hl 0 rfl) ?_
        refine lv_lconst (v := 0) hx hb zd_W_subtract_34 (by decide) ?_
        refine lv_topl (fun yl10 h9 => ?_)
        obtain rfl : yl10 = kz_lz (0) := h9.trans (kz_lz_c0)
        refine kz_lge (tgt := 43) hx hb zd_W_subtract_35 zd_W_subtract_36 (by decide) (fun hc36 => ?_) (fun hc36 => ?_)
        · have hc36 : ¬ z7 < 0 := fun h9 => hc36 ((kz_lz_lt (by omega) (by omega) (by omega) (by omega)).mpr h9)
          refine lv_lconst (v := 0) hx hb zd_W_subtract_43 (by decide) ?_
          refine lv_topl (fun yl11 h9 => ?_)
          obtain rfl : yl11 = kz_lz (0) := h9.trans (kz_lz_c0)
          refine lv_topl (fun yl13 h9 => ?_)
          obtain ⟨z12, ez12, rfl⟩ : ∃ z : Int, z = 0 ∧ yl13 = kz_lz z := ⟨_, rfl, h9⟩
          refine lv_lstore_n (lv' := [(3, .long (kz_lz (z12))), (6, .long (kz_lz (z7))), (5, .int (nI (k7))), (0, .ref o), (1, .int (nI (1))), (2, .ref o)]) hx hb zd_W_subtract_44 rfl hl (by decide) rfl (fun ls hl => ?_)
          refine lv_iinc (v := (nI (k7) - 1)) (lv' := [(5, .int (nI (k7) - 1)), (3, .long (kz_lz (z12))), (6, .long (kz_lz (z7))), (0, .ref o), (1, .int (nI (1))), (2, .ref o)]) hx hb zd_W_subtract_45 hl (k := 2) rfl (kz_m1 _) (by decide) rfl (fun ls hl => ?_)
          refine lv_goto (tgt := 7) hx hb zd_W_subtract_48 (by decide) ?_
          have hi9_hb014 : 0 ≤ z12 := by omega
          have hi9_hb115 : z12 ≤ 1 := by omega
          have hi9_hI16 : kx_val (kx_rv 8 f9) (8 - (k7)) + 1 = kx_val (kx_rv 8 go) (8 - (k7)) + (z12).toNat * 4294967296 ^ (8 - (k7)) := by rw [ef9]; exact kx_sub1 (c := (z1).toNat) (by omega) (by have h8 := hlo k7 (by omega); have h7 := hd_go k7; omega) hI
          have hi9_hlo17 : ∀ j, j < k7 → f9 j = go j := by intro j hj; rw [ef9, kv_up_ne _ _ (by omega)]; exact hlo j (by omega)
          exact ih7 (z12) f9 _ _ _ (by omega) hd_f9 hi9_hb014 hi9_hb115 hi9_hI16 hi9_hlo17 hdy (lv_sub hl [0, 1, 3, 4, 5] rfl)
        · have hc36 : z7 < 0 := (kz_lz_lt (by omega) (by omega) (by omega) (by omega)).mp hc36
          refine lv_lconst (v := 1) hx hb zd_W_subtract_39 (by decide) ?_
          refine lv_topl (fun yl18 h9 => ?_)
          obtain rfl : yl18 = kz_lz (1) := h9.trans (kz_lz_c1)
          refine lv_goto (tgt := 44) hx hb zd_W_subtract_40 (by decide) ?_
          refine lv_topl (fun yl20 h9 => ?_)
          obtain ⟨z19, ez19, rfl⟩ : ∃ z : Int, z = 1 ∧ yl20 = kz_lz z := ⟨_, rfl, h9⟩
          refine lv_lstore_n (lv' := [(3, .long (kz_lz (z19))), (6, .long (kz_lz (z7))), (5, .int (nI (k7))), (0, .ref o), (1, .int (nI (1))), (2, .ref o)]) hx hb zd_W_subtract_44 rfl hl (by decide) rfl (fun ls hl => ?_)
          refine lv_iinc (v := (nI (k7) - 1)) (lv' := [(5, .int (nI (k7) - 1)), (3, .long (kz_lz (z19))), (6, .long (kz_lz (z7))), (0, .ref o), (1, .int (nI (1))), (2, .ref o)]) hx hb zd_W_subtract_45 hl (k := 2) rfl (kz_m1 _) (by decide) rfl (fun ls hl => ?_)
          refine lv_goto (tgt := 7) hx hb zd_W_subtract_48 (by decide) ?_
          have hi9_hb021 : 0 ≤ z19 := by omega
          have hi9_hb122 : z19 ≤ 1 := by omega
          have hi9_hI23 : kx_val (kx_rv 8 f9) (8 - (k7)) + 1 = kx_val (kx_rv 8 go) (8 - (k7)) + (z19).toNat * 4294967296 ^ (8 - (k7)) := by rw [ef9]; exact kx_sub1 (c := (z1).toNat) (by omega) (by have h8 := hlo k7 (by omega); have h7 := hd_go k7; omega) hI
          have hi9_hlo24 : ∀ j, j < k7 → f9 j = go j := by intro j hj; rw [ef9, kv_up_ne _ _ (by omega)]; exact hlo j (by omega)
          exact ih7 (z19) f9 _ _ _ (by omega) hd_f9 hi9_hb021 hi9_hb122 hi9_hI23 hi9_hlo24 hdy (lv_sub hl [0, 1, 3, 4, 5] rfl)
  have hi9_hb025 : 0 ≤ ((1 : Nat) : Int) := by omega
  have hi9_hb126 : ((1 : Nat) : Int) ≤ 1 := by omega
  have hi9_hI27 : kx_val (kx_rv 8 go) (8 - (8)) + 1 = kx_val (kx_rv 8 go) (8 - (8)) + (((1 : Nat) : Int)).toNat * 4294967296 ^ (8 - (8)) := by show 0 + 1 = 0 + 1 * 4294967296 ^ 0; omega
  have hi9_hlo28 : ∀ j, j < 8 → go j = go j := by exact fun _ _ => rfl
  exact lp7 8 (((1 : Nat) : Int)) go _ _ _ (by omega) hd_go hi9_hb025 hi9_hb126 hi9_hI27 hi9_hlo28 hdy (lv_sub hl [0, 1, 2, 3, 4] rfl)

set_option maxHeartbeats 4000000 in
set_option maxRecDepth 100000 in
/-- KeyMeeting$Words.subtract([II[I)V -/
theorem c_E_subtract2 (l : Launch) (dC : Nat → ClassId) (dI : Nat → Nat → Nat) (cI cAA cB cL : ClassId) (o a : Nat) (go : Nat → Nat) (ga : Nat → Nat) (sz : Nat) (hd_go : ∀ j, go j < 4294967296) (hd_ga : ∀ j, ga j < 4294967296) (h1 : 2 ≤ kx_V 8 ga) : Met l zy_W_subtract zw_W_subtract { frames := 0, cells := 0, slots := 0, locals := 0 } (kz_Pc (dC, dI) vwCl [(cI, .int), (cAA, .array .int), (cB, .byte), (cL, .long)] [] [] [.ref a, .int (nI (2)), .ref o] [(o, .inl (cI, 8, .inl (kz_dg go)))] [(a, .inl (cI, 8, .inl (kz_dg ga)))] sz) (va_Qv (fun (u : (Nat → Nat)) => (∀ j, u j < 4294967296) ∧ (kx_V 8 u + 2 = kx_V 8 ga) ∧ True) (kz_B (dC, dI) vwCl (va_A [(o, .inl (cI, 8, .inl (kz_dg go)))] sz) (fun u : (Nat → Nat) => [(o, .inl (cI, 8, .inl (kz_dg u)))])) (va_A [(o, .inl (cI, 8, .inl (kz_dg go)))] sz)) 0 0 (va_A [(o, .inl (cI, 8, .inl (kz_dg go)))] sz) := by
  refine kz_met (y := zy_W_subtract) (ws := zw_W_subtract) (av := [.ref a, .int (nI (2)), .ref o]) (sz := sz) (Qc := fun A => va_Qv (fun (u : (Nat → Nat)) => (∀ j, u j < 4294967296) ∧ (kx_V 8 u + 2 = kx_V 8 ga) ∧ True) (kz_B (dC, dI) vwCl A (fun u : (Nat → Nat) => [(o, .inl (cI, 8, .inl (kz_dg u)))])) A) (cc := zc_W_subtract) (maxL := 8) (ret := none) (by decide) rfl (Nat.le_of_ble_eq_true rfl) ?_
  intro p e s m below meth c A ls F hA hdy hK hro hZ hN hl
  obtain ⟨hx, hb, hml, hr, hown, hlocks, hts, hnm⟩ := id F
  have hl : lv_has ls 8 [(0, .ref a), (1, .int (nI (2))), (2, .ref o)] := hl
  refine lv_iload_n hx hb zd_W_subtract_0 rfl (lv_at hl 1 rfl) ?_
  refine lv_i2l hx hb zd_W_subtract_1 (kz_lz_i (n := 2) (by omega)) ?_
  refine lv_lstore_n (lv' := [(3, .long (kz_lz (((2 : Nat) : Int)))), (0, .ref a), (1, .int (nI (2))), (2, .ref o)]) hx hb zd_W_subtract_2 rfl hl (by decide) rfl (fun ls hl => ?_)
  refine lv_bipush (v := (nI (7))) hx hb zd_W_subtract_3 (by decide) ?_
  refine lv_istore (lv' := [(5, .int (nI (7))), (3, .long (kz_lz (((2 : Nat) : Int)))), (0, .ref a), (1, .int (nI (2))), (2, .ref o)]) hx hb zd_W_subtract_5 hl (by decide) rfl (fun ls hl => ?_)
  have lp7 : ∀ (k7 : Nat) (z1 : Int) (d2 : Nat → Nat) (H : Heap) (locs : List Loc) (ls : Array Slot), k7 ≤ 8 → (∀ j, d2 j < 4294967296) → (0 ≤ z1) → (z1 ≤ 2) → (kx_val (kx_rv 8 d2) (8 - (k7)) + 2 = kx_val (kx_rv 8 ga) (8 - (k7)) + (z1).toNat * 4294967296 ^ (8 - (k7))) → kz_dy (dC, dI) vwCl A s.heap H locs [(o, .inl (cI, 8, .inl (kz_dg d2)))] → lv_has ls 8 [(5, .int (nI k7 - 1)), (3, .long (kz_lz (z1))), (0, .ref a), (1, .int (nI (2))), (2, .ref o)] → W p l e { frames := 0, cells := 0, slots := 0, locals := 0 } s m ([.ref a, .int (nI (2)), .ref o] : List Value).toArray below meth c H locs 0 0 (MQ below (va_Qv (fun (u : (Nat → Nat)) => (∀ j, u j < 4294967296) ∧ (kx_V 8 u + 2 = kx_V 8 ga) ∧ True) (kz_B (dC, dI) vwCl A (fun u : (Nat → Nat) => [(o, .inl (cI, 8, .inl (kz_dg u)))])) A) ([.ref a, .int (nI (2)), .ref o] : List Value).toArray s 0 0 A) (F0 m 7 ls []) := by
    intro k7
    induction k7 with
    | zero =>
      intro z1 d2 H locs ls hi7 hd_d2 hb0 hb1 hI hdy hl
      refine lv_iload hx hb zd_W_subtract_7 (lv_at hl 0 rfl) ?_
      refine lv_if_lt (tgt := 51) hx hb zd_W_subtract_9 (by decide) (fun hc9 => ?_) (fun hc9 => ?_)
      · exact kz_vret F (d2) hdy (⟨hd_d2, by exact kx_subEndN hd_d2 h1 hI, trivial⟩) zd_W_subtract_51
      · exact absurd (by decide) hc9
    | succ k7 ih7 =>
      intro z1 d2 H locs ls hi7 hd_d2 hb0 hb1 hI hdy hl
      rw [nI_pred] at hl
      refine lv_iload hx hb zd_W_subtract_7 (lv_at hl 0 rfl) ?_
      refine lv_if_lt (tgt := 51) hx hb zd_W_subtract_9 (by decide) (fun hc9 => ?_) (fun hc9 => ?_)
      · exact absurd hc9 (nI_pos (by omega))
      · refine lv_aload_n hx hb zd_W_subtract_12 rfl (lv_at hl 2 rfl) ?_
        refine lv_iload hx hb zd_W_subtract_13 (lv_at hl 0 rfl) ?_
        refine kz_riald hx hb hK hro hdy.2.2 0 0 rfl rfl (vp_in_nI (by omega) (by omega)) zd_W_subtract_15 ?_
        refine lv_topi (fun x3 h9 => ?_)
        obtain rfl : x3 = nI (ga k7) := h9.trans (kz_dgl ga (by omega))
        have hbx3 := hd_ga k7
        refine lv_i2l hx hb zd_W_subtract_16 rfl ?_
        refine lv_ldc2 (v := (4294967295)) hx hb hown (hts _ (kz_c mw_180)) zd_W_subtract_17 ?_
        refine lv_topl (fun yl4 h9 => ?_)
        obtain rfl : yl4 = kz_lz (4294967295) := h9.trans (kz_lz_c4294967295)
        refine lv_land hx hb zd_W_subtract_20 ?_
        refine lv_topl (fun yl5 h9 => ?_)
        obtain rfl : yl5 = kz_lz (((ga k7 : Nat) : Int)) := h9.trans (kz_maskS (by omega))
        refine lv_lload_n hx hb zd_W_subtract_21 rfl (lv_at hl 1 rfl) ?_
        refine lv_lsub hx hb zd_W_subtract_22 ?_
        refine lv_topl (fun yl6 h9 => ?_)
        obtain rfl : yl6 = kz_lz ((((ga k7 : Nat) : Int)) - z1) := h9.trans (kz_lz_sub _ _)
        refine lv_topl (fun yl8 h9 => ?_)
        obtain ⟨z7, ez7, rfl⟩ : ∃ z : Int, z = (((ga k7 : Nat) : Int)) - z1 ∧ yl8 = kz_lz z := ⟨_, rfl, h9⟩
        refine lv_lstore (lv' := [(6, .long (kz_lz (z7))), (5, .int (nI (k7))), (3, .long (kz_lz (z1))), (0, .ref a), (1, .int (nI (2))), (2, .ref o)]) hx hb zd_W_subtract_23 hl (by decide) rfl (fun ls hl => ?_)
        refine lv_aload_n hx hb zd_W_subtract_25 rfl (lv_at hl 5 rfl) ?_
        refine lv_iload hx hb zd_W_subtract_26 (lv_at hl 1 rfl) ?_
        refine lv_lload hx hb zd_W_subtract_28 (lv_at hl 0 rfl) ?_
        refine lv_l2i hx hb zd_W_subtract_30 (kz_lz_i32 z7) ?_
        refine va_iast hx hb hK hdy.1 hdy.2.1 hdy.2.2 0 0 rfl rfl (vp_in_nI (by omega) (by omega)) zd_W_subtract_31 (fun H locs hP hD hS => ?_)
        have h9 := kz_dgu d2 (k := k7) ((z7 % 4294967296).toNat) (by omega)
        rw [h9] at hP hD
        obtain ⟨f9, ef9, hd_f9, hdy⟩ : ∃ f9 : Nat → Nat, f9 = kv_up d2 k7 ((z7 % 4294967296).toNat) ∧ (∀ j, f9 j < 4294967296) ∧ kz_dy (dC, dI) vwCl A s.heap H locs [(o, .inl (cI, 8, .inl (kz_dg f9)))] := ⟨_, rfl, kx_up_lt hd_d2 (by omega), hP, hD, hS⟩
        refine lv_lload hx hb zd_W_subtract_32 (lv_at hl 0 rfl) ?_
        refine lv_lconst (v := 0) hx hb zd_W_subtract_34 (by decide) ?_
        refine lv_topl (fun yl10 h9 => ?_)
        obtain rfl : yl10 = kz_lz (0) := h9.trans (kz_lz_c0)
        refine kz_lge (tgt := 43) hx hb zd_W_subtract_35 zd_W_subtract_36 (by decide) (fun hc36 => ?_) (fun hc36 => ?_)
        · have hc36 : ¬ z7 < 0 := fun h9 => hc36 ((kz_lz_lt (by omega) (by omega) (by omega) (by omega)).mpr h9)
          refine lv_lconst (v := 0) hx hb zd_W_subtract_43 (by decide) ?_
          refine lv_topl (fun yl11 h9 => ?_)
          obtain rfl : yl11 = kz_lz (0) := h9.trans (kz_lz_c0)
          refine lv_topl (fun yl13 h9 => ?_)
          obtain ⟨z12, ez12, rfl⟩ : ∃ z : Int, z = 0 ∧ yl13 = kz_lz z := ⟨_, rfl, h9⟩
          refine lv_lstore_n (lv' := [(3, .long (kz_lz (z12))), (6, .long (kz_lz (z7))), (5, .int (nI (k7))), (0, .ref a), (1, .int (nI (2))), (2, .ref o)]) hx hb zd_W_subtract_44 rfl hl (by decide) rfl (fun ls hl => ?_)
          refine lv_iinc (v := (nI (k7) - 1)) (lv' := [(5, .int (nI (k7) - 1)), (3, .long (kz_lz (z12))), (6, .long (kz_lz (z7))), (0, .ref a), (1, .int (nI (2))), (2, .ref o)]) hx hb zd_W_subtract_45 hl (k := 2) rfl (kz_m1 _) (by decide) rfl (fun ls hl => ?_)
          refine lv_goto (tgt := 7) hx hb zd_W_subtract_48 (by decide) ?_
          have hi9_hb014 : 0 ≤ z12 := by omega
          have hi9_hb115 : z12 ≤ 2 := by omega
          have hi9_hI16 : kx_val (kx_rv 8 f9) (8 - (k7)) + 2 = kx_val (kx_rv 8 ga) (8 - (k7)) + (z12).toNat * 4294967296 ^ (8 - (k7)) := by rw [ef9]; exact kx_subN (c := (z1).toNat) (by omega) (by have h7 := hd_ga k7; omega) hI
          exact ih7 (z12) f9 _ _ _ (by omega) hd_f9 hi9_hb014 hi9_hb115 hi9_hI16 hdy (lv_sub hl [0, 1, 3, 4, 5] rfl)
        · have hc36 : z7 < 0 := (kz_lz_lt (by omega) (by omega) (by omega) (by omega)).mp hc36
          refine lv_lconst (v := 1) hx hb zd_W_subtract_39 (by decide) ?_
          refine lv_topl (fun yl17 h9 => ?_)
          obtain rfl : yl17 = kz_lz (1) := h9.trans (kz_lz_c1)
          refine lv_goto (tgt := 44) hx hb zd_W_subtract_40 (by decide) ?_
          refine lv_topl (fun yl19 h9 => ?_)
          obtain ⟨z18, ez18, rfl⟩ : ∃ z : Int, z = 1 ∧ yl19 = kz_lz z := ⟨_, rfl, h9⟩
          refine lv_lstore_n (lv' := [(3, .long (kz_lz (z18))), (6, .long (kz_lz (z7))), (5, .int (nI (k7))), (0, .ref a), (1, .int (nI (2))), (2, .ref o)]) hx hb zd_W_subtract_44 rfl hl (by decide) rfl (fun ls hl => ?_)
          refine lv_iinc (v := (nI (k7) - 1)) (lv' := [(5, .int (nI (k7) - 1)), (3, .long (kz_lz (z18))), (6, .long (kz_lz (z7))), (0, .ref a), (1, .int (nI (2))), (2, .ref o)]) hx hb zd_W_subtract_45 hl (k := 2) rfl (kz_m1 _) (by decide) rfl (fun ls hl => ?_)
          refine lv_goto (tgt := 7) hx hb zd_W_subtract_48 (by decide) ?_
          have hi9_hb020 : 0 ≤ z18 := by omega
          have hi9_hb121 : z18 ≤ 2 := by omega
          have hi9_hI22 : kx_val (kx_rv 8 f9) (8 - (k7)) + 2 = kx_val (kx_rv 8 ga) (8 - (k7)) + (z18).toNat * 4294967296 ^ (8 - (k7)) := by rw [ef9]; exact kx_subN (c := (z1).toNat) (by omega) (by have h7 := hd_ga k7; omega) hI
          exact ih7 (z18) f9 _ _ _ (by omega) hd_f9 hi9_hb020 hi9_hb121 hi9_hI22 hdy (lv_sub hl [0, 1, 3, 4, 5] rfl)
  have hi9_hb023 : 0 ≤ ((2 : Nat) : Int) := by omega
  have hi9_hb124 : ((2 : Nat) : Int) ≤ 2 := by omega
  have hi9_hI25 : kx_val (kx_rv 8 go) (8 - (8)) + 2 = kx_val (kx_rv 8 ga) (8 - (8)) + (((2 : Nat) : Int)).toNat * 4294967296 ^ (8 - (8)) := by show 0 + 2 = 0 + 2 * 4294967296 ^ 0; omega
  exact lp7 8 (((2 : Nat) : Int)) go _ _ _ (by omega) hd_go hi9_hb023 hi9_hb124 hi9_hI25 hdy (lv_sub hl [0, 1, 2, 3, 4] rfl)

set_option maxHeartbeats 4000000 in
set_option maxRecDepth 100000 in
/-- KeyMeeting$Words.addMultiple(J[I[II)I -/
theorem c_E_addMultiple (l : Launch) (dC : Nat → ClassId) (dI : Nat → Nat → Nat) (cI cAA cB cL : ClassId) (w b : Nat) (gw : Nat → Nat) (gb : Nat → Nat) (tn : Nat) (at_ : Nat) (sz : Nat) (hd_gw : ∀ j, gw j < 4294967296) (hd_gb : ∀ j, gb j < 4294967296) (hat : at_ < 8) (htn : tn < 4294967296) : Met l zy_W_addMultiple zw_W_addMultiple { frames := 0, cells := 0, slots := 0, locals := 0 } (kz_Pc (dC, dI) vwCl [(cI, .int), (cAA, .array .int), (cB, .byte), (cL, .long)] [] [] [.long (kz_lz (((tn : Nat) : Int))), .ref b, .ref w, .int (nI (at_))] [(w, .inl (cI, 16, .inl (kz_dg gw)))] [(b, .inl (cI, 8, .inl (kz_dg gb)))] sz) (va_Qi (fun (r : Int32) (u : (Nat → Nat)) => (∀ j, u j < 4294967296) ∧ (∃ b : Nat, (b < 4294967296 ∧ kx_val (kx_rv 16 u) 16 + b * 4294967296 ^ ((7 - at_) + 8) = kx_val (kx_rv 16 gw) 16 + tn * 4294967296 ^ (7 - at_) * kx_val (kx_rv 8 gb) 8) ∧ r = nI b) ∧ (∀ j, j ≤ at_ → u j = gw j) ∧ True) (kz_B (dC, dI) vwCl (va_A [(w, .inl (cI, 16, .inl (kz_dg gw)))] sz) (fun u : (Nat → Nat) => [(w, .inl (cI, 16, .inl (kz_dg u)))])) (va_A [(w, .inl (cI, 16, .inl (kz_dg gw)))] sz)) 0 0 (va_A [(w, .inl (cI, 16, .inl (kz_dg gw)))] sz) := by
  refine kz_met (y := zy_W_addMultiple) (ws := zw_W_addMultiple) (av := [.long (kz_lz (((tn : Nat) : Int))), .ref b, .ref w, .int (nI (at_))]) (sz := sz) (Qc := fun A => va_Qi (fun (r : Int32) (u : (Nat → Nat)) => (∀ j, u j < 4294967296) ∧ (∃ b : Nat, (b < 4294967296 ∧ kx_val (kx_rv 16 u) 16 + b * 4294967296 ^ ((7 - at_) + 8) = kx_val (kx_rv 16 gw) 16 + tn * 4294967296 ^ (7 - at_) * kx_val (kx_rv 8 gb) 8) ∧ r = nI b) ∧ (∀ j, j ≤ at_ → u j = gw j) ∧ True) (kz_B (dC, dI) vwCl A (fun u : (Nat → Nat) => [(w, .inl (cI, 16, .inl (kz_dg u)))])) A) (cc := zc_W_addMultiple) (maxL := 10) (ret := some .int) (by decide) rfl (Nat.le_of_ble_eq_true rfl) ?_
  intro p e s m below meth c A ls F hA hdy hK hro hZ hN hl
  obtain ⟨hx, hb, hml, hr, hown, hlocks, hts, hnm⟩ := id F
  have hl : lv_has ls 10 [(0, .long (kz_lz (((tn : Nat) : Int)))), (2, .ref b), (3, .ref w), (4, .int (nI (at_)))] := hl
  refine lv_lconst (v := 0) hx hb zd_W_addMultiple_0 (by decide) ?_
  refine lv_topl (fun yl1 h9 => ?_)
  obtain rfl : yl1 = kz_lz (0) := h9.trans (kz_lz_c0)
  refine lv_topl (fun yl3 h9 => ?_)
  obtain ⟨n2, en2, rfl⟩ := kz_toN (e := 0) h9 (by omega)
  refine lv_lstore (lv' := [(5, .long (kz_lz (((n2 : Nat) : Int)))), (0, .long (kz_lz (((tn : Nat) : Int)))), (2, .ref b), (3, .ref w), (4, .int (nI (at_)))]) hx hb zd_W_addMultiple_1 hl (by decide) rfl (fun ls hl => ?_)
  refine lv_bipush (v := (nI (7))) hx hb zd_W_addMultiple_3 (by decide) ?_
  refine lv_istore (lv' := [(7, .int (nI (7))), (5, .long (kz_lz (((n2 : Nat) : Int)))), (0, .long (kz_lz (((tn : Nat) : Int)))), (2, .ref b), (3, .ref w), (4, .int (nI (at_)))]) hx hb zd_W_addMultiple_5 hl (by decide) rfl (fun ls hl => ?_)
  have lp7 : ∀ (k7 : Nat) (c4 : Nat) (d5 : Nat → Nat) (H : Heap) (locs : List Loc) (ls : Array Slot), k7 ≤ 8 → (∀ j, d5 j < 4294967296) → (c4 < 4294967296) → (kx_val (kx_rv 16 d5) 16 + c4 * 4294967296 ^ ((7 - at_) + (8 - (k7))) = kx_val (kx_rv 16 gw) 16 + tn * 4294967296 ^ (7 - at_) * kx_val (kx_rv 8 gb) (8 - (k7))) → (∀ j, j ≤ at_ → d5 j = gw j) → kz_dy (dC, dI) vwCl A s.heap H locs [(w, .inl (cI, 16, .inl (kz_dg d5)))] → lv_has ls 10 [(7, .int (nI k7 - 1)), (5, .long (kz_lz (((c4 : Nat) : Int)))), (0, .long (kz_lz (((tn : Nat) : Int)))), (2, .ref b), (3, .ref w), (4, .int (nI (at_)))] → W p l e { frames := 0, cells := 0, slots := 0, locals := 0 } s m ([.long (kz_lz (((tn : Nat) : Int))), .ref b, .ref w, .int (nI (at_))] : List Value).toArray below meth c H locs 0 0 (MQ below (va_Qi (fun (r : Int32) (u : (Nat → Nat)) => (∀ j, u j < 4294967296) ∧ (∃ b : Nat, (b < 4294967296 ∧ kx_val (kx_rv 16 u) 16 + b * 4294967296 ^ ((7 - at_) + 8) = kx_val (kx_rv 16 gw) 16 + tn * 4294967296 ^ (7 - at_) * kx_val (kx_rv 8 gb) 8) ∧ r = nI b) ∧ (∀ j, j ≤ at_ → u j = gw j) ∧ True) (kz_B (dC, dI) vwCl A (fun u : (Nat → Nat) => [(w, .inl (cI, 16, .inl (kz_dg u)))])) A) ([.long (kz_lz (((tn : Nat) : Int))), .ref b, .ref w, .int (nI (at_))] : List Value).toArray s 0 0 A) (F0 m 7 ls []) := by
    intro k7
    induction k7 with
    | zero =>
      intro c4 d5 H locs ls hi7 hd_d5 hc hI hk hdy hl
      refine lv_iload hx hb zd_W_addMultiple_7 (lv_at hl 0 rfl) ?_
      refine lv_if_lt (tgt := 68) hx hb zd_W_addMultiple_9 (by decide) (fun hc9 => ?_) (fun hc9 => ?_)
      · refine lv_lload hx hb zd_W_addMultiple_68 (lv_at hl 1 rfl) ?_
        refine lv_l2i hx hb zd_W_addMultiple_70 (kz_lz_i32 (((c4 : Nat) : Int))) ?_
        exact kz_iret F (d5) hdy (⟨hd_d5, ⟨_, by refine ⟨by omega, ?_⟩; have h7 : (((c4 : Nat) : Int) % 4294967296).toNat = c4 := (by omega); rw [h7]; exact hI, rfl⟩, by exact hk, trivial⟩) zd_W_addMultiple_71
      · exact absurd (by decide) hc9
    | succ k7 ih7 =>
      intro c4 d5 H locs ls hi7 hd_d5 hc hI hk hdy hl
      rw [nI_pred] at hl
      refine lv_iload hx hb zd_W_addMultiple_7 (lv_at hl 0 rfl) ?_
      refine lv_if_lt (tgt := 68) hx hb zd_W_addMultiple_9 (by decide) (fun hc9 => ?_) (fun hc9 => ?_)
      · exact absurd hc9 (nI_pos (by omega))
      · refine lv_lload_n hx hb zd_W_addMultiple_12 rfl (lv_at hl 2 rfl) ?_
        refine lv_aload_n hx hb zd_W_addMultiple_13 rfl (lv_at hl 3 rfl) ?_
        refine lv_iload hx hb zd_W_addMultiple_14 (lv_at hl 0 rfl) ?_
        refine kz_riald hx hb hK hro hdy.2.2 0 0 rfl rfl (vp_in_nI (by omega) (by omega)) zd_W_addMultiple_16 ?_
        refine lv_topi (fun x6 h9 => ?_)
        obtain rfl : x6 = nI (gb k7) := h9.trans (kz_dgl gb (by omega))
        have hbx6 := hd_gb k7
        refine lv_i2l hx hb zd_W_addMultiple_17 rfl ?_
        refine lv_ldc2 (v := (4294967295)) hx hb hown (hts _ (kz_c mw_180)) zd_W_addMultiple_18 ?_
        refine lv_topl (fun yl7 h9 => ?_)
        obtain rfl : yl7 = kz_lz (4294967295) := h9.trans (kz_lz_c4294967295)
        refine lv_land hx hb zd_W_addMultiple_21 ?_
        refine lv_topl (fun yl8 h9 => ?_)
        obtain rfl : yl8 = kz_lz (((gb k7 : Nat) : Int)) := h9.trans (kz_maskS (by omega))
        refine lv_lmul hx hb zd_W_addMultiple_22 ?_
        refine lv_topl (fun yl9 h9 => ?_)
        obtain rfl : yl9 = kz_lz ((((tn : Nat) : Int)) * (((gb k7 : Nat) : Int))) := h9.trans (kz_lz_mul _ _)
        refine lv_aload_n hx hb zd_W_addMultiple_23 rfl (lv_at hl 4 rfl) ?_
        refine lv_iload hx hb zd_W_addMultiple_24 (lv_at hl 5 rfl) ?_
        refine lv_iconst (v := (nI (1))) hx hb zd_W_addMultiple_26 (by decide) ?_
        refine kz_iadd hx hb zd_W_addMultiple_27 (nI_add _ _) ?_
        refine lv_iload hx hb zd_W_addMultiple_28 (lv_at hl 0 rfl) ?_
        refine kz_iadd hx hb zd_W_addMultiple_30 (nI_add _ _) ?_
        refine va_iald hx hb hK hdy.1 0 0 rfl rfl (vp_in_nI (by omega) (by omega)) zd_W_addMultiple_31 ?_
        refine lv_topi (fun x10 h9 => ?_)
        obtain rfl : x10 = nI (d5 (at_ + 1 + k7)) := h9.trans (kz_dgl d5 (by omega))
        have hbx10 := hd_d5 (at_ + 1 + k7)
        refine lv_i2l hx hb zd_W_addMultiple_32 rfl ?_
        refine lv_ldc2 (v := (4294967295)) hx hb hown (hts _ (kz_c mw_180)) zd_W_addMultiple_33 ?_
        refine lv_topl (fun yl11 h9 => ?_)
        obtain rfl : yl11 = kz_lz (4294967295) := h9.trans (kz_lz_c4294967295)
        refine lv_land hx hb zd_W_addMultiple_36 ?_
        refine lv_topl (fun yl12 h9 => ?_)
        obtain rfl : yl12 = kz_lz (((d5 (at_ + 1 + k7) : Nat) : Int)) := h9.trans (kz_maskS (by omega))
        refine lv_ladd hx hb zd_W_addMultiple_37 ?_
        refine lv_topl (fun yl13 h9 => ?_)
        obtain rfl : yl13 = kz_lz (((((tn : Nat) : Int)) * (((gb k7 : Nat) : Int))) + (((d5 (at_ + 1 + k7) : Nat) : Int))) := h9.trans (kz_lz_add _ _)
        refine lv_lload hx hb zd_W_addMultiple_38 (lv_at hl 1 rfl) ?_
        refine lv_ladd hx hb zd_W_addMultiple_40 ?_
        refine lv_topl (fun yl14 h9 => ?_)
        obtain rfl : yl14 = kz_lz ((((((tn : Nat) : Int)) * (((gb k7 : Nat) : Int))) + (((d5 (at_ + 1 + k7) : Nat) : Int))) + (((c4 : Nat) : Int))) := h9.trans (kz_lz_add _ _)
        have hm9 := kx_mm htn (hd_gb k7)
        obtain ⟨m9, hm7⟩ : ∃ m : Nat, m = tn * gb k7 := ⟨_, rfl⟩
        rw [← hm7] at hm9
        have hm8 : ((tn : Nat) : Int) * ((gb k7 : Nat) : Int) = (m9 : Int) := by rw [hm7, Int.natCast_mul]
        refine lv_topl (fun yl16 h9 => ?_)
        obtain ⟨n15, en15, rfl⟩ := kz_toN (e := (((((tn : Nat) : Int)) * (((gb k7 : Nat) : Int))) + (((d5 (at_ + 1 + k7) : Nat) : Int))) + (((c4 : Nat) : Int))) h9 (by omega)
        refine lv_lstore (lv' := [(8, .long (kz_lz (((n15 : Nat) : Int)))), (7, .int (nI (k7))), (5, .long (kz_lz (((c4 : Nat) : Int)))), (0, .long (kz_lz (((tn : Nat) : Int)))), (2, .ref b), (3, .ref w), (4, .int (nI (at_)))]) hx hb zd_W_addMultiple_41 hl (by decide) rfl (fun ls hl => ?_)
        refine lv_aload_n hx hb zd_W_addMultiple_43 rfl (lv_at hl 5 rfl) ?_
        refine lv_iload hx hb zd_W_addMultiple_44 (lv_at hl 6 rfl) ?_
        refine lv_iconst (v := (nI (1))) hx hb zd_W_addMultiple_46 (by decide) ?_
        refine kz_iadd hx hb zd_W_addMultiple_47 (nI_add _ _) ?_
        refine lv_iload hx hb zd_W_addMultiple_48 (lv_at hl 1 rfl) ?_
        refine kz_iadd hx hb zd_W_addMultiple_50 (nI_add _ _) ?_
        refine lv_lload hx hb zd_W_addMultiple_51 (lv_at hl 0 rfl) ?_
        refine lv_l2i hx hb zd_W_addMultiple_53 (kz_lz_i32 (((n15 : Nat) : Int))) ?_
        refine va_iast hx hb hK hdy.1 hdy.2.1 hdy.2.2 0 0 rfl rfl (vp_in_nI (by omega) (by omega)) zd_W_addMultiple_54 (fun H locs hP hD hS => ?_)
        have h9 := kz_dgu d5 (k := (at_ + 1 + k7)) (((((n15 : Nat) : Int)) % 4294967296).toNat) (by omega)
        rw [h9] at hP hD
        obtain ⟨f17, ef17, hd_f17, hdy⟩ : ∃ f17 : Nat → Nat, f17 = kv_up d5 (at_ + 1 + k7) (((((n15 : Nat) : Int)) % 4294967296).toNat) ∧ (∀ j, f17 j < 4294967296) ∧ kz_dy (dC, dI) vwCl A s.heap H locs [(w, .inl (cI, 16, .inl (kz_dg f17)))] := ⟨_, rfl, kx_up_lt hd_d5 (by omega), hP, hD, hS⟩
        refine lv_lload hx hb zd_W_addMultiple_55 (lv_at hl 0 rfl) ?_
        refine lv_bipush (v := (nI (32))) hx hb zd_W_addMultiple_57 (by decide) ?_
        refine lv_lushr hx hb zd_W_addMultiple_59 (kz_lz_ushr32 (z := (((n15 : Nat) : Int))) (by omega) (by omega)) ?_
        refine lv_topl (fun yl19 h9 => ?_)
        obtain ⟨n18, en18, rfl⟩ := kz_toN (e := (((n15 : Nat) : Int)) / 4294967296) h9 (by omega)
        refine lv_lstore (lv' := [(5, .long (kz_lz (((n18 : Nat) : Int)))), (8, .long (kz_lz (((n15 : Nat) : Int)))), (7, .int (nI (k7))), (0, .long (kz_lz (((tn : Nat) : Int)))), (2, .ref b), (3, .ref w), (4, .int (nI (at_)))]) hx hb zd_W_addMultiple_60 hl (by decide) rfl (fun ls hl => ?_)
        refine lv_iinc (v := (nI (k7) - 1)) (lv' := [(7, .int (nI (k7) - 1)), (5, .long (kz_lz (((n18 : Nat) : Int)))), (8, .long (kz_lz (((n15 : Nat) : Int)))), (0, .long (kz_lz (((tn : Nat) : Int)))), (2, .ref b), (3, .ref w), (4, .int (nI (at_)))]) hx hb zd_W_addMultiple_62 hl (k := 2) rfl (kz_m1 _) (by decide) rfl (fun ls hl => ?_)
        refine lv_goto (tgt := 7) hx hb zd_W_addMultiple_65 (by decide) ?_
        have hi9_hc20 : n18 < 4294967296 := by omega
        have hi9_hI21 : kx_val (kx_rv 16 f17) 16 + n18 * 4294967296 ^ ((7 - at_) + (8 - (k7))) = kx_val (kx_rv 16 gw) 16 + tn * 4294967296 ^ (7 - at_) * kx_val (kx_rv 8 gb) (8 - (k7)) := by rw [ef17]; have h7 : (((n15 : Nat) : Int) % 4294967296).toNat = n15 % 4294967296 := (by omega); have h6 : n18 = n15 / 4294967296 := (by omega); rw [h7, h6]; exact kx_amStep hat (by omega) (by rw [← hm7]; omega) hI
        have hi9_hk22 : ∀ j, j ≤ at_ → f17 j = gw j := by intro j hj; rw [ef17, kv_up_ne _ _ (by omega)]; exact hk j hj
        exact ih7 (n18) f17 _ _ _ (by omega) hd_f17 hi9_hc20 hi9_hI21 hi9_hk22 hdy (lv_sub hl [0, 1, 3, 4, 5, 6] rfl)
  have hi9_hc23 : n2 < 4294967296 := by omega
  have hi9_hI24 : kx_val (kx_rv 16 gw) 16 + n2 * 4294967296 ^ ((7 - at_) + (8 - (8))) = kx_val (kx_rv 16 gw) 16 + tn * 4294967296 ^ (7 - at_) * kx_val (kx_rv 8 gb) (8 - (8)) := by have h0 : n2 = 0 := (by omega); rw [h0]; show _ + 0 * _ = _ + _ * 0; omega
  have hi9_hk25 : ∀ j, j ≤ at_ → gw j = gw j := by exact fun _ _ => rfl
  exact lp7 8 (n2) gw _ _ _ (by omega) hd_gw hi9_hc23 hi9_hI24 hi9_hk25 hdy (lv_sub hl [0, 1, 2, 3, 4, 5] rfl)

set_option maxHeartbeats 4000000 in
set_option maxRecDepth 100000 in
/-- Arrays.fill([II)V -/
theorem c_E_fill16 (l : Launch) (dC : Nat → ClassId) (dI : Nat → Nat → Nat) (cI cAA cB cL : ClassId) (o : Nat) (go : Nat → Nat) (sz : Nat) (hd_go : ∀ j, go j < 4294967296) : Met l zy_A_fill zw_A_fill { frames := 0, cells := 0, slots := 0, locals := 0 } (kz_Pc (dC, dI) vwCl [(cI, .int), (cAA, .array .int), (cB, .byte), (cL, .long)] [] [] [.ref o, .int (nI (0))] [(o, .inl (cI, 16, .inl (kz_dg go)))] [] sz) (va_Qv (fun (u : (Nat → Nat)) => (∀ j, u j < 4294967296) ∧ (∀ j, j < 16 → u j = 0) ∧ True) (kz_B (dC, dI) vwCl (va_A [(o, .inl (cI, 16, .inl (kz_dg go)))] sz) (fun u : (Nat → Nat) => [(o, .inl (cI, 16, .inl (kz_dg u)))])) (va_A [(o, .inl (cI, 16, .inl (kz_dg go)))] sz)) 0 0 (va_A [(o, .inl (cI, 16, .inl (kz_dg go)))] sz) := by
  refine kz_met (y := zy_A_fill) (ws := zw_A_fill) (av := [.ref o, .int (nI (0))]) (sz := sz) (Qc := fun A => va_Qv (fun (u : (Nat → Nat)) => (∀ j, u j < 4294967296) ∧ (∀ j, j < 16 → u j = 0) ∧ True) (kz_B (dC, dI) vwCl A (fun u : (Nat → Nat) => [(o, .inl (cI, 16, .inl (kz_dg u)))])) A) (cc := zc_A_fill) (maxL := 4) (ret := none) (by decide) rfl (Nat.le_of_ble_eq_true rfl) ?_
  intro p e s m below meth c A ls F hA hdy hK hro hZ hN hl
  obtain ⟨hx, hb, hml, hr, hown, hlocks, hts, hnm⟩ := id F
  have hl : lv_has ls 4 [(0, .ref o), (1, .int (nI (0)))] := hl
  refine lv_iconst (v := (nI (0))) hx hb zd_A_fill_0 (by decide) ?_
  refine lv_istore_n (lv' := [(2, .int (nI (0))), (0, .ref o), (1, .int (nI (0)))]) hx hb zd_A_fill_1 rfl hl (by decide) rfl (fun ls hl => ?_)
  refine lv_aload_n hx hb zd_A_fill_2 rfl (lv_at hl 1 rfl) ?_
  refine va_alen (v := nI 16) hx hb hK hdy.1 0 0 rfl rfl rfl zd_A_fill_3 ?_
  refine lv_istore_n (lv' := [(3, .int (nI (16))), (2, .int (nI (0))), (0, .ref o), (1, .int (nI (0)))]) hx hb zd_A_fill_4 rfl hl (by decide) rfl (fun ls hl => ?_)
  have lp5 : ∀ (n5 k5 : Nat) (d1 : Nat → Nat) (H : Heap) (locs : List Loc) (ls : Array Slot), k5 ≤ 16 → 16 - k5 < n5 → (∀ j, d1 j < 4294967296) → (∀ j, j < k5 → d1 j = 0) → kz_dy (dC, dI) vwCl A s.heap H locs [(o, .inl (cI, 16, .inl (kz_dg d1)))] → lv_has ls 4 [(3, .int (nI (16))), (2, .int (nI (k5))), (0, .ref o), (1, .int (nI (0)))] → W p l e { frames := 0, cells := 0, slots := 0, locals := 0 } s m ([.ref o, .int (nI (0))] : List Value).toArray below meth c H locs 0 0 (MQ below (va_Qv (fun (u : (Nat → Nat)) => (∀ j, u j < 4294967296) ∧ (∀ j, j < 16 → u j = 0) ∧ True) (kz_B (dC, dI) vwCl A (fun u : (Nat → Nat) => [(o, .inl (cI, 16, .inl (kz_dg u)))])) A) ([.ref o, .int (nI (0))] : List Value).toArray s 0 0 A) (F0 m 5 ls []) := by
    intro n5
    induction n5 with
    | zero => intro k5; intros; omega
    | succ n5 ih5 =>
      intro k5 d1 H locs ls hi5 hn5 hd_d1 hz hdy hl
      refine lv_iload_n hx hb zd_A_fill_5 rfl (lv_at hl 1 rfl) ?_
      refine lv_iload_n hx hb zd_A_fill_6 rfl (lv_at hl 0 rfl) ?_
      refine lv_icmp_ge (tgt := 20) hx hb zd_A_fill_7 (by decide) (fun hc7 => ?_) (fun hc7 => ?_)
      · have hc7 : 16 ≤ k5 := (nI_leI (by omega) (by omega)).mp hc7
        exact kz_vret F (d1) hdy (⟨hd_d1, by exact fun j hj => hz j (by omega), trivial⟩) zd_A_fill_20
      · have hc7 : ¬ 16 ≤ k5 := fun h9 => hc7 ((nI_leI (by omega) (by omega)).mpr h9)
        refine lv_aload_n hx hb zd_A_fill_10 rfl (lv_at hl 2 rfl) ?_
        refine lv_iload_n hx hb zd_A_fill_11 rfl (lv_at hl 1 rfl) ?_
        refine lv_iload_n hx hb zd_A_fill_12 rfl (lv_at hl 3 rfl) ?_
        refine va_iast hx hb hK hdy.1 hdy.2.1 hdy.2.2 0 0 rfl rfl (vp_in_nI (by omega) (by omega)) zd_A_fill_13 (fun H locs hP hD hS => ?_)
        have h9 := kz_dgu d1 (k := k5) 0 (by omega)
        rw [h9] at hP hD
        obtain ⟨f2, ef2, hd_f2, hdy⟩ : ∃ f2 : Nat → Nat, f2 = kv_up d1 k5 0 ∧ (∀ j, f2 j < 4294967296) ∧ kz_dy (dC, dI) vwCl A s.heap H locs [(o, .inl (cI, 16, .inl (kz_dg f2)))] := ⟨_, rfl, kx_up_lt hd_d1 (by omega), hP, hD, hS⟩
        refine lv_iinc (v := (nI (k5 + 1))) (lv' := [(2, .int (nI (k5 + 1))), (3, .int (nI (16))), (0, .ref o), (1, .int (nI (0)))]) hx hb zd_A_fill_14 hl (k := 1) rfl (nI_1 _) (by decide) rfl (fun ls hl => ?_)
        refine lv_goto (tgt := 5) hx hb zd_A_fill_17 (by decide) ?_
        have hi9_hz3 : ∀ j, j < k5 + 1 → f2 j = 0 := by rw [ef2]; exact kv_fill (F := fun _ => 0) hz rfl
        exact ih5 (k5 + 1) f2 _ _ _ (by omega) (by omega) hd_f2 hi9_hz3 hdy (lv_sub hl [1, 0, 2, 3] rfl)
  have hi9_hz4 : ∀ j, j < 0 → go j = 0 := by intro j hj; omega
  exact lp5 (16 - 0 + 1) 0 go _ _ _ (by omega) (by omega) hd_go hi9_hz4 hdy (lv_sub hl [0, 1, 2, 3] rfl)

set_option maxHeartbeats 4000000 in
set_option maxRecDepth 100000 in
/-- Arrays.fill([II)V -/
theorem c_E_fill8 (l : Launch) (dC : Nat → ClassId) (dI : Nat → Nat → Nat) (cI cAA cB cL : ClassId) (o : Nat) (go : Nat → Nat) (sz : Nat) (hd_go : ∀ j, go j < 4294967296) : Met l zy_A_fill zw_A_fill { frames := 0, cells := 0, slots := 0, locals := 0 } (kz_Pc (dC, dI) vwCl [(cI, .int), (cAA, .array .int), (cB, .byte), (cL, .long)] [] [] [.ref o, .int (nI (0))] [(o, .inl (cI, 8, .inl (kz_dg go)))] [] sz) (va_Qv (fun (u : (Nat → Nat)) => (∀ j, u j < 4294967296) ∧ (∀ j, j < 8 → u j = 0) ∧ True) (kz_B (dC, dI) vwCl (va_A [(o, .inl (cI, 8, .inl (kz_dg go)))] sz) (fun u : (Nat → Nat) => [(o, .inl (cI, 8, .inl (kz_dg u)))])) (va_A [(o, .inl (cI, 8, .inl (kz_dg go)))] sz)) 0 0 (va_A [(o, .inl (cI, 8, .inl (kz_dg go)))] sz) := by
  refine kz_met (y := zy_A_fill) (ws := zw_A_fill) (av := [.ref o, .int (nI (0))]) (sz := sz) (Qc := fun A => va_Qv (fun (u : (Nat → Nat)) => (∀ j, u j < 4294967296) ∧ (∀ j, j < 8 → u j = 0) ∧ True) (kz_B (dC, dI) vwCl A (fun u : (Nat → Nat) => [(o, .inl (cI, 8, .inl (kz_dg u)))])) A) (cc := zc_A_fill) (maxL := 4) (ret := none) (by decide) rfl (Nat.le_of_ble_eq_true rfl) ?_
  intro p e s m below meth c A ls F hA hdy hK hro hZ hN hl
  obtain ⟨hx, hb, hml, hr, hown, hlocks, hts, hnm⟩ := id F
  have hl : lv_has ls 4 [(0, .ref o), (1, .int (nI (0)))] := hl
  refine lv_iconst (v := (nI (0))) hx hb zd_A_fill_0 (by decide) ?_
  refine lv_istore_n (lv' := [(2, .int (nI (0))), (0, .ref o), (1, .int (nI (0)))]) hx hb zd_A_fill_1 rfl hl (by decide) rfl (fun ls hl => ?_)
  refine lv_aload_n hx hb zd_A_fill_2 rfl (lv_at hl 1 rfl) ?_
  refine va_alen (v := nI 8) hx hb hK hdy.1 0 0 rfl rfl rfl zd_A_fill_3 ?_
  refine lv_istore_n (lv' := [(3, .int (nI (8))), (2, .int (nI (0))), (0, .ref o), (1, .int (nI (0)))]) hx hb zd_A_fill_4 rfl hl (by decide) rfl (fun ls hl => ?_)
  have lp5 : ∀ (n5 k5 : Nat) (d1 : Nat → Nat) (H : Heap) (locs : List Loc) (ls : Array Slot), k5 ≤ 8 → 8 - k5 < n5 → (∀ j, d1 j < 4294967296) → (∀ j, j < k5 → d1 j = 0) → kz_dy (dC, dI) vwCl A s.heap H locs [(o, .inl (cI, 8, .inl (kz_dg d1)))] → lv_has ls 4 [(3, .int (nI (8))), (2, .int (nI (k5))), (0, .ref o), (1, .int (nI (0)))] → W p l e { frames := 0, cells := 0, slots := 0, locals := 0 } s m ([.ref o, .int (nI (0))] : List Value).toArray below meth c H locs 0 0 (MQ below (va_Qv (fun (u : (Nat → Nat)) => (∀ j, u j < 4294967296) ∧ (∀ j, j < 8 → u j = 0) ∧ True) (kz_B (dC, dI) vwCl A (fun u : (Nat → Nat) => [(o, .inl (cI, 8, .inl (kz_dg u)))])) A) ([.ref o, .int (nI (0))] : List Value).toArray s 0 0 A) (F0 m 5 ls []) := by
    intro n5
    induction n5 with
    | zero => intro k5; intros; omega
    | succ n5 ih5 =>
      intro k5 d1 H locs ls hi5 hn5 hd_d1 hz hdy hl
      refine lv_iload_n hx hb zd_A_fill_5 rfl (lv_at hl 1 rfl) ?_
      refine lv_iload_n hx hb zd_A_fill_6 rfl (lv_at hl 0 rfl) ?_
      refine lv_icmp_ge (tgt := 20) hx hb zd_A_fill_7 (by decide) (fun hc7 => ?_) (fun hc7 => ?_)
      · have hc7 : 8 ≤ k5 := (nI_leI (by omega) (by omega)).mp hc7
        exact kz_vret F (d1) hdy (⟨hd_d1, by exact fun j hj => hz j (by omega), trivial⟩) zd_A_fill_20
      · have hc7 : ¬ 8 ≤ k5 := fun h9 => hc7 ((nI_leI (by omega) (by omega)).mpr h9)
        refine lv_aload_n hx hb zd_A_fill_10 rfl (lv_at hl 2 rfl) ?_
        refine lv_iload_n hx hb zd_A_fill_11 rfl (lv_at hl 1 rfl) ?_
        refine lv_iload_n hx hb zd_A_fill_12 rfl (lv_at hl 3 rfl) ?_
        refine va_iast hx hb hK hdy.1 hdy.2.1 hdy.2.2 0 0 rfl rfl (vp_in_nI (by omega) (by omega)) zd_A_fill_13 (fun H locs hP hD hS => ?_)
        have h9 := kz_dgu d1 (k := k5) 0 (by omega)
        rw [h9] at hP hD
        obtain ⟨f2, ef2, hd_f2, hdy⟩ : ∃ f2 : Nat → Nat, f2 = kv_up d1 k5 0 ∧ (∀ j, f2 j < 4294967296) ∧ kz_dy (dC, dI) vwCl A s.heap H locs [(o, .inl (cI, 8, .inl (kz_dg f2)))] := ⟨_, rfl, kx_up_lt hd_d1 (by omega), hP, hD, hS⟩
        refine lv_iinc (v := (nI (k5 + 1))) (lv' := [(2, .int (nI (k5 + 1))), (3, .int (nI (8))), (0, .ref o), (1, .int (nI (0)))]) hx hb zd_A_fill_14 hl (k := 1) rfl (nI_1 _) (by decide) rfl (fun ls hl => ?_)
        refine lv_goto (tgt := 5) hx hb zd_A_fill_17 (by decide) ?_
        have hi9_hz3 : ∀ j, j < k5 + 1 → f2 j = 0 := by rw [ef2]; exact kv_fill (F := fun _ => 0) hz rfl
        exact ih5 (k5 + 1) f2 _ _ _ (by omega) (by omega) hd_f2 hi9_hz3 hdy (lv_sub hl [1, 0, 2, 3] rfl)
  have hi9_hz4 : ∀ j, j < 0 → go j = 0 := by intro j hj; omega
  exact lp5 (8 - 0 + 1) 0 go _ _ _ (by omega) (by omega) hd_go hi9_hz4 hdy (lv_sub hl [0, 1, 2, 3] rfl)

set_option maxHeartbeats 4000000 in
set_option maxRecDepth 100000 in
/-- KeyMeeting$Words.multiply([I[I[I)V -/
theorem c_E_multiply (l : Launch) (dC : Nat → ClassId) (dI : Nat → Nat → Nat) (cI cAA cB cL : ClassId) (w a b : Nat) (gw : Nat → Nat) (ga : Nat → Nat) (gb : Nat → Nat) (sz : Nat) (hd_gw : ∀ j, gw j < 4294967296) (hd_ga : ∀ j, ga j < 4294967296) (hd_gb : ∀ j, gb j < 4294967296) : Met l zy_W_multiply zw_W_multiply { frames := 1, cells := 0, slots := 0, locals := 29 } (kz_Pc (dC, dI) vwCl [(cI, .int), (cAA, .array .int), (cB, .byte), (cL, .long)] [] [] [.ref a, .ref b, .ref w] [(w, .inl (cI, 16, .inl (kz_dg gw)))] [(a, .inl (cI, 8, .inl (kz_dg ga))), (b, .inl (cI, 8, .inl (kz_dg gb)))] sz) (va_Qv (fun (u : (Nat → Nat)) => (∀ j, u j < 4294967296) ∧ (kx_V 16 u = kx_V 8 ga * kx_V 8 gb) ∧ True) (kz_B (dC, dI) vwCl (va_A [(w, .inl (cI, 16, .inl (kz_dg gw)))] sz) (fun u : (Nat → Nat) => [(w, .inl (cI, 16, .inl (kz_dg u)))])) (va_A [(w, .inl (cI, 16, .inl (kz_dg gw)))] sz)) 0 0 (va_A [(w, .inl (cI, 16, .inl (kz_dg gw)))] sz) := by
  refine kz_met (y := zy_W_multiply) (ws := zw_W_multiply) (av := [.ref a, .ref b, .ref w]) (sz := sz) (Qc := fun A => va_Qv (fun (u : (Nat → Nat)) => (∀ j, u j < 4294967296) ∧ (kx_V 16 u = kx_V 8 ga * kx_V 8 gb) ∧ True) (kz_B (dC, dI) vwCl A (fun u : (Nat → Nat) => [(w, .inl (cI, 16, .inl (kz_dg u)))])) A) (cc := zc_W_multiply) (maxL := 4) (ret := none) (by decide) rfl (Nat.le_of_ble_eq_true rfl) ?_
  intro p e s m below meth c A ls F hA hdy hK hro hZ hN hl
  obtain ⟨hx, hb, hml, hr, hown, hlocks, hts, hnm⟩ := id F
  have hl : lv_has ls 4 [(0, .ref a), (1, .ref b), (2, .ref w)] := hl
  refine lv_aload_n hx hb zd_W_multiply_0 rfl (lv_at hl 2 rfl) ?_
  refine lv_iconst (v := (nI (0))) hx hb zd_W_multiply_1 (by decide) ?_
  refine kz_callv (wk := []) (va_runS (As := [.ref w, .int (nI (0))]) (rest := []) ⟨hx, hb, hml, hown, hts⟩ (c_E_fill16 l dC dI cI cAA cB cL w gw _ hd_gw) (va_cwS 2 hts (kz_g (kz_mc mw_206 (kz_mc mw_207 (kz_mc mw_49 kz_mn))) mw_208) rfl rfl rfl (by decide +kernel) ⟨Nat.le_of_ble_eq_true rfl, Nat.le_of_ble_eq_true rfl⟩) (kz_preS hdy hA hK hro hZ hN [0] (by decide) rfl [] rfl (by decide) [0, 1, 2, 3] rfl (fun _ h => by cases h) (fun _ h => by cases h) rfl) rfl rfl hl.1 rfl (lv_room (Nat.le_of_ble_eq_true rfl)) zd_W_multiply_2 ⟨Nat.le_of_ble_eq_true rfl, Nat.le_of_ble_eq_true rfl⟩) hdy hA [0] [] rfl rfl (by decide) (by decide) (fun u H locs hw hdy => ?_)
  obtain ⟨d1, rfl⟩ : ∃ z, z = u := ⟨_, rfl⟩
  try dsimp only at hw
  obtain ⟨hd_d1, q2, -⟩ := hw
  have hdy : kz_dy (dC, dI) vwCl A s.heap H locs [(w, .inl (cI, 16, .inl (kz_dg d1)))] := hdy.sub [0] (by decide) rfl
  refine lv_bipush (v := (nI (7))) hx hb zd_W_multiply_5 (by decide) ?_
  refine lv_istore_n (lv' := [(3, .int (nI (7))), (0, .ref a), (1, .ref b), (2, .ref w)]) hx hb zd_W_multiply_7 rfl hl (by decide) rfl (fun ls hl => ?_)
  have lp8 : ∀ (k8 : Nat) (d3 : Nat → Nat) (H : Heap) (locs : List Loc) (ls : Array Slot), k8 ≤ 8 → (∀ j, d3 j < 4294967296) → (kx_val (kx_rv 16 d3) 16 = kx_val (kx_rv 8 ga) (8 - (k8)) * kx_val (kx_rv 8 gb) 8) → (∀ j, j < k8 → d3 j = 0) → kz_dy (dC, dI) vwCl A s.heap H locs [(w, .inl (cI, 16, .inl (kz_dg d3)))] → lv_has ls 4 [(3, .int (nI k8 - 1)), (0, .ref a), (1, .ref b), (2, .ref w)] → W p l e { frames := 1, cells := 0, slots := 0, locals := 29 } s m ([.ref a, .ref b, .ref w] : List Value).toArray below meth c H locs 0 0 (MQ below (va_Qv (fun (u : (Nat → Nat)) => (∀ j, u j < 4294967296) ∧ (kx_V 16 u = kx_V 8 ga * kx_V 8 gb) ∧ True) (kz_B (dC, dI) vwCl A (fun u : (Nat → Nat) => [(w, .inl (cI, 16, .inl (kz_dg u)))])) A) ([.ref a, .ref b, .ref w] : List Value).toArray s 0 0 A) (F0 m 8 ls []) := by
    intro k8
    induction k8 with
    | zero =>
      intro d3 H locs ls hi8 hd_d3 hv hz hdy hl
      refine lv_iload_n hx hb zd_W_multiply_8 rfl (lv_at hl 0 rfl) ?_
      refine lv_if_lt (tgt := 41) hx hb zd_W_multiply_9 (by decide) (fun hc9 => ?_) (fun hc9 => ?_)
      · exact kz_vret F (d3) hdy (⟨hd_d3, by exact hv, trivial⟩) zd_W_multiply_41
      · exact absurd (by decide) hc9
    | succ k8 ih8 =>
      intro d3 H locs ls hi8 hd_d3 hv hz hdy hl
      rw [nI_pred] at hl
      refine lv_iload_n hx hb zd_W_multiply_8 rfl (lv_at hl 0 rfl) ?_
      refine lv_if_lt (tgt := 41) hx hb zd_W_multiply_9 (by decide) (fun hc9 => ?_) (fun hc9 => ?_)
      · exact absurd hc9 (nI_pos (by omega))
      · refine lv_aload_n hx hb zd_W_multiply_12 rfl (lv_at hl 1 rfl) ?_
        refine lv_iload_n hx hb zd_W_multiply_13 rfl (lv_at hl 0 rfl) ?_
        refine kz_riald hx hb hK hro hdy.2.2 0 0 rfl rfl (vp_in_nI (by omega) (by omega)) zd_W_multiply_14 ?_
        refine lv_topi (fun x4 h9 => ?_)
        obtain rfl : x4 = nI (ga k8) := h9.trans (kz_dgl ga (by omega))
        have hbx4 := hd_ga k8
        refine lv_if_eq (tgt := 35) hx hb zd_W_multiply_15 (by decide) (fun hc15 => ?_) (fun hc15 => ?_)
        · have hc15 : (ga k8) = 0 := (kx_nIeq (by omega) (by omega)).mp (by rw [nI_0]; exact hc15)
          refine lv_iinc (v := (nI (k8) - 1)) (lv' := [(3, .int (nI (k8) - 1)), (0, .ref a), (1, .ref b), (2, .ref w)]) hx hb zd_W_multiply_35 hl (k := 0) rfl (kz_m1 _) (by decide) rfl (fun ls hl => ?_)
          refine lv_goto (tgt := 8) hx hb zd_W_multiply_38 (by decide) ?_
          have hi9_hv5 : kx_val (kx_rv 16 d3) 16 = kx_val (kx_rv 8 ga) (8 - (k8)) * kx_val (kx_rv 8 gb) 8 := by rw [kx_mlZero (a := ga) (by omega) (by omega)]; exact hv
          have hi9_hz6 : ∀ j, j < k8 → d3 j = 0 := by exact fun j hj => hz j (by omega)
          exact ih8 d3 _ _ _ (by omega) hd_d3 hi9_hv5 hi9_hz6 hdy (lv_sub hl [0, 1, 2, 3] rfl)
        · have hc15 : ¬ (ga k8) = 0 := fun h9 => hc15 (by have h8 := (kx_nIeq (by omega) (by omega)).mpr h9; rw [nI_0] at h8; exact h8)
          refine lv_aload_n hx hb zd_W_multiply_18 rfl (lv_at hl 3 rfl) ?_
          refine lv_iload_n hx hb zd_W_multiply_19 rfl (lv_at hl 0 rfl) ?_
          refine lv_aload_n hx hb zd_W_multiply_20 rfl (lv_at hl 1 rfl) ?_
          refine lv_iload_n hx hb zd_W_multiply_21 rfl (lv_at hl 0 rfl) ?_
          refine kz_riald hx hb hK hro hdy.2.2 0 0 rfl rfl (vp_in_nI (by omega) (by omega)) zd_W_multiply_22 ?_
          refine lv_topi (fun x7 h9 => ?_)
          obtain rfl : x7 = nI (ga k8) := h9.trans (kz_dgl ga (by omega))
          have hbx7 := hd_ga k8
          refine lv_i2l hx hb zd_W_multiply_23 rfl ?_
          refine lv_ldc2 (v := (4294967295)) hx hb hown (hts _ (kz_c mw_180)) zd_W_multiply_24 ?_
          refine lv_topl (fun yl8 h9 => ?_)
          obtain rfl : yl8 = kz_lz (4294967295) := h9.trans (kz_lz_c4294967295)
          refine lv_land hx hb zd_W_multiply_27 ?_
          refine lv_topl (fun yl9 h9 => ?_)
          obtain rfl : yl9 = kz_lz (((ga k8 : Nat) : Int)) := h9.trans (kz_maskS (by omega))
          refine lv_aload_n hx hb zd_W_multiply_28 rfl (lv_at hl 2 rfl) ?_
          refine lv_aload_n hx hb zd_W_multiply_29 rfl (lv_at hl 3 rfl) ?_
          refine lv_iload_n hx hb zd_W_multiply_30 rfl (lv_at hl 0 rfl) ?_
          refine kz_calli (wk := []) (va_runS (As := [.long (kz_lz (((ga k8 : Nat) : Int))), .ref b, .ref w, .int (nI (k8))]) (rest := [.int (nI (k8)), .ref w]) ⟨hx, hb, hml, hown, hts⟩ (c_E_addMultiple l dC dI cI cAA cB cL w b d3 gb (ga k8) k8 _ hd_d3 hd_gb (by first | omega | assumption) (by first | omega | assumption)) (va_cwS 4 hts (kz_g (kz_mc mw_209 (kz_mc mw_210 (kz_mc mw_50 kz_mn))) mw_211) rfl rfl rfl (by decide +kernel) ⟨Nat.le_of_ble_eq_true rfl, Nat.le_of_ble_eq_true rfl⟩) (kz_preS hdy hA hK hro hZ hN [0] (by decide) rfl [(true, 1)] rfl (by decide) [0, 1, 2, 3] rfl (fun _ h => by cases h) (fun _ h => by cases h) rfl) rfl rfl hl.1 rfl (lv_room (Nat.le_of_ble_eq_true rfl)) zd_W_multiply_31 ⟨Nat.le_of_ble_eq_true rfl, Nat.le_of_ble_eq_true rfl⟩) hdy hA [0] [] rfl rfl (by decide) (by decide) (fun r u H locs hw hdy => ?_)
          obtain ⟨d10, rfl⟩ : ∃ z, z = u := ⟨_, rfl⟩
          try dsimp only at hw
          obtain ⟨hd_d10, ⟨b11, hb11, rfl⟩, q12, -⟩ := hw
          have hdy : kz_dy (dC, dI) vwCl A s.heap H locs [(w, .inl (cI, 16, .inl (kz_dg d10)))] := hdy.sub [0] (by decide) rfl
          obtain ⟨hbL, hbI⟩ := hb11
          refine va_iast hx hb hK hdy.1 hdy.2.1 hdy.2.2 0 0 rfl rfl (vp_in_nI (by omega) (by omega)) zd_W_multiply_34 (fun H locs hP hD hS => ?_)
          have h9 := kz_dgu d10 (k := k8) b11 (by omega)
          rw [h9] at hP hD
          obtain ⟨f13, ef13, hd_f13, hdy⟩ : ∃ f13 : Nat → Nat, f13 = kv_up d10 k8 b11 ∧ (∀ j, f13 j < 4294967296) ∧ kz_dy (dC, dI) vwCl A s.heap H locs [(w, .inl (cI, 16, .inl (kz_dg f13)))] := ⟨_, rfl, kx_up_lt hd_d10 (by omega), hP, hD, hS⟩
          refine lv_iinc (v := (nI (k8) - 1)) (lv' := [(3, .int (nI (k8) - 1)), (0, .ref a), (1, .ref b), (2, .ref w)]) hx hb zd_W_multiply_35 hl (k := 0) rfl (kz_m1 _) (by decide) rfl (fun ls hl => ?_)
          refine lv_goto (tgt := 8) hx hb zd_W_multiply_38 (by decide) ?_
          have hi9_hv14 : kx_val (kx_rv 16 f13) 16 = kx_val (kx_rv 8 ga) (8 - (k8)) * kx_val (kx_rv 8 gb) 8 := by first | (rw [kx_mlZero (a := ga) (by omega) (by omega)]; exact hv) | (rw [ef13]; exact kx_mlRow (by omega) ((q12 k8 (Nat.le_refl _)).trans (hz k8 (by omega))) (by rw [← hv]; exact hbI))
          have hi9_hz15 : ∀ j, j < k8 → f13 j = 0 := by first | exact fun j hj => hz j (by omega) | (intro j hj; rw [ef13, kv_up_ne _ _ (by omega), q12 j (by omega)]; exact hz j (by omega))
          exact ih8 f13 _ _ _ (by omega) hd_f13 hi9_hv14 hi9_hz15 hdy (lv_sub hl [0, 1, 2, 3] rfl)
  have hi9_hv16 : kx_val (kx_rv 16 d1) 16 = kx_val (kx_rv 8 ga) (8 - (8)) * kx_val (kx_rv 8 gb) 8 := by show _ = 0 * _; rw [Nat.zero_mul]; exact kx_trunc (kx_rv 16 d1) 0 16 (fun j _ hj => q2 _ (by omega))
  have hi9_hz17 : ∀ j, j < 8 → d1 j = 0 := by exact fun j hj => q2 j (by omega)
  exact lp8 8 d1 _ _ _ (by omega) hd_d1 hi9_hv16 hi9_hz17 hdy (lv_sub hl [0, 1, 2, 3] rfl)

set_option maxHeartbeats 4000000 in
set_option maxRecDepth 100000 in
/-- KeyMeeting$Host.takeLowHalf([I[I)V -/
theorem c_E_takeLowHalf (l : Launch) (dC : Nat → ClassId) (dI : Nat → Nat → Nat) (cI cAA cB cL : ClassId) (o a : Nat) (go : Nat → Nat) (ga : Nat → Nat) (sz : Nat) (hd_go : ∀ j, go j < 4294967296) (hd_ga : ∀ j, ga j < 4294967296) : Met l zy_H_takeLowHalf zw_H_takeLowHalf { frames := 0, cells := 0, slots := 0, locals := 0 } (kz_Pc (dC, dI) vwCl [(cI, .int), (cAA, .array .int), (cB, .byte), (cL, .long)] [] [] [.ref a, .ref o] [(o, .inl (cI, 8, .inl (kz_dg go)))] [(a, .inl (cI, 8, .inl (kz_dg ga)))] sz) (va_Qv (fun (u : (Nat → Nat)) => (∀ j, u j < 4294967296) ∧ (∀ j, 4 ≤ j → j < 8 → u j = ga j) ∧ (∀ j, j < 4 → u j = go j) ∧ True) (kz_B (dC, dI) vwCl (va_A [(o, .inl (cI, 8, .inl (kz_dg go)))] sz) (fun u : (Nat → Nat) => [(o, .inl (cI, 8, .inl (kz_dg u)))])) (va_A [(o, .inl (cI, 8, .inl (kz_dg go)))] sz)) 0 0 (va_A [(o, .inl (cI, 8, .inl (kz_dg go)))] sz) := by
  refine kz_met (y := zy_H_takeLowHalf) (ws := zw_H_takeLowHalf) (av := [.ref a, .ref o]) (sz := sz) (Qc := fun A => va_Qv (fun (u : (Nat → Nat)) => (∀ j, u j < 4294967296) ∧ (∀ j, 4 ≤ j → j < 8 → u j = ga j) ∧ (∀ j, j < 4 → u j = go j) ∧ True) (kz_B (dC, dI) vwCl A (fun u : (Nat → Nat) => [(o, .inl (cI, 8, .inl (kz_dg u)))])) A) (cc := zc_H_takeLowHalf) (maxL := 3) (ret := none) (by decide) rfl (Nat.le_of_ble_eq_true rfl) ?_
  intro p e s m below meth c A ls F hA hdy hK hro hZ hN hl
  obtain ⟨hx, hb, hml, hr, hown, hlocks, hts, hnm⟩ := id F
  have hl : lv_has ls 3 [(0, .ref a), (1, .ref o)] := hl
  refine lv_iconst (v := (nI (4))) hx hb zd_H_takeLowHalf_0 (by decide) ?_
  refine lv_istore_n (lv' := [(2, .int (nI (4))), (0, .ref a), (1, .ref o)]) hx hb zd_H_takeLowHalf_1 rfl hl (by decide) rfl (fun ls hl => ?_)
  have lp2 : ∀ (n2 k2 : Nat) (d1 : Nat → Nat) (H : Heap) (locs : List Loc) (ls : Array Slot), k2 ≤ 8 → 8 - k2 < n2 → 4 ≤ k2 → (∀ j, d1 j < 4294967296) → (∀ j, 4 ≤ j → j < k2 → d1 j = ga j) → (∀ j, j < 4 → d1 j = go j) → kz_dy (dC, dI) vwCl A s.heap H locs [(o, .inl (cI, 8, .inl (kz_dg d1)))] → lv_has ls 3 [(2, .int (nI (k2))), (0, .ref a), (1, .ref o)] → W p l e { frames := 0, cells := 0, slots := 0, locals := 0 } s m ([.ref a, .ref o] : List Value).toArray below meth c H locs 0 0 (MQ below (va_Qv (fun (u : (Nat → Nat)) => (∀ j, u j < 4294967296) ∧ (∀ j, 4 ≤ j → j < 8 → u j = ga j) ∧ (∀ j, j < 4 → u j = go j) ∧ True) (kz_B (dC, dI) vwCl A (fun u : (Nat → Nat) => [(o, .inl (cI, 8, .inl (kz_dg u)))])) A) ([.ref a, .ref o] : List Value).toArray s 0 0 A) (F0 m 2 ls []) := by
    intro n2
    induction n2 with
    | zero => intro k2; intros; omega
    | succ n2 ih2 =>
      intro k2 d1 H locs ls hi2 hn2 hblow hd_d1 ha ho hdy hl
      refine lv_iload_n hx hb zd_H_takeLowHalf_2 rfl (lv_at hl 0 rfl) ?_
      refine lv_bipush (v := (nI (8))) hx hb zd_H_takeLowHalf_3 (by decide) ?_
      refine lv_icmp_ge (tgt := 20) hx hb zd_H_takeLowHalf_5 (by decide) (fun hc5 => ?_) (fun hc5 => ?_)
      · have hc5 : 8 ≤ k2 := (nI_leI (by omega) (by omega)).mp hc5
        exact kz_vret F (d1) hdy (⟨hd_d1, by exact fun j a b => ha j a (by omega), by exact ho, trivial⟩) zd_H_takeLowHalf_20
      · have hc5 : ¬ 8 ≤ k2 := fun h9 => hc5 ((nI_leI (by omega) (by omega)).mpr h9)
        refine lv_aload_n hx hb zd_H_takeLowHalf_8 rfl (lv_at hl 2 rfl) ?_
        refine lv_iload_n hx hb zd_H_takeLowHalf_9 rfl (lv_at hl 0 rfl) ?_
        refine lv_aload_n hx hb zd_H_takeLowHalf_10 rfl (lv_at hl 1 rfl) ?_
        refine lv_iload_n hx hb zd_H_takeLowHalf_11 rfl (lv_at hl 0 rfl) ?_
        refine kz_riald hx hb hK hro hdy.2.2 0 0 rfl rfl (vp_in_nI (by omega) (by omega)) zd_H_takeLowHalf_12 ?_
        refine lv_topi (fun x2 h9 => ?_)
        obtain rfl : x2 = nI (ga k2) := h9.trans (kz_dgl ga (by omega))
        have hbx2 := hd_ga k2
        refine va_iast hx hb hK hdy.1 hdy.2.1 hdy.2.2 0 0 rfl rfl (vp_in_nI (by omega) (by omega)) zd_H_takeLowHalf_13 (fun H locs hP hD hS => ?_)
        have h9 := kz_dgu d1 (k := k2) (ga k2) (by omega)
        rw [h9] at hP hD
        obtain ⟨f3, ef3, hd_f3, hdy⟩ : ∃ f3 : Nat → Nat, f3 = kv_up d1 k2 (ga k2) ∧ (∀ j, f3 j < 4294967296) ∧ kz_dy (dC, dI) vwCl A s.heap H locs [(o, .inl (cI, 8, .inl (kz_dg f3)))] := ⟨_, rfl, kx_up_lt hd_d1 (by omega), hP, hD, hS⟩
        refine lv_iinc (v := (nI (k2 + 1))) (lv' := [(2, .int (nI (k2 + 1))), (0, .ref a), (1, .ref o)]) hx hb zd_H_takeLowHalf_14 hl (k := 0) rfl (nI_1 _) (by decide) rfl (fun ls hl => ?_)
        refine lv_goto (tgt := 2) hx hb zd_H_takeLowHalf_17 (by decide) ?_
        have hi9_ha4 : ∀ j, 4 ≤ j → j < k2 + 1 → f3 j = ga j := by intro j a b; rw [ef3]; rcases (by omega : j = k2 ∨ j < k2) with h | h; rw [h, kv_up_eq]; rw [kv_up_ne _ _ (by omega)]; exact ha j a h
        have hi9_ho5 : ∀ j, j < 4 → f3 j = go j := by intro j hj; rw [ef3, kv_up_ne _ _ (by omega)]; exact ho j hj
        exact ih2 (k2 + 1) f3 _ _ _ (by omega) (by omega) (by omega) hd_f3 hi9_ha4 hi9_ho5 hdy (lv_sub hl [0, 1, 2] rfl)
  have hi9_ha6 : ∀ j, 4 ≤ j → j < 4 → go j = ga j := by intro j a b; omega
  have hi9_ho7 : ∀ j, j < 4 → go j = go j := by exact fun _ _ => rfl
  exact lp2 (8 - 4 + 1) 4 go _ _ _ (by omega) (by omega) (by omega) hd_go hi9_ha6 hi9_ho7 hdy (lv_sub hl [0, 1, 2] rfl)

set_option maxHeartbeats 4000000 in
set_option maxRecDepth 100000 in
/-- KeyMeeting$Host.multiplyBoth([I)V -/
theorem c_E_multiplyBoth (l : Launch) (dC : Nat → ClassId) (dI : Nat → Nat → Nat) (cI cAA cB cL : ClassId) (hw16 o h pr inv hp hq : Nat) (ghw16 : Nat → Nat) (go : Nat → Nat) (ghp : Nat → Nat) (ghq : Nat → Nat) (sz : Nat) (hd_ghw16 : ∀ j, ghw16 j < 4294967296) (hd_go : ∀ j, go j < 4294967296) (hd_ghp : ∀ j, ghp j < 4294967296) (hd_ghq : ∀ j, ghq j < 4294967296) (hPl : kx_V 8 ghp < 340282366920938463463374607431768211456) (hQl : kx_V 8 ghq < 340282366920938463463374607431768211456) : Met l zy_H_multiplyBoth zw_H_multiplyBoth { frames := 2, cells := 0, slots := 0, locals := 52 } (kz_Pc (dC, dI) vwCl [(cI, .int), (cAA, .array .int), (cB, .byte), (cL, .long)] [] [] [.ref h, .ref o] [(hw16, .inl (cI, 16, .inl (kz_dg ghw16))), (o, .inl (cI, 8, .inl (kz_dg go)))] [(h, .inr (2, [.ref pr, .ref inv, .ref hp, .ref hq, .ref hw16])), (hp, .inl (cI, 8, .inl (kz_dg ghp))), (hq, .inl (cI, 8, .inl (kz_dg ghq)))] sz) (va_Qv (fun (u : (Nat → Nat) × (Nat → Nat)) => (∀ j, u.1 j < 4294967296) ∧ (∀ j, u.2 j < 4294967296) ∧ (kx_V 8 u.2 = kx_V 8 ghp * kx_V 8 ghq) ∧ True) (kz_B (dC, dI) vwCl (va_A [(hw16, .inl (cI, 16, .inl (kz_dg ghw16))), (o, .inl (cI, 8, .inl (kz_dg go)))] sz) (fun u : (Nat → Nat) × (Nat → Nat) => [(hw16, .inl (cI, 16, .inl (kz_dg u.1))), (o, .inl (cI, 8, .inl (kz_dg u.2)))])) (va_A [(hw16, .inl (cI, 16, .inl (kz_dg ghw16))), (o, .inl (cI, 8, .inl (kz_dg go)))] sz)) 0 0 (va_A [(hw16, .inl (cI, 16, .inl (kz_dg ghw16))), (o, .inl (cI, 8, .inl (kz_dg go)))] sz) := by
  refine kz_met (y := zy_H_multiplyBoth) (ws := zw_H_multiplyBoth) (av := [.ref h, .ref o]) (sz := sz) (Qc := fun A => va_Qv (fun (u : (Nat → Nat) × (Nat → Nat)) => (∀ j, u.1 j < 4294967296) ∧ (∀ j, u.2 j < 4294967296) ∧ (kx_V 8 u.2 = kx_V 8 ghp * kx_V 8 ghq) ∧ True) (kz_B (dC, dI) vwCl A (fun u : (Nat → Nat) × (Nat → Nat) => [(hw16, .inl (cI, 16, .inl (kz_dg u.1))), (o, .inl (cI, 8, .inl (kz_dg u.2)))])) A) (cc := zc_H_multiplyBoth) (maxL := 2) (ret := none) (by decide) rfl (Nat.le_of_ble_eq_true rfl) ?_
  intro p e s m below meth c A ls F hA hdy hK hro hZ hN hl
  obtain ⟨hx, hb, hml, hr, hown, hlocks, hts, hnm⟩ := id F
  have hl : lv_has ls 2 [(0, .ref h), (1, .ref o)] := hl
  refine lv_aload_n hx hb zd_H_multiplyBoth_0 rfl (lv_at hl 0 rfl) ?_
  refine va_get (D := (dC, dI)) (ci := 2) (v := .ref hp) (C := zR_H) (T := zT_H) (N := 5) hx hb hts (fun w h => kz_c (zi_H w h)) hown hK (hro.ob hdy.2.2 (k := 0) rfl) 0 rfl rfl 2 (by decide) (hts _ (kz_c mw_73)) (fun _ h9 => h9) rfl zd_H_multiplyBoth_1 ?_
  refine lv_aload_n hx hb zd_H_multiplyBoth_4 rfl (lv_at hl 0 rfl) ?_
  refine va_get (D := (dC, dI)) (ci := 2) (v := .ref hq) (C := zR_H) (T := zT_H) (N := 5) hx hb hts (fun w h => kz_c (zi_H w h)) hown hK (hro.ob hdy.2.2 (k := 0) rfl) 0 rfl rfl 3 (by decide) (hts _ (kz_c mw_74)) (fun _ h9 => h9) rfl zd_H_multiplyBoth_5 ?_
  refine lv_aload_n hx hb zd_H_multiplyBoth_8 rfl (lv_at hl 0 rfl) ?_
  refine va_get (D := (dC, dI)) (ci := 2) (v := .ref hw16) (C := zR_H) (T := zT_H) (N := 5) hx hb hts (fun w h => kz_c (zi_H w h)) hown hK (hro.ob hdy.2.2 (k := 0) rfl) 0 rfl rfl 4 (by decide) (hts _ (kz_c mw_75)) (fun _ h9 => h9) rfl zd_H_multiplyBoth_9 ?_
  refine kz_callv (wk := [(o, .inl (cI, 8, .inl (kz_dg go)))]) (va_runS (As := [.ref hp, .ref hq, .ref hw16]) (rest := []) ⟨hx, hb, hml, hown, hts⟩ (c_E_multiply l dC dI cI cAA cB cL hw16 hp hq ghw16 ghp ghq _ hd_ghw16 hd_ghp hd_ghq) (va_cwS 3 hts (kz_g (kz_mc mw_203 (kz_mc mw_204 (kz_mc mw_50 kz_mn))) mw_205) rfl rfl rfl (by decide +kernel) ⟨Nat.le_of_ble_eq_true rfl, Nat.le_of_ble_eq_true rfl⟩) (kz_preS hdy hA hK hro hZ hN [0] (by decide) rfl [(true, 1), (true, 2)] rfl (by decide) [0, 1, 2, 3] rfl (fun _ h => by cases h) (fun _ h => by cases h) rfl) rfl rfl hl.1 rfl (lv_room (Nat.le_of_ble_eq_true rfl)) zd_H_multiplyBoth_12 ⟨Nat.le_of_ble_eq_true rfl, Nat.le_of_ble_eq_true rfl⟩) hdy hA [0] [1] rfl rfl (by decide) (by decide) (fun u H locs hw hdy => ?_)
  obtain ⟨d1, rfl⟩ : ∃ z, z = u := ⟨_, rfl⟩
  try dsimp only at hw
  obtain ⟨hd_d1, q2, -⟩ := hw
  have hdy : kz_dy (dC, dI) vwCl A s.heap H locs [(hw16, .inl (cI, 16, .inl (kz_dg d1))), (o, .inl (cI, 8, .inl (kz_dg go)))] := hdy.sub [1, 0] (by decide) rfl
  refine lv_aload_n hx hb zd_H_multiplyBoth_15 rfl (lv_at hl 0 rfl) ?_
  refine va_get (D := (dC, dI)) (ci := 2) (v := .ref hw16) (C := zR_H) (T := zT_H) (N := 5) hx hb hts (fun w h => kz_c (zi_H w h)) hown hK (hro.ob hdy.2.2 (k := 0) rfl) 0 rfl rfl 4 (by decide) (hts _ (kz_c mw_75)) (fun _ h9 => h9) rfl zd_H_multiplyBoth_16 ?_
  refine lv_bipush (v := (nI (8))) hx hb zd_H_multiplyBoth_19 (by decide) ?_
  refine lv_aload_n hx hb zd_H_multiplyBoth_21 rfl (lv_at hl 1 rfl) ?_
  refine lv_iconst (v := (nI (0))) hx hb zd_H_multiplyBoth_22 (by decide) ?_
  refine lv_bipush (v := (nI (8))) hx hb zd_H_multiplyBoth_23 (by decide) ?_
  refine va_copyi hx hb (hml.trans hl.1.symm) hown (hts _ (kz_c mw_212)) (hts _ (kz_c mw_214)) (hts _ (kz_c mw_213)) (hts _ (kz_c mw_51)) hK hdy.1 hdy.2.1 hdy.2.2 0 1 0 0 rfl rfl rfl rfl rfl (nI_pos (by omega)) (nI_pos (by omega)) (nI_pos (by omega)) (by (repeat rw [nI_clamp (by omega)]) <;> omega) (by (repeat rw [nI_clamp (by omega)]) <;> omega) (fun _ _ => rfl) (Nat.le_of_ble_eq_true rfl) (Nat.le_of_ble_eq_true rfl) zd_H_multiplyBoth_25 (fun H locs hP hD hS => ?_)
  rw [show (nI 8).toNatClampNeg = 8 from nI_clamp (by omega), show (nI 0).toNatClampNeg = 0 from nI_clamp (by omega), kx_cpd] at hP hD
  obtain ⟨f3, ef3, hd_f3, hdy⟩ : ∃ f3 : Nat → Nat, f3 = kx_cp d1 go 8 0 8 ∧ (∀ j, f3 j < 4294967296) ∧ kz_dy (dC, dI) vwCl A s.heap H locs [(hw16, .inl (cI, 16, .inl (kz_dg d1))), (o, .inl (cI, 8, .inl (kz_dg f3)))] := ⟨_, rfl, kx_cp_lt hd_d1 hd_go, hP, hD, hS⟩
  exact kz_vret F (d1, f3) hdy (⟨hd_d1, hd_f3, by rw [← q2, ef3]; exact kx_cpV hd_d1 (by rw [q2]; exact kx_P256 hPl hQl), trivial⟩) zd_H_multiplyBoth_28

set_option maxHeartbeats 4000000 in
set_option maxRecDepth 100000 in
/-- KeyMeeting$Host.restOfInverse()J -/
theorem c_E_restOfInverse (l : Launch) (dC : Nat → ClassId) (dI : Nat → Nat → Nat) (cI cAA cB cL : ClassId) (h pr inv hp hq hw16 : Nat) (ginv : Nat → Nat) (sz : Nat) (hd_ginv : ∀ j, ginv j < 4294967296) : Met l zy_H_restOfInverse zw_H_restOfInverse { frames := 0, cells := 0, slots := 0, locals := 0 } (kz_Pc (dC, dI) vwCl [(cI, .int), (cAA, .array .int), (cB, .byte), (cL, .long)] [] [] [.ref h] [] [(h, .inr (2, [.ref pr, .ref inv, .ref hp, .ref hq, .ref hw16])), (inv, .inl (cI, 8, .inl (kz_dg ginv)))] sz) (va_Ql (fun (r : Int64) (u : Unit) => (∃ b : Nat, (b = kx_V 8 ginv % 65537) ∧ r = kz_lz ((b : Nat) : Int)) ∧ True) (kz_B (dC, dI) vwCl (va_A [] sz) (fun u : Unit => [])) (va_A [] sz)) 0 0 (va_A [] sz) := by
  refine kz_met (y := zy_H_restOfInverse) (ws := zw_H_restOfInverse) (av := [.ref h]) (sz := sz) (Qc := fun A => va_Ql (fun (r : Int64) (u : Unit) => (∃ b : Nat, (b = kx_V 8 ginv % 65537) ∧ r = kz_lz ((b : Nat) : Int)) ∧ True) (kz_B (dC, dI) vwCl A (fun u : Unit => [])) A) (cc := zc_H_restOfInverse) (maxL := 4) (ret := some .long) (by decide) rfl (Nat.le_of_ble_eq_true rfl) ?_
  intro p e s m below meth c A ls F hA hdy hK hro hZ hN hl
  obtain ⟨hx, hb, hml, hr, hown, hlocks, hts, hnm⟩ := id F
  have hl : lv_has ls 4 [(0, .ref h)] := hl
  refine lv_lconst (v := 0) hx hb zd_H_restOfInverse_0 (by decide) ?_
  refine lv_topl (fun yl1 h9 => ?_)
  obtain rfl : yl1 = kz_lz (0) := h9.trans (kz_lz_c0)
  refine lv_topl (fun yl3 h9 => ?_)
  obtain ⟨n2, en2, rfl⟩ := kz_toN (e := 0) h9 (by omega)
  refine lv_lstore_n (lv' := [(1, .long (kz_lz (((n2 : Nat) : Int)))), (0, .ref h)]) hx hb zd_H_restOfInverse_1 rfl hl (by decide) rfl (fun ls hl => ?_)
  refine lv_iconst (v := (nI (0))) hx hb zd_H_restOfInverse_2 (by decide) ?_
  refine lv_istore_n (lv' := [(3, .int (nI (0))), (1, .long (kz_lz (((n2 : Nat) : Int)))), (0, .ref h)]) hx hb zd_H_restOfInverse_3 rfl hl (by decide) rfl (fun ls hl => ?_)
  have lp4 : ∀ (n4 k4 : Nat) (c4 : Nat) (H : Heap) (locs : List Loc) (ls : Array Slot), k4 ≤ 8 → 8 - k4 < n4 → (c4 = kx_pre ginv (k4) % 65537) → kz_dy (dC, dI) vwCl A s.heap H locs [] → lv_has ls 4 [(3, .int (nI (k4))), (1, .long (kz_lz (((c4 : Nat) : Int)))), (0, .ref h)] → W p l e { frames := 0, cells := 0, slots := 0, locals := 0 } s m ([.ref h] : List Value).toArray below meth c H locs 0 0 (MQ below (va_Ql (fun (r : Int64) (u : Unit) => (∃ b : Nat, (b = kx_V 8 ginv % 65537) ∧ r = kz_lz ((b : Nat) : Int)) ∧ True) (kz_B (dC, dI) vwCl A (fun u : Unit => [])) A) ([.ref h] : List Value).toArray s 0 0 A) (F0 m 4 ls []) := by
    intro n4
    induction n4 with
    | zero => intro k4; intros; omega
    | succ n4 ih4 =>
      intro k4 c4 H locs ls hi4 hn4 hr hdy hl
      refine lv_iload_n hx hb zd_H_restOfInverse_4 rfl (lv_at hl 0 rfl) ?_
      refine lv_bipush (v := (nI (8))) hx hb zd_H_restOfInverse_5 (by decide) ?_
      refine lv_icmp_ge (tgt := 37) hx hb zd_H_restOfInverse_7 (by decide) (fun hc7 => ?_) (fun hc7 => ?_)
      · have hc7 : 8 ≤ k4 := (nI_leI (by omega) (by omega)).mp hc7
        refine lv_lload_n hx hb zd_H_restOfInverse_37 rfl (lv_at hl 1 rfl) ?_
        exact kz_lret F () hdy (⟨⟨_, by have h8 : k4 = 8 := (by omega); subst h8; rw [← kx_pre_V]; exact hr, rfl⟩, trivial⟩) zd_H_restOfInverse_38
      · have hc7 : ¬ 8 ≤ k4 := fun h9 => hc7 ((nI_leI (by omega) (by omega)).mpr h9)
        have hrl : c4 < 65537 := (by rw [hr]; exact Nat.mod_lt _ (by omega))
        refine lv_lload_n hx hb zd_H_restOfInverse_10 rfl (lv_at hl 1 rfl) ?_
        refine lv_bipush (v := (nI (32))) hx hb zd_H_restOfInverse_11 (by decide) ?_
        refine lv_lshl hx hb zd_H_restOfInverse_13 (kz_lz_shl32 (((c4 : Nat) : Int))) ?_
        refine lv_aload_n hx hb zd_H_restOfInverse_14 rfl (lv_at hl 2 rfl) ?_
        refine va_get (D := (dC, dI)) (ci := 2) (v := .ref inv) (C := zR_H) (T := zT_H) (N := 5) hx hb hts (fun w h => kz_c (zi_H w h)) hown hK (hro.ob hdy.2.2 (k := 0) rfl) 0 rfl rfl 1 (by decide) (hts _ (kz_c mw_71)) (fun _ h9 => h9) rfl zd_H_restOfInverse_15 ?_
        refine lv_iload_n hx hb zd_H_restOfInverse_18 rfl (lv_at hl 0 rfl) ?_
        refine kz_riald hx hb hK hro hdy.2.2 1 0 rfl rfl (vp_in_nI (by omega) (by omega)) zd_H_restOfInverse_19 ?_
        refine lv_topi (fun x5 h9 => ?_)
        obtain rfl : x5 = nI (ginv k4) := h9.trans (kz_dgl ginv (by omega))
        have hbx5 := hd_ginv k4
        refine lv_i2l hx hb zd_H_restOfInverse_20 rfl ?_
        refine lv_ldc2 (v := (4294967295)) hx hb hown (hts _ (kz_c mw_224)) zd_H_restOfInverse_21 ?_
        refine lv_topl (fun yl6 h9 => ?_)
        obtain rfl : yl6 = kz_lz (4294967295) := h9.trans (kz_lz_c4294967295)
        refine lv_land hx hb zd_H_restOfInverse_24 ?_
        refine lv_topl (fun yl7 h9 => ?_)
        obtain rfl : yl7 = kz_lz (((ginv k4 : Nat) : Int)) := h9.trans (kz_maskS (by omega))
        refine lv_lor hx hb zd_H_restOfInverse_25 ?_
        refine lv_topl (fun yl8 h9 => ?_)
        obtain rfl : yl8 = kz_lz ((((c4 : Nat) : Int)) * 4294967296 + (((ginv k4 : Nat) : Int))) := h9.trans (kz_lz_or32 (by omega) (by omega) (by omega) (by omega))
        refine lv_ldc2 (v := (65537)) hx hb hown (hts _ (kz_c mw_225)) zd_H_restOfInverse_26 ?_
        refine lv_topl (fun yl9 h9 => ?_)
        obtain rfl : yl9 = kz_lz (65537) := h9.trans (kz_lz_c65537)
        refine lv_lrem hx hb zd_H_restOfInverse_29 (kz_lz_ne0 (by omega) (by omega)) ?_
        refine lv_topl (fun yl10 h9 => ?_)
        obtain rfl : yl10 = kz_lz (((((c4 : Nat) : Int)) * 4294967296 + (((ginv k4 : Nat) : Int))) % 65537) := h9.trans (kz_lz_remz (by omega) (by omega) (by omega) (by omega))
        refine lv_topl (fun yl12 h9 => ?_)
        obtain ⟨n11, en11, rfl⟩ := kz_toN (e := ((((c4 : Nat) : Int)) * 4294967296 + (((ginv k4 : Nat) : Int))) % 65537) h9 (by omega)
        refine lv_lstore_n (lv' := [(1, .long (kz_lz (((n11 : Nat) : Int)))), (3, .int (nI (k4))), (0, .ref h)]) hx hb zd_H_restOfInverse_30 rfl hl (by decide) rfl (fun ls hl => ?_)
        refine lv_iinc (v := (nI (k4 + 1))) (lv' := [(3, .int (nI (k4 + 1))), (1, .long (kz_lz (((n11 : Nat) : Int)))), (0, .ref h)]) hx hb zd_H_restOfInverse_31 hl (k := 1) rfl (nI_1 _) (by decide) rfl (fun ls hl => ?_)
        refine lv_goto (tgt := 4) hx hb zd_H_restOfInverse_34 (by decide) ?_
        have hi9_hr13 : n11 = kx_pre ginv (k4 + 1) % 65537 := by rw [← kx_modStep hr]; omega
        exact ih4 (k4 + 1) (n11) _ _ _ (by omega) (by omega) hi9_hr13 hdy (lv_sub hl [0, 1, 2] rfl)
  have hi9_hr14 : n2 = kx_pre ginv (0) % 65537 := by have h0 : n2 = 0 := (by omega); rw [h0]; rfl
  exact lp4 (8 - 0 + 1) 0 (n2) _ _ _ (by omega) (by omega) hi9_hr14 hdy (lv_sub hl [0, 1, 2] rfl)

set_option maxHeartbeats 4000000 in
set_option maxRecDepth 100000 in
/-- KeyMeeting$Host.inverseOfSmall(J)J -/
theorem c_E_inverseOfSmall (l : Launch) (dC : Nat → ClassId) (dI : Nat → Nat → Nat) (cI cAA cB cL : ClassId) (an : Nat) (sz : Nat) (ha0 : 0 < an) (ha1 : an < 65537) : Met l zy_H_inverseOfSmall zw_H_inverseOfSmall { frames := 0, cells := 0, slots := 0, locals := 0 } (kz_Pc (dC, dI) vwCl [(cI, .int), (cAA, .array .int), (cB, .byte), (cL, .long)] [] [] [.long (kz_lz (((an : Nat) : Int)))] [] [] sz) (va_Ql (fun (r : Int64) (u : Unit) => (∃ b : Nat, (b < 65537 ∧ b * an % 65537 = 1) ∧ r = kz_lz ((b : Nat) : Int)) ∧ True) (kz_B (dC, dI) vwCl (va_A [] sz) (fun u : Unit => [])) (va_A [] sz)) 0 0 (va_A [] sz) := by
  refine kz_met (y := zy_H_inverseOfSmall) (ws := zw_H_inverseOfSmall) (av := [.long (kz_lz (((an : Nat) : Int)))]) (sz := sz) (Qc := fun A => va_Ql (fun (r : Int64) (u : Unit) => (∃ b : Nat, (b < 65537 ∧ b * an % 65537 = 1) ∧ r = kz_lz ((b : Nat) : Int)) ∧ True) (kz_B (dC, dI) vwCl A (fun u : Unit => [])) A) (cc := zc_H_inverseOfSmall) (maxL := 5) (ret := some .long) (by decide) rfl (Nat.le_of_ble_eq_true rfl) ?_
  intro p e s m below meth c A ls F hA hdy hK hro hZ hN hl
  obtain ⟨hx, hb, hml, hr, hown, hlocks, hts, hnm⟩ := id F
  have hl : lv_has ls 5 [(0, .long (kz_lz (((an : Nat) : Int))))] := hl
  refine lv_lconst (v := 1) hx hb zd_H_inverseOfSmall_0 (by decide) ?_
  refine lv_topl (fun yl1 h9 => ?_)
  obtain rfl : yl1 = kz_lz (1) := h9.trans (kz_lz_c1)
  refine lv_topl (fun yl3 h9 => ?_)
  obtain ⟨n2, en2, rfl⟩ := kz_toN (e := 1) h9 (by omega)
  refine lv_lstore_n (lv' := [(2, .long (kz_lz (((n2 : Nat) : Int)))), (0, .long (kz_lz (((an : Nat) : Int))))]) hx hb zd_H_inverseOfSmall_1 rfl hl (by decide) rfl (fun ls hl => ?_)
  refine lv_iconst (v := (nI (0))) hx hb zd_H_inverseOfSmall_2 (by decide) ?_
  refine lv_istore (lv' := [(4, .int (nI (0))), (2, .long (kz_lz (((n2 : Nat) : Int)))), (0, .long (kz_lz (((an : Nat) : Int))))]) hx hb zd_H_inverseOfSmall_3 hl (by decide) rfl (fun ls hl => ?_)
  have lp5 : ∀ (n5 k5 : Nat) (c4 : Nat) (H : Heap) (locs : List Loc) (ls : Array Slot), k5 ≤ 16 → 16 - k5 < n5 → (c4 = kx_iv an (k5)) → kz_dy (dC, dI) vwCl A s.heap H locs [] → lv_has ls 5 [(4, .int (nI (k5))), (2, .long (kz_lz (((c4 : Nat) : Int)))), (0, .long (kz_lz (((an : Nat) : Int))))] → W p l e { frames := 0, cells := 0, slots := 0, locals := 0 } s m ([.long (kz_lz (((an : Nat) : Int)))] : List Value).toArray below meth c H locs 0 0 (MQ below (va_Ql (fun (r : Int64) (u : Unit) => (∃ b : Nat, (b < 65537 ∧ b * an % 65537 = 1) ∧ r = kz_lz ((b : Nat) : Int)) ∧ True) (kz_B (dC, dI) vwCl A (fun u : Unit => [])) A) ([.long (kz_lz (((an : Nat) : Int)))] : List Value).toArray s 0 0 A) (F0 m 5 ls []) := by
    intro n5
    induction n5 with
    | zero => intro k5; intros; omega
    | succ n5 ih5 =>
      intro k5 c4 H locs ls hi5 hn5 hv hdy hl
      refine lv_iload hx hb zd_H_inverseOfSmall_5 (lv_at hl 0 rfl) ?_
      refine lv_bipush (v := (nI (16))) hx hb zd_H_inverseOfSmall_7 (by decide) ?_
      refine lv_icmp_ge (tgt := 32) hx hb zd_H_inverseOfSmall_9 (by decide) (fun hc9 => ?_) (fun hc9 => ?_)
      · have hc9 : 16 ≤ k5 := (nI_leI (by omega) (by omega)).mp hc9
        refine lv_lload_n hx hb zd_H_inverseOfSmall_32 rfl (lv_at hl 1 rfl) ?_
        exact kz_lret F () hdy (⟨⟨_, by have h8 : k5 = 16 := (by omega); subst h8; rw [hv]; exact ⟨kx_iv_lt _ _, kx_iv_ok ha0 ha1⟩, rfl⟩, trivial⟩) zd_H_inverseOfSmall_33
      · have hc9 : ¬ 16 ≤ k5 := fun h9 => hc9 ((nI_leI (by omega) (by omega)).mpr h9)
        have hcl : c4 < 65537 := (by rw [hv]; exact kx_iv_lt _ _)
        obtain ⟨m9, hm7⟩ : ∃ m : Nat, m = c4 * c4 := ⟨_, rfl⟩
        have hm9 : m9 ≤ 65536 * 65536 := (by rw [hm7]; exact Nat.mul_le_mul (by omega) (by omega))
        have hm8 : ((c4 : Nat) : Int) * ((c4 : Nat) : Int) = (m9 : Int) := (by rw [hm7, Int.natCast_mul])
        obtain ⟨q9, hq7⟩ : ∃ q : Nat, q = m9 % 65537 * an := ⟨_, rfl⟩
        have hq9 : q9 ≤ 65536 * 65536 := (by rw [hq7]; exact Nat.mul_le_mul (by omega) (by omega))
        have hq8 : (((c4 : Nat) : Int) * ((c4 : Nat) : Int) % 65537) * ((an : Nat) : Int) = (q9 : Int) := (by rw [hm8, hq7, Int.natCast_mul, Int.natCast_emod]; rfl)
        refine lv_lload_n hx hb zd_H_inverseOfSmall_12 rfl (lv_at hl 1 rfl) ?_
        refine lv_lload_n hx hb zd_H_inverseOfSmall_13 rfl (lv_at hl 1 rfl) ?_
        refine lv_lmul hx hb zd_H_inverseOfSmall_14 ?_
        refine lv_topl (fun yl5 h9 => ?_)
        obtain rfl : yl5 = kz_lz ((((c4 : Nat) : Int)) * (((c4 : Nat) : Int))) := h9.trans (kz_lz_mul _ _)
        refine lv_ldc2 (v := (65537)) hx hb hown (hts _ (kz_c mw_225)) zd_H_inverseOfSmall_15 ?_
        refine lv_topl (fun yl6 h9 => ?_)
        obtain rfl : yl6 = kz_lz (65537) := h9.trans (kz_lz_c65537)
        refine lv_lrem hx hb zd_H_inverseOfSmall_18 (kz_lz_ne0 (by omega) (by omega)) ?_
        refine lv_topl (fun yl7 h9 => ?_)
        obtain rfl : yl7 = kz_lz (((((c4 : Nat) : Int)) * (((c4 : Nat) : Int))) % 65537) := h9.trans (kz_lz_remz (by omega) (by omega) (by omega) (by omega))
        refine lv_lload_n hx hb zd_H_inverseOfSmall_19 rfl (lv_at hl 2 rfl) ?_
        refine lv_lmul hx hb zd_H_inverseOfSmall_20 ?_
        refine lv_topl (fun yl8 h9 => ?_)
        obtain rfl : yl8 = kz_lz ((((((c4 : Nat) : Int)) * (((c4 : Nat) : Int))) % 65537) * (((an : Nat) : Int))) := h9.trans (kz_lz_mul _ _)
        refine lv_ldc2 (v := (65537)) hx hb hown (hts _ (kz_c mw_225)) zd_H_inverseOfSmall_21 ?_
        refine lv_topl (fun yl9 h9 => ?_)
        obtain rfl : yl9 = kz_lz (65537) := h9.trans (kz_lz_c65537)
        refine lv_lrem hx hb zd_H_inverseOfSmall_24 (kz_lz_ne0 (by omega) (by omega)) ?_
        refine lv_topl (fun yl10 h9 => ?_)
        obtain rfl : yl10 = kz_lz (((((((c4 : Nat) : Int)) * (((c4 : Nat) : Int))) % 65537) * (((an : Nat) : Int))) % 65537) := h9.trans (kz_lz_remz (by omega) (by omega) (by omega) (by omega))
        refine lv_topl (fun yl12 h9 => ?_)
        obtain ⟨n11, en11, rfl⟩ := kz_toN (e := ((((((c4 : Nat) : Int)) * (((c4 : Nat) : Int))) % 65537) * (((an : Nat) : Int))) % 65537) h9 (by omega)
        refine lv_lstore_n (lv' := [(2, .long (kz_lz (((n11 : Nat) : Int)))), (4, .int (nI (k5))), (0, .long (kz_lz (((an : Nat) : Int))))]) hx hb zd_H_inverseOfSmall_25 rfl hl (by decide) rfl (fun ls hl => ?_)
        refine lv_iinc (v := (nI (k5 + 1))) (lv' := [(4, .int (nI (k5 + 1))), (2, .long (kz_lz (((n11 : Nat) : Int)))), (0, .long (kz_lz (((an : Nat) : Int))))]) hx hb zd_H_inverseOfSmall_26 hl (k := 1) rfl (nI_1 _) (by decide) rfl (fun ls hl => ?_)
        refine lv_goto (tgt := 5) hx hb zd_H_inverseOfSmall_29 (by decide) ?_
        have hi9_hv13 : n11 = kx_iv an (k5 + 1) := by show _ = kx_iv an k5 * kx_iv an k5 % 65537 * an % 65537; rw [← hv, ← hm7, ← hq7]; omega
        exact ih5 (k5 + 1) (n11) _ _ _ (by omega) (by omega) hi9_hv13 hdy (lv_sub hl [0, 1, 2] rfl)
  have hi9_hv14 : n2 = kx_iv an (0) := by have h0 : n2 = 1 := (by omega); rw [h0]; rfl
  exact lp5 (16 - 0 + 1) 0 (n2) _ _ _ (by omega) (by omega) hi9_hv14 hdy (lv_sub hl [0, 1, 2] rfl)

set_option maxHeartbeats 4000000 in
set_option maxRecDepth 100000 in
/-- KeyMeeting$Host.divideInverse(J)V -/
theorem c_E_divideInverse (l : Launch) (dC : Nat → ClassId) (dI : Nat → Nat → Nat) (cI cAA cB cL : ClassId) (inv h pr hp hq hw16 : Nat) (ginv : Nat → Nat) (r0 : Nat) (sz : Nat) (hd_ginv : ∀ j, ginv j < 4294967296) (hr0 : r0 < 65537) : Met l zy_H_divideInverse zw_H_divideInverse { frames := 0, cells := 0, slots := 0, locals := 0 } (kz_Pc (dC, dI) vwCl [(cI, .int), (cAA, .array .int), (cB, .byte), (cL, .long)] [] [] [.ref h, .long (kz_lz (((r0 : Nat) : Int)))] [(inv, .inl (cI, 8, .inl (kz_dg ginv)))] [(h, .inr (2, [.ref pr, .ref inv, .ref hp, .ref hq, .ref hw16]))] sz) (va_Qv (fun (u : (Nat → Nat)) => (∀ j, u j < 4294967296) ∧ (kx_V 8 u = (r0 * 115792089237316195423570985008687907853269984665640564039457584007913129639936 + kx_V 8 ginv) / 65537) ∧ True) (kz_B (dC, dI) vwCl (va_A [(inv, .inl (cI, 8, .inl (kz_dg ginv)))] sz) (fun u : (Nat → Nat) => [(inv, .inl (cI, 8, .inl (kz_dg u)))])) (va_A [(inv, .inl (cI, 8, .inl (kz_dg ginv)))] sz)) 0 0 (va_A [(inv, .inl (cI, 8, .inl (kz_dg ginv)))] sz) := by
  refine kz_met (y := zy_H_divideInverse) (ws := zw_H_divideInverse) (av := [.ref h, .long (kz_lz (((r0 : Nat) : Int)))]) (sz := sz) (Qc := fun A => va_Qv (fun (u : (Nat → Nat)) => (∀ j, u j < 4294967296) ∧ (kx_V 8 u = (r0 * 115792089237316195423570985008687907853269984665640564039457584007913129639936 + kx_V 8 ginv) / 65537) ∧ True) (kz_B (dC, dI) vwCl A (fun u : (Nat → Nat) => [(inv, .inl (cI, 8, .inl (kz_dg u)))])) A) (cc := zc_H_divideInverse) (maxL := 8) (ret := none) (by decide) rfl (Nat.le_of_ble_eq_true rfl) ?_
  intro p e s m below meth c A ls F hA hdy hK hro hZ hN hl
  obtain ⟨hx, hb, hml, hr, hown, hlocks, hts, hnm⟩ := id F
  have hl : lv_has ls 8 [(0, .ref h), (1, .long (kz_lz (((r0 : Nat) : Int))))] := hl
  refine lv_lload_n hx hb zd_H_divideInverse_0 rfl (lv_at hl 1 rfl) ?_
  refine lv_lstore_n (lv' := [(3, .long (kz_lz (((r0 : Nat) : Int)))), (0, .ref h), (1, .long (kz_lz (((r0 : Nat) : Int))))]) hx hb zd_H_divideInverse_1 rfl hl (by decide) rfl (fun ls hl => ?_)
  refine lv_iconst (v := (nI (0))) hx hb zd_H_divideInverse_2 (by decide) ?_
  refine lv_istore (lv' := [(5, .int (nI (0))), (3, .long (kz_lz (((r0 : Nat) : Int)))), (0, .ref h), (1, .long (kz_lz (((r0 : Nat) : Int))))]) hx hb zd_H_divideInverse_3 hl (by decide) rfl (fun ls hl => ?_)
  have lp5 : ∀ (n5 k5 : Nat) (c1 : Nat) (d2 : Nat → Nat) (H : Heap) (locs : List Loc) (ls : Array Slot), k5 ≤ 8 → 8 - k5 < n5 → (∀ j, d2 j < 4294967296) → (c1 < 65537) → (r0 * 4294967296 ^ (k5) + kx_pre ginv (k5) = 65537 * kx_pre d2 (k5) + c1) → (∀ j, k5 ≤ j → d2 j = ginv j) → kz_dy (dC, dI) vwCl A s.heap H locs [(inv, .inl (cI, 8, .inl (kz_dg d2)))] → lv_has ls 8 [(5, .int (nI (k5))), (3, .long (kz_lz (((c1 : Nat) : Int)))), (0, .ref h), (1, .long (kz_lz (((r0 : Nat) : Int))))] → W p l e { frames := 0, cells := 0, slots := 0, locals := 0 } s m ([.ref h, .long (kz_lz (((r0 : Nat) : Int)))] : List Value).toArray below meth c H locs 0 0 (MQ below (va_Qv (fun (u : (Nat → Nat)) => (∀ j, u j < 4294967296) ∧ (kx_V 8 u = (r0 * 115792089237316195423570985008687907853269984665640564039457584007913129639936 + kx_V 8 ginv) / 65537) ∧ True) (kz_B (dC, dI) vwCl A (fun u : (Nat → Nat) => [(inv, .inl (cI, 8, .inl (kz_dg u)))])) A) ([.ref h, .long (kz_lz (((r0 : Nat) : Int)))] : List Value).toArray s 0 0 A) (F0 m 5 ls []) := by
    intro n5
    induction n5 with
    | zero => intro k5; intros; omega
    | succ n5 ih5 =>
      intro k5 c1 d2 H locs ls hi5 hn5 hd_d2 hrl hI hhi hdy hl
      refine lv_iload hx hb zd_H_divideInverse_5 (lv_at hl 0 rfl) ?_
      refine lv_bipush (v := (nI (8))) hx hb zd_H_divideInverse_7 (by decide) ?_
      refine lv_icmp_ge (tgt := 58) hx hb zd_H_divideInverse_9 (by decide) (fun hc9 => ?_) (fun hc9 => ?_)
      · have hc9 : 8 ≤ k5 := (nI_leI (by omega) (by omega)).mp hc9
        exact kz_vret F (d2) hdy (⟨hd_d2, by have h8 : k5 = 8 := (by omega); subst h8; rw [← kx_pre_V, ← kx_pre_V]; exact kx_divEnd hrl hI, trivial⟩) zd_H_divideInverse_58
      · have hc9 : ¬ 8 ≤ k5 := fun h9 => hc9 ((nI_leI (by omega) (by omega)).mpr h9)
        refine lv_lload_n hx hb zd_H_divideInverse_12 rfl (lv_at hl 1 rfl) ?_
        refine lv_bipush (v := (nI (32))) hx hb zd_H_divideInverse_13 (by decide) ?_
        refine lv_lshl hx hb zd_H_divideInverse_15 (kz_lz_shl32 (((c1 : Nat) : Int))) ?_
        refine lv_aload_n hx hb zd_H_divideInverse_16 rfl (lv_at hl 2 rfl) ?_
        refine va_get (D := (dC, dI)) (ci := 2) (v := .ref inv) (C := zR_H) (T := zT_H) (N := 5) hx hb hts (fun w h => kz_c (zi_H w h)) hown hK (hro.ob hdy.2.2 (k := 0) rfl) 0 rfl rfl 1 (by decide) (hts _ (kz_c mw_71)) (fun _ h9 => h9) rfl zd_H_divideInverse_17 ?_
        refine lv_iload hx hb zd_H_divideInverse_20 (lv_at hl 0 rfl) ?_
        refine va_iald hx hb hK hdy.1 0 0 rfl rfl (vp_in_nI (by omega) (by omega)) zd_H_divideInverse_22 ?_
        refine lv_topi (fun x3 h9 => ?_)
        obtain rfl : x3 = nI (d2 k5) := h9.trans (kz_dgl d2 (by omega))
        have hbx3 := hd_d2 k5
        refine lv_i2l hx hb zd_H_divideInverse_23 rfl ?_
        refine lv_ldc2 (v := (4294967295)) hx hb hown (hts _ (kz_c mw_224)) zd_H_divideInverse_24 ?_
        refine lv_topl (fun yl4 h9 => ?_)
        obtain rfl : yl4 = kz_lz (4294967295) := h9.trans (kz_lz_c4294967295)
        refine lv_land hx hb zd_H_divideInverse_27 ?_
        refine lv_topl (fun yl5 h9 => ?_)
        obtain rfl : yl5 = kz_lz (((d2 k5 : Nat) : Int)) := h9.trans (kz_maskS (by omega))
        refine lv_lor hx hb zd_H_divideInverse_28 ?_
        refine lv_topl (fun yl6 h9 => ?_)
        obtain rfl : yl6 = kz_lz ((((c1 : Nat) : Int)) * 4294967296 + (((d2 k5 : Nat) : Int))) := h9.trans (kz_lz_or32 (by omega) (by omega) (by omega) (by omega))
        refine lv_topl (fun yl8 h9 => ?_)
        obtain ⟨n7, en7, rfl⟩ := kz_toN (e := (((c1 : Nat) : Int)) * 4294967296 + (((d2 k5 : Nat) : Int))) h9 (by omega)
        refine lv_lstore (lv' := [(6, .long (kz_lz (((n7 : Nat) : Int)))), (5, .int (nI (k5))), (3, .long (kz_lz (((c1 : Nat) : Int)))), (0, .ref h), (1, .long (kz_lz (((r0 : Nat) : Int))))]) hx hb zd_H_divideInverse_29 hl (by decide) rfl (fun ls hl => ?_)
        refine lv_aload_n hx hb zd_H_divideInverse_31 rfl (lv_at hl 3 rfl) ?_
        refine va_get (D := (dC, dI)) (ci := 2) (v := .ref inv) (C := zR_H) (T := zT_H) (N := 5) hx hb hts (fun w h => kz_c (zi_H w h)) hown hK (hro.ob hdy.2.2 (k := 0) rfl) 0 rfl rfl 1 (by decide) (hts _ (kz_c mw_71)) (fun _ h9 => h9) rfl zd_H_divideInverse_32 ?_
        refine lv_iload hx hb zd_H_divideInverse_35 (lv_at hl 1 rfl) ?_
        refine lv_lload hx hb zd_H_divideInverse_37 (lv_at hl 0 rfl) ?_
        refine lv_ldc2 (v := (65537)) hx hb hown (hts _ (kz_c mw_225)) zd_H_divideInverse_39 ?_
        refine lv_topl (fun yl9 h9 => ?_)
        obtain rfl : yl9 = kz_lz (65537) := h9.trans (kz_lz_c65537)
        refine lv_ldiv hx hb zd_H_divideInverse_42 (kz_lz_ne0 (by omega) (by omega)) ?_
        refine lv_topl (fun yl10 h9 => ?_)
        obtain rfl : yl10 = kz_lz ((((n7 : Nat) : Int)) / 65537) := h9.trans (kz_lz_divz (by omega) (by omega) (by omega) (by omega))
        refine lv_l2i hx hb zd_H_divideInverse_43 (kz_lz_i32 ((((n7 : Nat) : Int)) / 65537)) ?_
        refine va_iast hx hb hK hdy.1 hdy.2.1 hdy.2.2 0 0 rfl rfl (vp_in_nI (by omega) (by omega)) zd_H_divideInverse_44 (fun H locs hP hD hS => ?_)
        have h9 := kz_dgu d2 (k := k5) ((((((n7 : Nat) : Int)) / 65537) % 4294967296).toNat) (by omega)
        rw [h9] at hP hD
        obtain ⟨f11, ef11, hd_f11, hdy⟩ : ∃ f11 : Nat → Nat, f11 = kv_up d2 k5 ((((((n7 : Nat) : Int)) / 65537) % 4294967296).toNat) ∧ (∀ j, f11 j < 4294967296) ∧ kz_dy (dC, dI) vwCl A s.heap H locs [(inv, .inl (cI, 8, .inl (kz_dg f11)))] := ⟨_, rfl, kx_up_lt hd_d2 (by omega), hP, hD, hS⟩
        refine lv_lload hx hb zd_H_divideInverse_45 (lv_at hl 0 rfl) ?_
        refine lv_ldc2 (v := (65537)) hx hb hown (hts _ (kz_c mw_225)) zd_H_divideInverse_47 ?_
        refine lv_topl (fun yl12 h9 => ?_)
        obtain rfl : yl12 = kz_lz (65537) := h9.trans (kz_lz_c65537)
        refine lv_lrem hx hb zd_H_divideInverse_50 (kz_lz_ne0 (by omega) (by omega)) ?_
        refine lv_topl (fun yl13 h9 => ?_)
        obtain rfl : yl13 = kz_lz ((((n7 : Nat) : Int)) % 65537) := h9.trans (kz_lz_remz (by omega) (by omega) (by omega) (by omega))
        refine lv_topl (fun yl15 h9 => ?_)
        obtain ⟨n14, en14, rfl⟩ := kz_toN (e := (((n7 : Nat) : Int)) % 65537) h9 (by omega)
        refine lv_lstore_n (lv' := [(3, .long (kz_lz (((n14 : Nat) : Int)))), (6, .long (kz_lz (((n7 : Nat) : Int)))), (5, .int (nI (k5))), (0, .ref h), (1, .long (kz_lz (((r0 : Nat) : Int))))]) hx hb zd_H_divideInverse_51 rfl hl (by decide) rfl (fun ls hl => ?_)
        refine lv_iinc (v := (nI (k5 + 1))) (lv' := [(5, .int (nI (k5 + 1))), (3, .long (kz_lz (((n14 : Nat) : Int)))), (6, .long (kz_lz (((n7 : Nat) : Int)))), (0, .ref h), (1, .long (kz_lz (((r0 : Nat) : Int))))]) hx hb zd_H_divideInverse_52 hl (k := 2) rfl (nI_1 _) (by decide) rfl (fun ls hl => ?_)
        refine lv_goto (tgt := 5) hx hb zd_H_divideInverse_55 (by decide) ?_
        have hi9_hrl16 : n14 < 65537 := by omega
        have hi9_hI17 : r0 * 4294967296 ^ (k5 + 1) + kx_pre ginv (k5 + 1) = 65537 * kx_pre f11 (k5 + 1) + n14 := by rw [ef11]; have h7 : ((((n7 : Nat) : Int) / 65537) % 4294967296).toNat = n7 / 65537 := (by omega); have h6 : n14 = n7 % 65537 := (by omega); rw [h7, h6]; exact kx_divStep (by have h5 := hhi k5 (Nat.le_refl _); omega) hI
        have hi9_hhi18 : ∀ j, k5 + 1 ≤ j → f11 j = ginv j := by intro j hj; rw [ef11, kv_up_ne _ _ (by omega)]; exact hhi j (by omega)
        exact ih5 (k5 + 1) (n14) f11 _ _ _ (by omega) (by omega) hd_f11 hi9_hrl16 hi9_hI17 hi9_hhi18 hdy (lv_sub hl [0, 1, 3, 4] rfl)
  have hi9_hrl19 : r0 < 65537 := by omega
  have hi9_hI20 : r0 * 4294967296 ^ (0) + kx_pre ginv (0) = 65537 * kx_pre ginv (0) + r0 := by show r0 * 4294967296 ^ 0 + 0 = 65537 * 0 + r0; omega
  have hi9_hhi21 : ∀ j, 0 ≤ j → ginv j = ginv j := by exact fun _ _ => rfl
  exact lp5 (8 - 0 + 1) 0 (r0) ginv _ _ _ (by omega) (by omega) hd_ginv hi9_hrl19 hi9_hI20 hi9_hhi21 hdy (lv_sub hl [0, 1, 2, 3] rfl)

set_option maxHeartbeats 4000000 in
set_option maxRecDepth 100000 in
/-- KeyMeeting$Host.invert()Z -/
theorem c_E_invert (l : Launch) (dC : Nat → ClassId) (dI : Nat → Nat → Nat) (cI cAA cB cL : ClassId) (inv h pr hp hq hw16 : Nat) (ginv : Nat → Nat) (sz : Nat) (hd_ginv : ∀ j, ginv j < 4294967296) : Met l zy_H_invert zw_H_invert { frames := 1, cells := 0, slots := 0, locals := 27 } (kz_Pc (dC, dI) vwCl [(cI, .int), (cAA, .array .int), (cB, .byte), (cL, .long)] [] [] [.ref h] [(inv, .inl (cI, 8, .inl (kz_dg ginv)))] [(h, .inr (2, [.ref pr, .ref inv, .ref hp, .ref hq, .ref hw16]))] sz) (va_Qi (fun (r : Int32) (u : (Nat → Nat)) => (∀ j, u j < 4294967296) ∧ (r = 0 ∨ r = 1) ∧ ((r = 0 ∧ kx_V 8 ginv % 65537 = 0) ∨ (r = 1 ∧ kx_V 8 ginv % 65537 ≠ 0 ∧ ∃ q : Nat, q < 65537 ∧ (1 + q * kx_V 8 ginv) % 65537 = 0 ∧ kx_V 8 u = (1 + q * kx_V 8 ginv) / 65537)) ∧ True) (kz_B (dC, dI) vwCl (va_A [(inv, .inl (cI, 8, .inl (kz_dg ginv)))] sz) (fun u : (Nat → Nat) => [(inv, .inl (cI, 8, .inl (kz_dg u)))])) (va_A [(inv, .inl (cI, 8, .inl (kz_dg ginv)))] sz)) 0 0 (va_A [(inv, .inl (cI, 8, .inl (kz_dg ginv)))] sz) := by
  refine kz_met (y := zy_H_invert) (ws := zw_H_invert) (av := [.ref h]) (sz := sz) (Qc := fun A => va_Qi (fun (r : Int32) (u : (Nat → Nat)) => (∀ j, u j < 4294967296) ∧ (r = 0 ∨ r = 1) ∧ ((r = 0 ∧ kx_V 8 ginv % 65537 = 0) ∨ (r = 1 ∧ kx_V 8 ginv % 65537 ≠ 0 ∧ ∃ q : Nat, q < 65537 ∧ (1 + q * kx_V 8 ginv) % 65537 = 0 ∧ kx_V 8 u = (1 + q * kx_V 8 ginv) / 65537)) ∧ True) (kz_B (dC, dI) vwCl A (fun u : (Nat → Nat) => [(inv, .inl (cI, 8, .inl (kz_dg u)))])) A) (cc := zc_H_invert) (maxL := 10) (ret := some .boolean) (by decide) rfl (Nat.le_of_ble_eq_true rfl) ?_
  intro p e s m below meth c A ls F hA hdy hK hro hZ hN hl
  obtain ⟨hx, hb, hml, hr, hown, hlocks, hts, hnm⟩ := id F
  have hl : lv_has ls 10 [(0, .ref h)] := hl
  refine lv_aload_n hx hb zd_H_invert_0 rfl (lv_at hl 0 rfl) ?_
  refine kz_calll (wk := [(inv, .inl (cI, 8, .inl (kz_dg ginv)))]) (va_runV (As := []) (rest := []) ⟨hx, hb, hml, hown, hts⟩ (c_E_restOfInverse l dC dI cI cAA cB cL h pr inv hp hq hw16 ginv _ hd_ginv) (cwV 0 hts (kz_g (kz_mc mw_220 (kz_mc mw_222 (kz_mc mw_4 (kz_mc mw_40 kz_mn)))) mw_223) rfl rfl rfl (by decide +kernel) ⟨Nat.le_of_ble_eq_true rfl, Nat.le_of_ble_eq_true rfl⟩) (kz_preVr hdy hA hK hro hZ hN [] (by decide) rfl [(true, 0), (false, 0)] rfl (by decide) [0, 1, 2, 3] rfl (fun _ h => by cases h) (fun _ h => by cases h) rfl (ci := 2) (q0 := 0) rfl rfl rfl) rfl rfl hl.1 rfl (lv_room (Nat.le_of_ble_eq_true rfl)) zd_H_invert_1 ⟨Nat.le_of_ble_eq_true rfl, Nat.le_of_ble_eq_true rfl⟩) hdy hA [] [0] rfl rfl (by decide) (by decide) (fun r u H locs hw hdy => ?_)
  try dsimp only at hw
  obtain ⟨⟨b1, hb1, rfl⟩, -⟩ := hw
  have hdy : kz_dy (dC, dI) vwCl A s.heap H locs [(inv, .inl (cI, 8, .inl (kz_dg ginv)))] := hdy.sub [0] (by decide) rfl
  refine lv_lstore_n (lv' := [(1, .long (kz_lz (((b1 : Nat) : Int)))), (0, .ref h)]) hx hb zd_H_invert_4 rfl hl (by decide) rfl (fun ls hl => ?_)
  refine lv_lload_n hx hb zd_H_invert_5 rfl (lv_at hl 0 rfl) ?_
  refine lv_lconst (v := 0) hx hb zd_H_invert_6 (by decide) ?_
  refine lv_topl (fun yl2 h9 => ?_)
  obtain rfl : yl2 = kz_lz (0) := h9.trans (kz_lz_c0)
  refine kz_lne (tgt := 13) hx hb zd_H_invert_7 zd_H_invert_8 (by decide) (fun hc8 => ?_) (fun hc8 => ?_)
  · have hc8 : ¬ (((b1 : Nat) : Int)) = 0 := fun h9 => hc8 ((kz_lz_eq (by omega) (by omega) (by omega) (by omega)).mpr h9)
    refine lv_ldc2 (v := (65537)) hx hb hown (hts _ (kz_c mw_225)) zd_H_invert_13 ?_
    refine lv_topl (fun yl3 h9 => ?_)
    obtain rfl : yl3 = kz_lz (65537) := h9.trans (kz_lz_c65537)
    refine lv_lload_n hx hb zd_H_invert_16 rfl (lv_at hl 0 rfl) ?_
    refine kz_calll (wk := [(inv, .inl (cI, 8, .inl (kz_dg ginv)))]) (va_runS (As := [.long (kz_lz (((b1 : Nat) : Int)))]) (rest := [.long (kz_lz (65537))]) ⟨hx, hb, hml, hown, hts⟩ (c_E_inverseOfSmall l dC dI cI cAA cB cL b1 _ (by first | omega | assumption) (by first | omega | assumption)) (va_cwS 1 hts (kz_g (kz_mc mw_226 (kz_mc mw_227 (kz_mc mw_40 kz_mn))) mw_228) rfl rfl rfl (by decide +kernel) ⟨Nat.le_of_ble_eq_true rfl, Nat.le_of_ble_eq_true rfl⟩) (kz_preS hdy hA hK hro hZ hN [] (by decide) rfl [] rfl (by decide) [0, 1, 2, 3] rfl (fun _ h => by cases h) (fun _ h => by cases h) rfl) rfl rfl hl.1 rfl (lv_room (Nat.le_of_ble_eq_true rfl)) zd_H_invert_17 ⟨Nat.le_of_ble_eq_true rfl, Nat.le_of_ble_eq_true rfl⟩) hdy hA [] [0] rfl rfl (by decide) (by decide) (fun r u H locs hw hdy => ?_)
    try dsimp only at hw
    obtain ⟨⟨b4, hb4, rfl⟩, -⟩ := hw
    have hdy : kz_dy (dC, dI) vwCl A s.heap H locs [(inv, .inl (cI, 8, .inl (kz_dg ginv)))] := hdy.sub [0] (by decide) rfl
    obtain ⟨hiL, hiE⟩ := hb4
    have hi0 : b4 ≠ 0 := (fun h => by rw [h, Nat.zero_mul] at hiE; omega)
    refine lv_lsub hx hb zd_H_invert_20 ?_
    refine lv_topl (fun yl5 h9 => ?_)
    obtain rfl : yl5 = kz_lz (65537 - (((b4 : Nat) : Int))) := h9.trans (kz_lz_sub _ _)
    refine lv_topl (fun yl7 h9 => ?_)
    obtain ⟨n6, en6, rfl⟩ := kz_toN (e := 65537 - (((b4 : Nat) : Int))) h9 (by omega)
    refine lv_lstore_n (lv' := [(3, .long (kz_lz (((n6 : Nat) : Int)))), (1, .long (kz_lz (((b1 : Nat) : Int)))), (0, .ref h)]) hx hb zd_H_invert_21 rfl hl (by decide) rfl (fun ls hl => ?_)
    refine lv_lconst (v := 1) hx hb zd_H_invert_22 (by decide) ?_
    refine lv_topl (fun yl8 h9 => ?_)
    obtain rfl : yl8 = kz_lz (1) := h9.trans (kz_lz_c1)
    refine lv_topl (fun yl10 h9 => ?_)
    obtain ⟨n9, en9, rfl⟩ := kz_toN (e := 1) h9 (by omega)
    refine lv_lstore (lv' := [(5, .long (kz_lz (((n9 : Nat) : Int)))), (3, .long (kz_lz (((n6 : Nat) : Int)))), (1, .long (kz_lz (((b1 : Nat) : Int)))), (0, .ref h)]) hx hb zd_H_invert_23 hl (by decide) rfl (fun ls hl => ?_)
    refine lv_bipush (v := (nI (7))) hx hb zd_H_invert_25 (by decide) ?_
    refine lv_istore (lv' := [(7, .int (nI (7))), (5, .long (kz_lz (((n9 : Nat) : Int)))), (3, .long (kz_lz (((n6 : Nat) : Int)))), (1, .long (kz_lz (((b1 : Nat) : Int)))), (0, .ref h)]) hx hb zd_H_invert_27 hl (by decide) rfl (fun ls hl => ?_)
    have lp29 : ∀ (k29 : Nat) (c11 : Nat) (d12 : Nat → Nat) (H : Heap) (locs : List Loc) (ls : Array Slot), k29 ≤ 8 → (∀ j, d12 j < 4294967296) → (c11 ≤ 65536) → (kx_val (kx_rv 8 d12) (8 - (k29)) + c11 * 4294967296 ^ (8 - (k29)) = n6 * kx_val (kx_rv 8 ginv) (8 - (k29)) + 1) → (∀ j, j < k29 → d12 j = ginv j) → kz_dy (dC, dI) vwCl A s.heap H locs [(inv, .inl (cI, 8, .inl (kz_dg d12)))] → lv_has ls 10 [(7, .int (nI k29 - 1)), (5, .long (kz_lz (((c11 : Nat) : Int)))), (3, .long (kz_lz (((n6 : Nat) : Int)))), (1, .long (kz_lz (((b1 : Nat) : Int)))), (0, .ref h)] → W p l e { frames := 1, cells := 0, slots := 0, locals := 27 } s m ([.ref h] : List Value).toArray below meth c H locs 0 0 (MQ below (va_Qi (fun (r : Int32) (u : (Nat → Nat)) => (∀ j, u j < 4294967296) ∧ (r = 0 ∨ r = 1) ∧ ((r = 0 ∧ kx_V 8 ginv % 65537 = 0) ∨ (r = 1 ∧ kx_V 8 ginv % 65537 ≠ 0 ∧ ∃ q : Nat, q < 65537 ∧ (1 + q * kx_V 8 ginv) % 65537 = 0 ∧ kx_V 8 u = (1 + q * kx_V 8 ginv) / 65537)) ∧ True) (kz_B (dC, dI) vwCl A (fun u : (Nat → Nat) => [(inv, .inl (cI, 8, .inl (kz_dg u)))])) A) ([.ref h] : List Value).toArray s 0 0 A) (F0 m 29 ls []) := by
      intro k29
      induction k29 with
      | zero =>
        intro c11 d12 H locs ls hi29 hd_d12 hc hI hlo hdy hl
        refine lv_iload hx hb zd_H_invert_29 (lv_at hl 0 rfl) ?_
        refine lv_if_lt (tgt := 76) hx hb zd_H_invert_31 (by decide) (fun hc31 => ?_) (fun hc31 => ?_)
        · refine lv_aload_n hx hb zd_H_invert_76 rfl (lv_at hl 4 rfl) ?_
          refine lv_lload hx hb zd_H_invert_77 (lv_at hl 1 rfl) ?_
          refine kz_callv (wk := []) (va_runV (As := [.long (kz_lz (((c11 : Nat) : Int)))]) (rest := []) ⟨hx, hb, hml, hown, hts⟩ (c_E_divideInverse l dC dI cI cAA cB cL inv h pr hp hq hw16 d12 c11 _ hd_d12 (by first | omega | assumption)) (cwV 1 hts (kz_g (kz_mc mw_229 (kz_mc mw_231 (kz_mc mw_5 (kz_mc mw_40 kz_mn)))) mw_232) rfl rfl rfl (by decide +kernel) ⟨Nat.le_of_ble_eq_true rfl, Nat.le_of_ble_eq_true rfl⟩) (kz_preVr hdy hA hK hro hZ hN [0] (by decide) rfl [(true, 0)] rfl (by decide) [0, 1, 2, 3] rfl (fun _ h => by cases h) (fun _ h => by cases h) rfl (ci := 2) (q0 := 0) rfl rfl rfl) rfl rfl hl.1 rfl (lv_room (Nat.le_of_ble_eq_true rfl)) zd_H_invert_79 ⟨Nat.le_of_ble_eq_true rfl, Nat.le_of_ble_eq_true rfl⟩) hdy hA [0] [] rfl rfl (by decide) (by decide) (fun u H locs hw hdy => ?_)
          obtain ⟨d13, rfl⟩ : ∃ z, z = u := ⟨_, rfl⟩
          try dsimp only at hw
          obtain ⟨hd_d13, q14, -⟩ := hw
          have hdy : kz_dy (dC, dI) vwCl A s.heap H locs [(inv, .inl (cI, 8, .inl (kz_dg d13)))] := hdy.sub [0] (by decide) rfl
          refine lv_iconst (v := (nI (1))) hx hb zd_H_invert_82 (by decide) ?_
          exact kz_zret F (d13) hdy (by first | exact Or.inl rfl | exact Or.inr rfl | assumption) (⟨hd_d13, by first | exact Or.inl rfl | exact Or.inr rfl | assumption, by exact Or.inr ⟨rfl, by omega, kx_invEnd hiL (by rw [← hb1]; exact hiE) (by omega) hI q14⟩, trivial⟩) zd_H_invert_83
        · exact absurd (by decide) hc31
      | succ k29 ih29 =>
        intro c11 d12 H locs ls hi29 hd_d12 hc hI hlo hdy hl
        rw [nI_pred] at hl
        refine lv_iload hx hb zd_H_invert_29 (lv_at hl 0 rfl) ?_
        refine lv_if_lt (tgt := 76) hx hb zd_H_invert_31 (by decide) (fun hc31 => ?_) (fun hc31 => ?_)
        · exact absurd hc31 (nI_pos (by omega))
        · have hlk := hlo k29 (by omega)
          obtain ⟨m9, hm7⟩ : ∃ m : Nat, m = n6 * ginv k29 := ⟨_, rfl⟩
          have hm9 : m9 ≤ 65536 * 4294967295 := (by rw [hm7]; exact Nat.mul_le_mul (by omega) (by have h9 := hd_ginv k29; omega))
          have hm8 : ((n6 : Nat) : Int) * ((d12 k29 : Nat) : Int) = (m9 : Int) := (by rw [hlk, hm7, Int.natCast_mul])
          refine lv_lload_n hx hb zd_H_invert_34 rfl (lv_at hl 2 rfl) ?_
          refine lv_aload_n hx hb zd_H_invert_35 rfl (lv_at hl 4 rfl) ?_
          refine va_get (D := (dC, dI)) (ci := 2) (v := .ref inv) (C := zR_H) (T := zT_H) (N := 5) hx hb hts (fun w h => kz_c (zi_H w h)) hown hK (hro.ob hdy.2.2 (k := 0) rfl) 0 rfl rfl 1 (by decide) (hts _ (kz_c mw_71)) (fun _ h9 => h9) rfl zd_H_invert_36 ?_
          refine lv_iload hx hb zd_H_invert_39 (lv_at hl 0 rfl) ?_
          refine va_iald hx hb hK hdy.1 0 0 rfl rfl (vp_in_nI (by omega) (by omega)) zd_H_invert_41 ?_
          refine lv_topi (fun x15 h9 => ?_)
          obtain rfl : x15 = nI (d12 k29) := h9.trans (kz_dgl d12 (by omega))
          have hbx15 := hd_d12 k29
          refine lv_i2l hx hb zd_H_invert_42 rfl ?_
          refine lv_ldc2 (v := (4294967295)) hx hb hown (hts _ (kz_c mw_224)) zd_H_invert_43 ?_
          refine lv_topl (fun yl16 h9 => ?_)
          obtain rfl : yl16 = kz_lz (4294967295) := h9.trans (kz_lz_c4294967295)
          refine lv_land hx hb zd_H_invert_46 ?_
          refine lv_topl (fun yl17 h9 => ?_)
          obtain rfl : yl17 = kz_lz (((d12 k29 : Nat) : Int)) := h9.trans (kz_maskS (by omega))
          refine lv_lmul hx hb zd_H_invert_47 ?_
          refine lv_topl (fun yl18 h9 => ?_)
          obtain rfl : yl18 = kz_lz ((((n6 : Nat) : Int)) * (((d12 k29 : Nat) : Int))) := h9.trans (kz_lz_mul _ _)
          refine lv_lload hx hb zd_H_invert_48 (lv_at hl 1 rfl) ?_
          refine lv_ladd hx hb zd_H_invert_50 ?_
          refine lv_topl (fun yl19 h9 => ?_)
          obtain rfl : yl19 = kz_lz (((((n6 : Nat) : Int)) * (((d12 k29 : Nat) : Int))) + (((c11 : Nat) : Int))) := h9.trans (kz_lz_add _ _)
          refine lv_topl (fun yl21 h9 => ?_)
          obtain ⟨n20, en20, rfl⟩ := kz_toN (e := ((((n6 : Nat) : Int)) * (((d12 k29 : Nat) : Int))) + (((c11 : Nat) : Int))) h9 (by omega)
          refine lv_lstore (lv' := [(8, .long (kz_lz (((n20 : Nat) : Int)))), (7, .int (nI (k29))), (5, .long (kz_lz (((c11 : Nat) : Int)))), (3, .long (kz_lz (((n6 : Nat) : Int)))), (1, .long (kz_lz (((b1 : Nat) : Int)))), (0, .ref h)]) hx hb zd_H_invert_51 hl (by decide) rfl (fun ls hl => ?_)
          refine lv_aload_n hx hb zd_H_invert_53 rfl (lv_at hl 5 rfl) ?_
          refine va_get (D := (dC, dI)) (ci := 2) (v := .ref inv) (C := zR_H) (T := zT_H) (N := 5) hx hb hts (fun w h => kz_c (zi_H w h)) hown hK (hro.ob hdy.2.2 (k := 0) rfl) 0 rfl rfl 1 (by decide) (hts _ (kz_c mw_71)) (fun _ h9 => h9) rfl zd_H_invert_54 ?_
          refine lv_iload hx hb zd_H_invert_57 (lv_at hl 1 rfl) ?_
          refine lv_lload hx hb zd_H_invert_59 (lv_at hl 0 rfl) ?_
          refine lv_l2i hx hb zd_H_invert_61 (kz_lz_i32 (((n20 : Nat) : Int))) ?_
          refine va_iast hx hb hK hdy.1 hdy.2.1 hdy.2.2 0 0 rfl rfl (vp_in_nI (by omega) (by omega)) zd_H_invert_62 (fun H locs hP hD hS => ?_)
          have h9 := kz_dgu d12 (k := k29) (((((n20 : Nat) : Int)) % 4294967296).toNat) (by omega)
          rw [h9] at hP hD
          obtain ⟨f22, ef22, hd_f22, hdy⟩ : ∃ f22 : Nat → Nat, f22 = kv_up d12 k29 (((((n20 : Nat) : Int)) % 4294967296).toNat) ∧ (∀ j, f22 j < 4294967296) ∧ kz_dy (dC, dI) vwCl A s.heap H locs [(inv, .inl (cI, 8, .inl (kz_dg f22)))] := ⟨_, rfl, kx_up_lt hd_d12 (by omega), hP, hD, hS⟩
          refine lv_lload hx hb zd_H_invert_63 (lv_at hl 0 rfl) ?_
          refine lv_bipush (v := (nI (32))) hx hb zd_H_invert_65 (by decide) ?_
          refine lv_lushr hx hb zd_H_invert_67 (kz_lz_ushr32 (z := (((n20 : Nat) : Int))) (by omega) (by omega)) ?_
          refine lv_topl (fun yl24 h9 => ?_)
          obtain ⟨n23, en23, rfl⟩ := kz_toN (e := (((n20 : Nat) : Int)) / 4294967296) h9 (by omega)
          refine lv_lstore (lv' := [(5, .long (kz_lz (((n23 : Nat) : Int)))), (8, .long (kz_lz (((n20 : Nat) : Int)))), (7, .int (nI (k29))), (3, .long (kz_lz (((n6 : Nat) : Int)))), (1, .long (kz_lz (((b1 : Nat) : Int)))), (0, .ref h)]) hx hb zd_H_invert_68 hl (by decide) rfl (fun ls hl => ?_)
          refine lv_iinc (v := (nI (k29) - 1)) (lv' := [(7, .int (nI (k29) - 1)), (5, .long (kz_lz (((n23 : Nat) : Int)))), (8, .long (kz_lz (((n20 : Nat) : Int)))), (3, .long (kz_lz (((n6 : Nat) : Int)))), (1, .long (kz_lz (((b1 : Nat) : Int)))), (0, .ref h)]) hx hb zd_H_invert_70 hl (k := 2) rfl (kz_m1 _) (by decide) rfl (fun ls hl => ?_)
          refine lv_goto (tgt := 29) hx hb zd_H_invert_73 (by decide) ?_
          have hi9_hc25 : n23 ≤ 65536 := by omega
          have hi9_hI26 : kx_val (kx_rv 8 f22) (8 - (k29)) + n23 * 4294967296 ^ (8 - (k29)) = n6 * kx_val (kx_rv 8 ginv) (8 - (k29)) + 1 := by rw [ef22]; have h7 : (((n20 : Nat) : Int) % 4294967296).toNat = n20 % 4294967296 := (by omega); have h6 : n23 = n20 / 4294967296 := (by omega); rw [h7, h6]; exact kx_mul1 (by omega) (by rw [← hm7]; omega) hI
          have hi9_hlo27 : ∀ j, j < k29 → f22 j = ginv j := by intro j hj; rw [ef22, kv_up_ne _ _ (by omega)]; exact hlo j (by omega)
          exact ih29 (n23) f22 _ _ _ (by omega) hd_f22 hi9_hc25 hi9_hI26 hi9_hlo27 hdy (lv_sub hl [0, 1, 3, 4, 5] rfl)
    have hi9_hc28 : n9 ≤ 65536 := by omega
    have hi9_hI29 : kx_val (kx_rv 8 ginv) (8 - (8)) + n9 * 4294967296 ^ (8 - (8)) = n6 * kx_val (kx_rv 8 ginv) (8 - (8)) + 1 := by have h0 : n9 = 1 := (by omega); rw [h0]; show 0 + 1 * 4294967296 ^ 0 = _ * 0 + 1; omega
    have hi9_hlo30 : ∀ j, j < 8 → ginv j = ginv j := by exact fun _ _ => rfl
    exact lp29 8 (n9) ginv _ _ _ (by omega) hd_ginv hi9_hc28 hi9_hI29 hi9_hlo30 hdy (lv_sub hl [0, 1, 2, 3, 4] rfl)
  · have hc8 : (((b1 : Nat) : Int)) = 0 := (kz_lz_eq (by omega) (by omega) (by omega) (by omega)).mp hc8
    refine lv_iconst (v := (nI (0))) hx hb zd_H_invert_11 (by decide) ?_
    exact kz_zret F (ginv) hdy (by first | exact Or.inl rfl | exact Or.inr rfl | assumption) (⟨hd_ginv, by first | exact Or.inl rfl | exact Or.inr rfl | assumption, by exact Or.inl ⟨rfl, by omega⟩, trivial⟩) zd_H_invert_12

set_option maxHeartbeats 4000000 in
set_option maxRecDepth 100000 in
/-- KeyMeeting$Host.take([I[I)Z -/
theorem c_E_take (l : Launch) (dC : Nat → ClassId) (dI : Nat → Nat → Nat) (cI cAA cB cL : ClassId) (pr inv hp hq hw16 h a b : Nat) (gpr : Nat → Nat) (ginv : Nat → Nat) (ghp : Nat → Nat) (ghq : Nat → Nat) (ghw16 : Nat → Nat) (ga : Nat → Nat) (gb : Nat → Nat) (sz : Nat) (hd_gpr : ∀ j, gpr j < 4294967296) (hd_ginv : ∀ j, ginv j < 4294967296) (hd_ghp : ∀ j, ghp j < 4294967296) (hd_ghq : ∀ j, ghq j < 4294967296) (hd_ghw16 : ∀ j, ghw16 j < 4294967296) (hd_ga : ∀ j, ga j < 4294967296) (hd_gb : ∀ j, gb j < 4294967296) (hzp : ∀ j, j < 4 → ghp j = 0) (hzq : ∀ j, j < 4 → ghq j = 0) : Met l zy_H_take zw_H_take { frames := 3, cells := 0, slots := 0, locals := 73 } (kz_Pc (dC, dI) vwCl [(cI, .int), (cAA, .array .int), (cB, .byte), (cL, .long)] [] [] [.ref h, .ref a, .ref b] [(pr, .inl (cI, 8, .inl (kz_dg gpr))), (inv, .inl (cI, 8, .inl (kz_dg ginv))), (hp, .inl (cI, 8, .inl (kz_dg ghp))), (hq, .inl (cI, 8, .inl (kz_dg ghq))), (hw16, .inl (cI, 16, .inl (kz_dg ghw16)))] [(h, .inr (2, [.ref pr, .ref inv, .ref hp, .ref hq, .ref hw16])), (a, .inl (cI, 8, .inl (kz_dg ga))), (b, .inl (cI, 8, .inl (kz_dg gb)))] sz) (va_Qi (fun (r : Int32) (u : (Nat → Nat) × (Nat → Nat) × (Nat → Nat) × (Nat → Nat) × (Nat → Nat)) => (∀ j, u.1 j < 4294967296) ∧ (∀ j, u.2.1 j < 4294967296) ∧ (∀ j, u.2.2.1 j < 4294967296) ∧ (∀ j, u.2.2.2.1 j < 4294967296) ∧ (∀ j, u.2.2.2.2 j < 4294967296) ∧ (r = 0 ∨ r = 1) ∧ (∀ j, j < 4 → u.2.2.1 j = 0) ∧ (∀ j, j < 4 → u.2.2.2.1 j = 0) ∧ ((r = 0 ∧ ¬ kx_fit (kx_L ga) (kx_L gb)) ∨ (r = 1 ∧ kx_fit (kx_L ga) (kx_L gb) ∧ kx_isD (kx_L ga) (kx_L gb) (kx_V 8 u.2.1))) ∧ True) (kz_B (dC, dI) vwCl (va_A [(pr, .inl (cI, 8, .inl (kz_dg gpr))), (inv, .inl (cI, 8, .inl (kz_dg ginv))), (hp, .inl (cI, 8, .inl (kz_dg ghp))), (hq, .inl (cI, 8, .inl (kz_dg ghq))), (hw16, .inl (cI, 16, .inl (kz_dg ghw16)))] sz) (fun u : (Nat → Nat) × (Nat → Nat) × (Nat → Nat) × (Nat → Nat) × (Nat → Nat) => [(pr, .inl (cI, 8, .inl (kz_dg u.1))), (inv, .inl (cI, 8, .inl (kz_dg u.2.1))), (hp, .inl (cI, 8, .inl (kz_dg u.2.2.1))), (hq, .inl (cI, 8, .inl (kz_dg u.2.2.2.1))), (hw16, .inl (cI, 16, .inl (kz_dg u.2.2.2.2)))])) (va_A [(pr, .inl (cI, 8, .inl (kz_dg gpr))), (inv, .inl (cI, 8, .inl (kz_dg ginv))), (hp, .inl (cI, 8, .inl (kz_dg ghp))), (hq, .inl (cI, 8, .inl (kz_dg ghq))), (hw16, .inl (cI, 16, .inl (kz_dg ghw16)))] sz)) 0 0 (va_A [(pr, .inl (cI, 8, .inl (kz_dg gpr))), (inv, .inl (cI, 8, .inl (kz_dg ginv))), (hp, .inl (cI, 8, .inl (kz_dg ghp))), (hq, .inl (cI, 8, .inl (kz_dg ghq))), (hw16, .inl (cI, 16, .inl (kz_dg ghw16)))] sz) := by
  refine kz_met (y := zy_H_take) (ws := zw_H_take) (av := [.ref h, .ref a, .ref b]) (sz := sz) (Qc := fun A => va_Qi (fun (r : Int32) (u : (Nat → Nat) × (Nat → Nat) × (Nat → Nat) × (Nat → Nat) × (Nat → Nat)) => (∀ j, u.1 j < 4294967296) ∧ (∀ j, u.2.1 j < 4294967296) ∧ (∀ j, u.2.2.1 j < 4294967296) ∧ (∀ j, u.2.2.2.1 j < 4294967296) ∧ (∀ j, u.2.2.2.2 j < 4294967296) ∧ (r = 0 ∨ r = 1) ∧ (∀ j, j < 4 → u.2.2.1 j = 0) ∧ (∀ j, j < 4 → u.2.2.2.1 j = 0) ∧ ((r = 0 ∧ ¬ kx_fit (kx_L ga) (kx_L gb)) ∨ (r = 1 ∧ kx_fit (kx_L ga) (kx_L gb) ∧ kx_isD (kx_L ga) (kx_L gb) (kx_V 8 u.2.1))) ∧ True) (kz_B (dC, dI) vwCl A (fun u : (Nat → Nat) × (Nat → Nat) × (Nat → Nat) × (Nat → Nat) × (Nat → Nat) => [(pr, .inl (cI, 8, .inl (kz_dg u.1))), (inv, .inl (cI, 8, .inl (kz_dg u.2.1))), (hp, .inl (cI, 8, .inl (kz_dg u.2.2.1))), (hq, .inl (cI, 8, .inl (kz_dg u.2.2.2.1))), (hw16, .inl (cI, 16, .inl (kz_dg u.2.2.2.2)))])) A) (cc := zc_H_take) (maxL := 3) (ret := some .boolean) (by decide) rfl (Nat.le_of_ble_eq_true rfl) ?_
  intro p e s m below meth c A ls F hA hdy hK hro hZ hN hl
  obtain ⟨hx, hb, hml, hr, hown, hlocks, hts, hnm⟩ := id F
  have hl : lv_has ls 3 [(0, .ref h), (1, .ref a), (2, .ref b)] := hl
  refine lv_aload_n hx hb zd_H_take_0 rfl (lv_at hl 1 rfl) ?_
  refine lv_aload_n hx hb zd_H_take_1 rfl (lv_at hl 0 rfl) ?_
  refine va_get (D := (dC, dI)) (ci := 2) (v := .ref hp) (C := zR_H) (T := zT_H) (N := 5) hx hb hts (fun w h => kz_c (zi_H w h)) hown hK (hro.ob hdy.2.2 (k := 0) rfl) 0 rfl rfl 2 (by decide) (hts _ (kz_c mw_73)) (fun _ h9 => h9) rfl zd_H_take_2 ?_
  refine kz_callv (wk := [(pr, .inl (cI, 8, .inl (kz_dg gpr))), (inv, .inl (cI, 8, .inl (kz_dg ginv))), (hq, .inl (cI, 8, .inl (kz_dg ghq))), (hw16, .inl (cI, 16, .inl (kz_dg ghw16)))]) (va_runS (As := [.ref a, .ref hp]) (rest := []) ⟨hx, hb, hml, hown, hts⟩ (c_E_takeLowHalf l dC dI cI cAA cB cL hp a ghp ga _ hd_ghp hd_ga) (va_cwS 2 hts (kz_g (kz_mc mw_195 (kz_mc mw_196 (kz_mc mw_40 kz_mn))) mw_197) rfl rfl rfl (by decide +kernel) ⟨Nat.le_of_ble_eq_true rfl, Nat.le_of_ble_eq_true rfl⟩) (kz_preS hdy hA hK hro hZ hN [2] (by decide) rfl [(true, 1)] rfl (by decide) [0, 1, 2, 3] rfl (fun _ h => by cases h) (fun _ h => by cases h) rfl) rfl rfl hl.1 rfl (lv_room (Nat.le_of_ble_eq_true rfl)) zd_H_take_5 ⟨Nat.le_of_ble_eq_true rfl, Nat.le_of_ble_eq_true rfl⟩) hdy hA [2] [0, 1, 3, 4] rfl rfl (by decide) (by decide) (fun u H locs hw hdy => ?_)
  obtain ⟨d1, rfl⟩ : ∃ z, z = u := ⟨_, rfl⟩
  try dsimp only at hw
  obtain ⟨hd_d1, q2, q3, -⟩ := hw
  have hdy : kz_dy (dC, dI) vwCl A s.heap H locs [(pr, .inl (cI, 8, .inl (kz_dg gpr))), (inv, .inl (cI, 8, .inl (kz_dg ginv))), (hp, .inl (cI, 8, .inl (kz_dg d1))), (hq, .inl (cI, 8, .inl (kz_dg ghq))), (hw16, .inl (cI, 16, .inl (kz_dg ghw16)))] := hdy.sub [0, 1, 4, 2, 3] (by decide) rfl
  refine lv_aload_n hx hb zd_H_take_8 rfl (lv_at hl 2 rfl) ?_
  refine lv_aload_n hx hb zd_H_take_9 rfl (lv_at hl 0 rfl) ?_
  refine va_get (D := (dC, dI)) (ci := 2) (v := .ref hq) (C := zR_H) (T := zT_H) (N := 5) hx hb hts (fun w h => kz_c (zi_H w h)) hown hK (hro.ob hdy.2.2 (k := 0) rfl) 0 rfl rfl 3 (by decide) (hts _ (kz_c mw_74)) (fun _ h9 => h9) rfl zd_H_take_10 ?_
  refine kz_callv (wk := [(pr, .inl (cI, 8, .inl (kz_dg gpr))), (inv, .inl (cI, 8, .inl (kz_dg ginv))), (hp, .inl (cI, 8, .inl (kz_dg d1))), (hw16, .inl (cI, 16, .inl (kz_dg ghw16)))]) (va_runS (As := [.ref b, .ref hq]) (rest := []) ⟨hx, hb, hml, hown, hts⟩ (c_E_takeLowHalf l dC dI cI cAA cB cL hq b ghq gb _ hd_ghq hd_gb) (va_cwS 2 hts (kz_g (kz_mc mw_195 (kz_mc mw_196 (kz_mc mw_40 kz_mn))) mw_197) rfl rfl rfl (by decide +kernel) ⟨Nat.le_of_ble_eq_true rfl, Nat.le_of_ble_eq_true rfl⟩) (kz_preS hdy hA hK hro hZ hN [3] (by decide) rfl [(true, 2)] rfl (by decide) [0, 1, 2, 3] rfl (fun _ h => by cases h) (fun _ h => by cases h) rfl) rfl rfl hl.1 rfl (lv_room (Nat.le_of_ble_eq_true rfl)) zd_H_take_13 ⟨Nat.le_of_ble_eq_true rfl, Nat.le_of_ble_eq_true rfl⟩) hdy hA [3] [0, 1, 2, 4] rfl rfl (by decide) (by decide) (fun u H locs hw hdy => ?_)
  obtain ⟨d4, rfl⟩ : ∃ z, z = u := ⟨_, rfl⟩
  try dsimp only at hw
  obtain ⟨hd_d4, q5, q6, -⟩ := hw
  have hdy : kz_dy (dC, dI) vwCl A s.heap H locs [(pr, .inl (cI, 8, .inl (kz_dg gpr))), (inv, .inl (cI, 8, .inl (kz_dg ginv))), (hp, .inl (cI, 8, .inl (kz_dg d1))), (hq, .inl (cI, 8, .inl (kz_dg d4))), (hw16, .inl (cI, 16, .inl (kz_dg ghw16)))] := hdy.sub [0, 1, 2, 4, 3] (by decide) rfl
  have hVP := kx_tl q2 q3 hzp
  have hVQ := kx_tl q5 q6 hzq
  have hLP := kx_L_lt hd_ga
  have hLQ := kx_L_lt hd_gb
  have hhP := kx_hi0 (d := d1) (by omega)
  have hhQ := kx_hi0 (d := d4) (by omega)
  refine lv_aload_n hx hb zd_H_take_16 rfl (lv_at hl 0 rfl) ?_
  refine va_get (D := (dC, dI)) (ci := 2) (v := .ref hp) (C := zR_H) (T := zT_H) (N := 5) hx hb hts (fun w h => kz_c (zi_H w h)) hown hK (hro.ob hdy.2.2 (k := 0) rfl) 0 rfl rfl 2 (by decide) (hts _ (kz_c mw_73)) (fun _ h9 => h9) rfl zd_H_take_17 ?_
  refine lv_iconst (v := (nI (3))) hx hb zd_H_take_20 (by decide) ?_
  refine kz_calli (wk := [(pr, .inl (cI, 8, .inl (kz_dg gpr))), (inv, .inl (cI, 8, .inl (kz_dg ginv))), (hp, .inl (cI, 8, .inl (kz_dg d1))), (hq, .inl (cI, 8, .inl (kz_dg d4))), (hw16, .inl (cI, 16, .inl (kz_dg ghw16)))]) (va_runS (As := [.ref hp, .int (nI (3))]) (rest := []) ⟨hx, hb, hml, hown, hts⟩ (c_E_atLeast l dC dI cI cAA cB cL hp d1 _ hd_d1) (va_cwS 2 hts (kz_g (kz_mc mw_198 (kz_mc mw_178 (kz_mc mw_50 kz_mn))) mw_179) rfl rfl rfl (by decide +kernel) ⟨Nat.le_of_ble_eq_true rfl, Nat.le_of_ble_eq_true rfl⟩) (kz_preS hdy hA hK hro hZ hN [] (by decide) rfl [(false, 2)] rfl (by decide) [0, 1, 2, 3] rfl (fun _ h => by cases h) (fun _ h => by cases h) rfl) rfl rfl hl.1 rfl (lv_room (Nat.le_of_ble_eq_true rfl)) zd_H_take_21 ⟨Nat.le_of_ble_eq_true rfl, Nat.le_of_ble_eq_true rfl⟩) hdy hA [] [0, 1, 2, 3, 4] rfl rfl (by decide) (by decide) (fun r u H locs hw hdy => ?_)
  obtain ⟨r7, rfl⟩ : ∃ z, z = r := ⟨_, rfl⟩
  try dsimp only at hw
  obtain ⟨hzr7, q8, -⟩ := hw
  have hdy : kz_dy (dC, dI) vwCl A s.heap H locs [(pr, .inl (cI, 8, .inl (kz_dg gpr))), (inv, .inl (cI, 8, .inl (kz_dg ginv))), (hp, .inl (cI, 8, .inl (kz_dg d1))), (hq, .inl (cI, 8, .inl (kz_dg d4))), (hw16, .inl (cI, 16, .inl (kz_dg ghw16)))] := hdy.sub [0, 1, 2, 3, 4] (by decide) rfl
  refine lv_if_eq (tgt := 38) hx hb zd_H_take_24 (by decide) (fun hc24 => ?_) (fun hc24 => ?_)
  · refine lv_iconst (v := (nI (0))) hx hb zd_H_take_38 (by decide) ?_
    exact kz_zret F (gpr, ginv, d1, d4, ghw16) hdy (by first | exact Or.inl rfl | exact Or.inr rfl | assumption) (⟨hd_gpr, hd_ginv, hd_d1, hd_d4, hd_ghw16, by first | exact Or.inl rfl | exact Or.inr rfl | assumption, by exact hhP, by exact hhQ, by exact Or.inl ⟨rfl, fun h9 => by have h8 := h9.1; rcases q8 with h7 | h7; exact absurd (h7.1.symm.trans hc24) (by decide); omega⟩, trivial⟩) zd_H_take_39
  · have hP3 := (q8.resolve_right (fun h => hc24 h.1)).2
    refine lv_aload_n hx hb zd_H_take_27 rfl (lv_at hl 0 rfl) ?_
    refine va_get (D := (dC, dI)) (ci := 2) (v := .ref hq) (C := zR_H) (T := zT_H) (N := 5) hx hb hts (fun w h => kz_c (zi_H w h)) hown hK (hro.ob hdy.2.2 (k := 0) rfl) 0 rfl rfl 3 (by decide) (hts _ (kz_c mw_74)) (fun _ h9 => h9) rfl zd_H_take_28 ?_
    refine lv_iconst (v := (nI (3))) hx hb zd_H_take_31 (by decide) ?_
    refine kz_calli (wk := [(pr, .inl (cI, 8, .inl (kz_dg gpr))), (inv, .inl (cI, 8, .inl (kz_dg ginv))), (hp, .inl (cI, 8, .inl (kz_dg d1))), (hq, .inl (cI, 8, .inl (kz_dg d4))), (hw16, .inl (cI, 16, .inl (kz_dg ghw16)))]) (va_runS (As := [.ref hq, .int (nI (3))]) (rest := []) ⟨hx, hb, hml, hown, hts⟩ (c_E_atLeast l dC dI cI cAA cB cL hq d4 _ hd_d4) (va_cwS 2 hts (kz_g (kz_mc mw_198 (kz_mc mw_178 (kz_mc mw_50 kz_mn))) mw_179) rfl rfl rfl (by decide +kernel) ⟨Nat.le_of_ble_eq_true rfl, Nat.le_of_ble_eq_true rfl⟩) (kz_preS hdy hA hK hro hZ hN [] (by decide) rfl [(false, 3)] rfl (by decide) [0, 1, 2, 3] rfl (fun _ h => by cases h) (fun _ h => by cases h) rfl) rfl rfl hl.1 rfl (lv_room (Nat.le_of_ble_eq_true rfl)) zd_H_take_32 ⟨Nat.le_of_ble_eq_true rfl, Nat.le_of_ble_eq_true rfl⟩) hdy hA [] [0, 1, 2, 3, 4] rfl rfl (by decide) (by decide) (fun r u H locs hw hdy => ?_)
    obtain ⟨r9, rfl⟩ : ∃ z, z = r := ⟨_, rfl⟩
    try dsimp only at hw
    obtain ⟨hzr9, q10, -⟩ := hw
    have hdy : kz_dy (dC, dI) vwCl A s.heap H locs [(pr, .inl (cI, 8, .inl (kz_dg gpr))), (inv, .inl (cI, 8, .inl (kz_dg ginv))), (hp, .inl (cI, 8, .inl (kz_dg d1))), (hq, .inl (cI, 8, .inl (kz_dg d4))), (hw16, .inl (cI, 16, .inl (kz_dg ghw16)))] := hdy.sub [0, 1, 2, 3, 4] (by decide) rfl
    refine lv_if_ne (tgt := 40) hx hb zd_H_take_35 (by decide) (fun hc35 => ?_) (fun hc35 => ?_)
    · have hQ3 := (q10.resolve_right (fun h => hc35 h.1)).2
      refine lv_aload_n hx hb zd_H_take_40 rfl (lv_at hl 0 rfl) ?_
      refine lv_aload_n hx hb zd_H_take_41 rfl (lv_at hl 0 rfl) ?_
      refine va_get (D := (dC, dI)) (ci := 2) (v := .ref pr) (C := zR_H) (T := zT_H) (N := 5) hx hb hts (fun w h => kz_c (zi_H w h)) hown hK (hro.ob hdy.2.2 (k := 0) rfl) 0 rfl rfl 0 (by decide) (hts _ (kz_c mw_69)) (fun _ h9 => h9) rfl zd_H_take_42 ?_
      refine kz_callv (wk := [(inv, .inl (cI, 8, .inl (kz_dg ginv))), (hp, .inl (cI, 8, .inl (kz_dg d1))), (hq, .inl (cI, 8, .inl (kz_dg d4)))]) (va_runV (As := [.ref pr]) (rest := []) ⟨hx, hb, hml, hown, hts⟩ (c_E_multiplyBoth l dC dI cI cAA cB cL hw16 pr h pr inv hp hq ghw16 gpr d1 d4 _ hd_ghw16 hd_gpr hd_d1 hd_d4 (by first | omega | assumption) (by first | omega | assumption)) (cwV 1 hts (kz_g (kz_mc mw_199 (kz_mc mw_201 (kz_mc mw_2 (kz_mc mw_40 kz_mn)))) mw_202) rfl rfl rfl (by decide +kernel) ⟨Nat.le_of_ble_eq_true rfl, Nat.le_of_ble_eq_true rfl⟩) (kz_preVr hdy hA hK hro hZ hN [4, 0] (by decide) rfl [(true, 0), (false, 2), (false, 3)] rfl (by decide) [0, 1, 2, 3] rfl (fun _ h => by cases h) (fun _ h => by cases h) rfl (ci := 2) (q0 := 0) rfl rfl rfl) rfl rfl hl.1 rfl (lv_room (Nat.le_of_ble_eq_true rfl)) zd_H_take_45 ⟨Nat.le_of_ble_eq_true rfl, Nat.le_of_ble_eq_true rfl⟩) hdy hA [4, 0] [1, 2, 3] rfl rfl (by decide) (by decide) (fun u H locs hw hdy => ?_)
      obtain ⟨d11, d12⟩ := u
      try dsimp only at hw
      obtain ⟨hd_d11, hd_d12, q13, -⟩ := hw
      have hdy : kz_dy (dC, dI) vwCl A s.heap H locs [(pr, .inl (cI, 8, .inl (kz_dg d12))), (inv, .inl (cI, 8, .inl (kz_dg ginv))), (hp, .inl (cI, 8, .inl (kz_dg d1))), (hq, .inl (cI, 8, .inl (kz_dg d4))), (hw16, .inl (cI, 16, .inl (kz_dg d11)))] := hdy.sub [4, 0, 1, 2, 3] (by decide) rfl
      refine lv_aload_n hx hb zd_H_take_48 rfl (lv_at hl 0 rfl) ?_
      refine va_get (D := (dC, dI)) (ci := 2) (v := .ref hp) (C := zR_H) (T := zT_H) (N := 5) hx hb hts (fun w h => kz_c (zi_H w h)) hown hK (hro.ob hdy.2.2 (k := 0) rfl) 0 rfl rfl 2 (by decide) (hts _ (kz_c mw_73)) (fun _ h9 => h9) rfl zd_H_take_49 ?_
      refine lv_iconst (v := (nI (1))) hx hb zd_H_take_52 (by decide) ?_
      refine lv_aload_n hx hb zd_H_take_53 rfl (lv_at hl 0 rfl) ?_
      refine va_get (D := (dC, dI)) (ci := 2) (v := .ref hp) (C := zR_H) (T := zT_H) (N := 5) hx hb hts (fun w h => kz_c (zi_H w h)) hown hK (hro.ob hdy.2.2 (k := 0) rfl) 0 rfl rfl 2 (by decide) (hts _ (kz_c mw_73)) (fun _ h9 => h9) rfl zd_H_take_54 ?_
      refine kz_callv (wk := [(pr, .inl (cI, 8, .inl (kz_dg d12))), (inv, .inl (cI, 8, .inl (kz_dg ginv))), (hq, .inl (cI, 8, .inl (kz_dg d4))), (hw16, .inl (cI, 16, .inl (kz_dg d11)))]) (va_runS (As := [.ref hp, .int (nI (1)), .ref hp]) (rest := []) ⟨hx, hb, hml, hown, hts⟩ (c_E_subtract1 l dC dI cI cAA cB cL hp d1 _ hd_d1 (by first | omega | assumption)) (va_cwS 3 hts (kz_g (kz_mc mw_215 (kz_mc mw_186 (kz_mc mw_50 kz_mn))) mw_187) rfl rfl rfl (by decide +kernel) ⟨Nat.le_of_ble_eq_true rfl, Nat.le_of_ble_eq_true rfl⟩) (kz_preS hdy hA hK hro hZ hN [2] (by decide) rfl [] rfl (by decide) [0, 1, 2, 3] rfl (fun _ h => by cases h) (fun _ h => by cases h) rfl) rfl rfl hl.1 rfl (lv_room (Nat.le_of_ble_eq_true rfl)) zd_H_take_57 ⟨Nat.le_of_ble_eq_true rfl, Nat.le_of_ble_eq_true rfl⟩) hdy hA [2] [0, 1, 3, 4] rfl rfl (by decide) (by decide) (fun u H locs hw hdy => ?_)
      obtain ⟨d14, rfl⟩ : ∃ z, z = u := ⟨_, rfl⟩
      try dsimp only at hw
      obtain ⟨hd_d14, q15, -⟩ := hw
      have hdy : kz_dy (dC, dI) vwCl A s.heap H locs [(pr, .inl (cI, 8, .inl (kz_dg d12))), (inv, .inl (cI, 8, .inl (kz_dg ginv))), (hp, .inl (cI, 8, .inl (kz_dg d14))), (hq, .inl (cI, 8, .inl (kz_dg d4))), (hw16, .inl (cI, 16, .inl (kz_dg d11)))] := hdy.sub [0, 1, 4, 2, 3] (by decide) rfl
      refine lv_aload_n hx hb zd_H_take_60 rfl (lv_at hl 0 rfl) ?_
      refine va_get (D := (dC, dI)) (ci := 2) (v := .ref hq) (C := zR_H) (T := zT_H) (N := 5) hx hb hts (fun w h => kz_c (zi_H w h)) hown hK (hro.ob hdy.2.2 (k := 0) rfl) 0 rfl rfl 3 (by decide) (hts _ (kz_c mw_74)) (fun _ h9 => h9) rfl zd_H_take_61 ?_
      refine lv_iconst (v := (nI (1))) hx hb zd_H_take_64 (by decide) ?_
      refine lv_aload_n hx hb zd_H_take_65 rfl (lv_at hl 0 rfl) ?_
      refine va_get (D := (dC, dI)) (ci := 2) (v := .ref hq) (C := zR_H) (T := zT_H) (N := 5) hx hb hts (fun w h => kz_c (zi_H w h)) hown hK (hro.ob hdy.2.2 (k := 0) rfl) 0 rfl rfl 3 (by decide) (hts _ (kz_c mw_74)) (fun _ h9 => h9) rfl zd_H_take_66 ?_
      refine kz_callv (wk := [(pr, .inl (cI, 8, .inl (kz_dg d12))), (inv, .inl (cI, 8, .inl (kz_dg ginv))), (hp, .inl (cI, 8, .inl (kz_dg d14))), (hw16, .inl (cI, 16, .inl (kz_dg d11)))]) (va_runS (As := [.ref hq, .int (nI (1)), .ref hq]) (rest := []) ⟨hx, hb, hml, hown, hts⟩ (c_E_subtract1 l dC dI cI cAA cB cL hq d4 _ hd_d4 (by first | omega | assumption)) (va_cwS 3 hts (kz_g (kz_mc mw_215 (kz_mc mw_186 (kz_mc mw_50 kz_mn))) mw_187) rfl rfl rfl (by decide +kernel) ⟨Nat.le_of_ble_eq_true rfl, Nat.le_of_ble_eq_true rfl⟩) (kz_preS hdy hA hK hro hZ hN [3] (by decide) rfl [] rfl (by decide) [0, 1, 2, 3] rfl (fun _ h => by cases h) (fun _ h => by cases h) rfl) rfl rfl hl.1 rfl (lv_room (Nat.le_of_ble_eq_true rfl)) zd_H_take_69 ⟨Nat.le_of_ble_eq_true rfl, Nat.le_of_ble_eq_true rfl⟩) hdy hA [3] [0, 1, 2, 4] rfl rfl (by decide) (by decide) (fun u H locs hw hdy => ?_)
      obtain ⟨d16, rfl⟩ : ∃ z, z = u := ⟨_, rfl⟩
      try dsimp only at hw
      obtain ⟨hd_d16, q17, -⟩ := hw
      have hdy : kz_dy (dC, dI) vwCl A s.heap H locs [(pr, .inl (cI, 8, .inl (kz_dg d12))), (inv, .inl (cI, 8, .inl (kz_dg ginv))), (hp, .inl (cI, 8, .inl (kz_dg d14))), (hq, .inl (cI, 8, .inl (kz_dg d16))), (hw16, .inl (cI, 16, .inl (kz_dg d11)))] := hdy.sub [0, 1, 2, 4, 3] (by decide) rfl
      have hhP := kx_hi0 (d := d14) (by omega)
      have hhQ := kx_hi0 (d := d16) (by omega)
      refine lv_aload_n hx hb zd_H_take_72 rfl (lv_at hl 0 rfl) ?_
      refine lv_aload_n hx hb zd_H_take_73 rfl (lv_at hl 0 rfl) ?_
      refine va_get (D := (dC, dI)) (ci := 2) (v := .ref inv) (C := zR_H) (T := zT_H) (N := 5) hx hb hts (fun w h => kz_c (zi_H w h)) hown hK (hro.ob hdy.2.2 (k := 0) rfl) 0 rfl rfl 1 (by decide) (hts _ (kz_c mw_71)) (fun _ h9 => h9) rfl zd_H_take_74 ?_
      refine kz_callv (wk := [(pr, .inl (cI, 8, .inl (kz_dg d12))), (hp, .inl (cI, 8, .inl (kz_dg d14))), (hq, .inl (cI, 8, .inl (kz_dg d16)))]) (va_runV (As := [.ref inv]) (rest := []) ⟨hx, hb, hml, hown, hts⟩ (c_E_multiplyBoth l dC dI cI cAA cB cL hw16 inv h pr inv hp hq d11 ginv d14 d16 _ hd_d11 hd_ginv hd_d14 hd_d16 (by first | omega | assumption) (by first | omega | assumption)) (cwV 1 hts (kz_g (kz_mc mw_199 (kz_mc mw_201 (kz_mc mw_2 (kz_mc mw_40 kz_mn)))) mw_202) rfl rfl rfl (by decide +kernel) ⟨Nat.le_of_ble_eq_true rfl, Nat.le_of_ble_eq_true rfl⟩) (kz_preVr hdy hA hK hro hZ hN [4, 1] (by decide) rfl [(true, 0), (false, 2), (false, 3)] rfl (by decide) [0, 1, 2, 3] rfl (fun _ h => by cases h) (fun _ h => by cases h) rfl (ci := 2) (q0 := 0) rfl rfl rfl) rfl rfl hl.1 rfl (lv_room (Nat.le_of_ble_eq_true rfl)) zd_H_take_77 ⟨Nat.le_of_ble_eq_true rfl, Nat.le_of_ble_eq_true rfl⟩) hdy hA [4, 1] [0, 2, 3] rfl rfl (by decide) (by decide) (fun u H locs hw hdy => ?_)
      obtain ⟨d18, d19⟩ := u
      try dsimp only at hw
      obtain ⟨hd_d18, hd_d19, q20, -⟩ := hw
      have hdy : kz_dy (dC, dI) vwCl A s.heap H locs [(pr, .inl (cI, 8, .inl (kz_dg d12))), (inv, .inl (cI, 8, .inl (kz_dg d19))), (hp, .inl (cI, 8, .inl (kz_dg d14))), (hq, .inl (cI, 8, .inl (kz_dg d16))), (hw16, .inl (cI, 16, .inl (kz_dg d18)))] := hdy.sub [0, 4, 1, 2, 3] (by decide) rfl
      refine lv_aload_n hx hb zd_H_take_80 rfl (lv_at hl 0 rfl) ?_
      refine kz_calli (wk := [(pr, .inl (cI, 8, .inl (kz_dg d12))), (hp, .inl (cI, 8, .inl (kz_dg d14))), (hq, .inl (cI, 8, .inl (kz_dg d16))), (hw16, .inl (cI, 16, .inl (kz_dg d18)))]) (va_runV (As := []) (rest := []) ⟨hx, hb, hml, hown, hts⟩ (c_E_invert l dC dI cI cAA cB cL inv h pr hp hq hw16 d19 _ hd_d19) (cwV 0 hts (kz_g (kz_mc mw_216 (kz_mc mw_218 (kz_mc mw_3 (kz_mc mw_40 kz_mn)))) mw_219) rfl rfl rfl (by decide +kernel) ⟨Nat.le_of_ble_eq_true rfl, Nat.le_of_ble_eq_true rfl⟩) (kz_preVr hdy hA hK hro hZ hN [1] (by decide) rfl [(true, 0)] rfl (by decide) [0, 1, 2, 3] rfl (fun _ h => by cases h) (fun _ h => by cases h) rfl (ci := 2) (q0 := 0) rfl rfl rfl) rfl rfl hl.1 rfl (lv_room (Nat.le_of_ble_eq_true rfl)) zd_H_take_81 ⟨Nat.le_of_ble_eq_true rfl, Nat.le_of_ble_eq_true rfl⟩) hdy hA [1] [0, 2, 3, 4] rfl rfl (by decide) (by decide) (fun r u H locs hw hdy => ?_)
      obtain ⟨r22, rfl⟩ : ∃ z, z = r := ⟨_, rfl⟩
      obtain ⟨d21, rfl⟩ : ∃ z, z = u := ⟨_, rfl⟩
      try dsimp only at hw
      obtain ⟨hd_d21, hzr22, q23, -⟩ := hw
      have hdy : kz_dy (dC, dI) vwCl A s.heap H locs [(pr, .inl (cI, 8, .inl (kz_dg d12))), (inv, .inl (cI, 8, .inl (kz_dg d21))), (hp, .inl (cI, 8, .inl (kz_dg d14))), (hq, .inl (cI, 8, .inl (kz_dg d16))), (hw16, .inl (cI, 16, .inl (kz_dg d18)))] := hdy.sub [0, 4, 1, 2, 3] (by decide) rfl
      exact kz_zret F (d12, d21, d14, d16, d18) hdy (by first | exact Or.inl rfl | exact Or.inr rfl | assumption) (⟨hd_d12, hd_d21, hd_d14, hd_d16, hd_d18, by first | exact Or.inl rfl | exact Or.inr rfl | assumption, by exact hhP, by exact hhQ, by exact kx_takeEnd hVP hVQ hP3 hQ3 q15 q17 q20 q23, trivial⟩) zd_H_take_84
    · refine lv_iconst (v := (nI (0))) hx hb zd_H_take_38 (by decide) ?_
      exact kz_zret F (gpr, ginv, d1, d4, ghw16) hdy (by first | exact Or.inl rfl | exact Or.inr rfl | assumption) (⟨hd_gpr, hd_ginv, hd_d1, hd_d4, hd_ghw16, by first | exact Or.inl rfl | exact Or.inr rfl | assumption, by exact hhP, by exact hhQ, by first | (exact Or.inl ⟨rfl, fun h9 => by have h8 := h9.2.1; rcases q10 with h7 | h7; exact absurd (h7.1.symm.trans hc35) (by decide); omega⟩) | (exact Or.inl ⟨rfl, fun h9 => by have h8 := h9.1; rcases q8 with h7 | h7; exact absurd (h7.1.symm.trans hc24) (by decide); omega⟩), trivial⟩) zd_H_take_39

