set_option maxHeartbeats 4000000 in
set_option maxRecDepth 100000 in
/-- KeyMeetingModel.compare([I[I)I -/
theorem c_F_compare16 (l : Launch) (dC : Nat → ClassId) (dI : Nat → Nat → Nat) (cI cAA cB cL : ClassId) (a b : Nat) (ga : Nat → Nat) (gb : Nat → Nat) (sz : Nat) (hd_ga : ∀ j, ga j < 65536) (hd_gb : ∀ j, gb j < 65536) : Met l zy_N_compare zw_N_compare { frames := 0, cells := 0, slots := 0, locals := 0 } (kz_Pc (dC, dI) vwCl [(cI, .int), (cAA, .array .int), (cB, .byte), (cL, .long)] [] [] [.ref a, .ref b] [] [(a, .inl (cI, 16, .inl (kz_dg ga))), (b, .inl (cI, 16, .inl (kz_dg gb)))] sz) (va_Qi (fun (r : Int32) (u : Unit) => ((r = 0 ∧ kv_val ga 16 = kv_val gb 16) ∨ (r = 1 ∧ kv_val gb 16 < kv_val ga 16) ∨ (r = -1 ∧ kv_val ga 16 < kv_val gb 16)) ∧ True) (kz_B (dC, dI) vwCl (va_A [] sz) (fun u : Unit => [])) (va_A [] sz)) 0 0 (va_A [] sz) := by
  refine kz_met (y := zy_N_compare) (ws := zw_N_compare) (av := [.ref a, .ref b]) (sz := sz) (Qc := fun A => va_Qi (fun (r : Int32) (u : Unit) => ((r = 0 ∧ kv_val ga 16 = kv_val gb 16) ∨ (r = 1 ∧ kv_val gb 16 < kv_val ga 16) ∨ (r = -1 ∧ kv_val ga 16 < kv_val gb 16)) ∧ True) (kz_B (dC, dI) vwCl A (fun u : Unit => [])) A) (cc := zc_N_compare) (maxL := 3) (ret := some .int) (by decide) rfl (Nat.le_of_ble_eq_true rfl) ?_
  intro p e s m below meth c A ls F hA hdy hK hro hZ hN hl
  obtain ⟨hx, hb, hml, hr, hown, hlocks, hts, hnm⟩ := id F
  have hl : lv_has ls 3 [(0, .ref a), (1, .ref b)] := hl
  refine lv_bipush (v := (nI (15))) hx hb zd_N_compare_0 (by decide) ?_
  refine lv_istore_n (lv' := [(2, .int (nI (15))), (0, .ref a), (1, .ref b)]) hx hb zd_N_compare_2 rfl hl (by decide) rfl (fun ls hl => ?_)
  have lp3 : ∀ (k3 : Nat) (H : Heap) (locs : List Loc) (ls : Array Slot), k3 ≤ 16 → (∀ j, k3 ≤ j → j < 16 → ga j = gb j) → kz_dy (dC, dI) vwCl A s.heap H locs [] → lv_has ls 3 [(2, .int (nI k3 - 1)), (0, .ref a), (1, .ref b)] → W p l e { frames := 0, cells := 0, slots := 0, locals := 0 } s m ([.ref a, .ref b] : List Value).toArray below meth c H locs 0 0 (MQ below (va_Qi (fun (r : Int32) (u : Unit) => ((r = 0 ∧ kv_val ga 16 = kv_val gb 16) ∨ (r = 1 ∧ kv_val gb 16 < kv_val ga 16) ∨ (r = -1 ∧ kv_val ga 16 < kv_val gb 16)) ∧ True) (kz_B (dC, dI) vwCl A (fun u : Unit => [])) A) ([.ref a, .ref b] : List Value).toArray s 0 0 A) (F0 m 3 ls []) := by
    intro k3
    induction k3 with
    | zero =>
      intro H locs ls hi3 he hdy hl
      refine lv_iload_n hx hb zd_N_compare_3 rfl (lv_at hl 0 rfl) ?_
      refine lv_if_lt (tgt := 37) hx hb zd_N_compare_4 (by decide) (fun hc4 => ?_) (fun hc4 => ?_)
      · refine lv_iconst (v := (nI (0))) hx hb zd_N_compare_37 (by decide) ?_
        exact kz_iret F () hdy (⟨by first | exact Or.inl ⟨rfl, kv_ext 16 (fun j hj => he j (by omega) hj)⟩ | exact Or.inr (Or.inl ⟨rfl, kv_cmp hd_gb (k := k3) (by omega) 16 (by omega) (fun j a b => he j (by omega) b)⟩) | exact Or.inr (Or.inr ⟨rfl, kv_cmp hd_ga (k := k3) (by omega) 16 (by omega) (fun j a b => (he j (by omega) b).symm)⟩), trivial⟩) zd_N_compare_38
      · exact absurd (by decide) hc4
    | succ k3 ih3 =>
      intro H locs ls hi3 he hdy hl
      rw [nI_pred] at hl
      refine lv_iload_n hx hb zd_N_compare_3 rfl (lv_at hl 0 rfl) ?_
      refine lv_if_lt (tgt := 37) hx hb zd_N_compare_4 (by decide) (fun hc4 => ?_) (fun hc4 => ?_)
      · exact absurd hc4 (nI_pos (by omega))
      · refine lv_aload_n hx hb zd_N_compare_7 rfl (lv_at hl 1 rfl) ?_
        refine lv_iload_n hx hb zd_N_compare_8 rfl (lv_at hl 0 rfl) ?_
        refine kz_riald hx hb hK hro hdy.2.2 0 0 rfl rfl (vp_in_nI (by omega) (by omega)) zd_N_compare_9 ?_
        refine lv_topi (fun x1 h9 => ?_)
        obtain rfl : x1 = nI (ga k3) := h9.trans (kz_dgl ga (by omega))
        have hbx1 := hd_ga k3
        refine lv_aload_n hx hb zd_N_compare_10 rfl (lv_at hl 2 rfl) ?_
        refine lv_iload_n hx hb zd_N_compare_11 rfl (lv_at hl 0 rfl) ?_
        refine kz_riald hx hb hK hro hdy.2.2 1 0 rfl rfl (vp_in_nI (by omega) (by omega)) zd_N_compare_12 ?_
        refine lv_topi (fun x2 h9 => ?_)
        obtain rfl : x2 = nI (gb k3) := h9.trans (kz_dgl gb (by omega))
        have hbx2 := hd_gb k3
        refine lv_icmp_eq (tgt := 31) hx hb zd_N_compare_13 (by decide) (fun hc13 => ?_) (fun hc13 => ?_)
        · have hc13 : (ga k3) = (gb k3) := (nI_eq (by omega) (by omega)).mp hc13
          refine lv_iinc (v := (nI (k3) - 1)) (lv' := [(2, .int (nI (k3) - 1)), (0, .ref a), (1, .ref b)]) hx hb zd_N_compare_31 hl (k := 0) rfl (kz_m1 _) (by decide) rfl (fun ls hl => ?_)
          refine lv_goto (tgt := 3) hx hb zd_N_compare_34 (by decide) ?_
          have hi9_he3 : ∀ j, k3 ≤ j → j < 16 → ga j = gb j := by intro j a b; rcases Nat.lt_or_eq_of_le a with h8 | h8; exact he j h8 b; subst h8; omega
          exact ih3 _ _ _ (by omega) hi9_he3 hdy (lv_sub hl [0, 1, 2] rfl)
        · have hc13 : ¬ (ga k3) = (gb k3) := fun h9 => hc13 ((nI_eq (by omega) (by omega)).mpr h9)
          refine lv_aload_n hx hb zd_N_compare_16 rfl (lv_at hl 1 rfl) ?_
          refine lv_iload_n hx hb zd_N_compare_17 rfl (lv_at hl 0 rfl) ?_
          refine kz_riald hx hb hK hro hdy.2.2 0 0 rfl rfl (vp_in_nI (by omega) (by omega)) zd_N_compare_18 ?_
          refine lv_topi (fun x4 h9 => ?_)
          obtain rfl : x4 = nI (ga k3) := h9.trans (kz_dgl ga (by omega))
          have hbx4 := hd_ga k3
          refine lv_aload_n hx hb zd_N_compare_19 rfl (lv_at hl 2 rfl) ?_
          refine lv_iload_n hx hb zd_N_compare_20 rfl (lv_at hl 0 rfl) ?_
          refine kz_riald hx hb hK hro hdy.2.2 1 0 rfl rfl (vp_in_nI (by omega) (by omega)) zd_N_compare_21 ?_
          refine lv_topi (fun x5 h9 => ?_)
          obtain rfl : x5 = nI (gb k3) := h9.trans (kz_dgl gb (by omega))
          have hbx5 := hd_gb k3
          refine lv_icmp_ge (tgt := 29) hx hb zd_N_compare_22 (by decide) (fun hc22 => ?_) (fun hc22 => ?_)
          · have hc22 : (gb k3) ≤ (ga k3) := (nI_leI (by omega) (by omega)).mp hc22
            refine lv_iconst (v := (nI (1))) hx hb zd_N_compare_29 (by decide) ?_
            exact kz_iret F () hdy (⟨by first | exact Or.inl ⟨rfl, kv_ext 16 (fun j hj => he j (by omega) hj)⟩ | exact Or.inr (Or.inl ⟨rfl, kv_cmp hd_gb (k := k3) (by omega) 16 (by omega) (fun j a b => he j (by omega) b)⟩) | exact Or.inr (Or.inr ⟨rfl, kv_cmp hd_ga (k := k3) (by omega) 16 (by omega) (fun j a b => (he j (by omega) b).symm)⟩), trivial⟩) zd_N_compare_30
          · have hc22 : ¬ (gb k3) ≤ (ga k3) := fun h9 => hc22 ((nI_leI (by omega) (by omega)).mpr h9)
            refine lv_iconst (v := (-1)) hx hb zd_N_compare_25 (by decide) ?_
            refine lv_goto (tgt := 30) hx hb zd_N_compare_26 (by decide) ?_
            exact kz_iret F () hdy (⟨by first | exact Or.inl ⟨rfl, kv_ext 16 (fun j hj => he j (by omega) hj)⟩ | exact Or.inr (Or.inl ⟨rfl, kv_cmp hd_gb (k := k3) (by omega) 16 (by omega) (fun j a b => he j (by omega) b)⟩) | exact Or.inr (Or.inr ⟨rfl, kv_cmp hd_ga (k := k3) (by omega) 16 (by omega) (fun j a b => (he j (by omega) b).symm)⟩), trivial⟩) zd_N_compare_30
  have hi9_he6 : ∀ j, 16 ≤ j → j < 16 → ga j = gb j := by intro j a b; omega
  exact lp3 16 _ _ _ (by omega) hi9_he6 hdy (lv_sub hl [0, 1, 2] rfl)

set_option maxHeartbeats 4000000 in
set_option maxRecDepth 100000 in
/-- KeyMeetingModel.compare([I[I)I -/
theorem c_F_compare18 (l : Launch) (dC : Nat → ClassId) (dI : Nat → Nat → Nat) (cI cAA cB cL : ClassId) (a b : Nat) (ga : Nat → Nat) (gb : Nat → Nat) (sz : Nat) (hd_ga : ∀ j, ga j < 65536) (hd_gb : ∀ j, gb j < 65536) : Met l zy_N_compare zw_N_compare { frames := 0, cells := 0, slots := 0, locals := 0 } (kz_Pc (dC, dI) vwCl [(cI, .int), (cAA, .array .int), (cB, .byte), (cL, .long)] [] [] [.ref a, .ref b] [] [(a, .inl (cI, 18, .inl (kz_dg ga))), (b, .inl (cI, 16, .inl (kz_dg gb)))] sz) (va_Qi (fun (r : Int32) (u : Unit) => ((r = 0 ∧ kv_val ga 16 = kv_val gb 16) ∨ (r = 1 ∧ kv_val gb 16 < kv_val ga 16) ∨ (r = -1 ∧ kv_val ga 16 < kv_val gb 16)) ∧ True) (kz_B (dC, dI) vwCl (va_A [] sz) (fun u : Unit => [])) (va_A [] sz)) 0 0 (va_A [] sz) := by
  refine kz_met (y := zy_N_compare) (ws := zw_N_compare) (av := [.ref a, .ref b]) (sz := sz) (Qc := fun A => va_Qi (fun (r : Int32) (u : Unit) => ((r = 0 ∧ kv_val ga 16 = kv_val gb 16) ∨ (r = 1 ∧ kv_val gb 16 < kv_val ga 16) ∨ (r = -1 ∧ kv_val ga 16 < kv_val gb 16)) ∧ True) (kz_B (dC, dI) vwCl A (fun u : Unit => [])) A) (cc := zc_N_compare) (maxL := 3) (ret := some .int) (by decide) rfl (Nat.le_of_ble_eq_true rfl) ?_
  intro p e s m below meth c A ls F hA hdy hK hro hZ hN hl
  obtain ⟨hx, hb, hml, hr, hown, hlocks, hts, hnm⟩ := id F
  have hl : lv_has ls 3 [(0, .ref a), (1, .ref b)] := hl
  refine lv_bipush (v := (nI (15))) hx hb zd_N_compare_0 (by decide) ?_
  refine lv_istore_n (lv' := [(2, .int (nI (15))), (0, .ref a), (1, .ref b)]) hx hb zd_N_compare_2 rfl hl (by decide) rfl (fun ls hl => ?_)
  have lp3 : ∀ (k3 : Nat) (H : Heap) (locs : List Loc) (ls : Array Slot), k3 ≤ 16 → (∀ j, k3 ≤ j → j < 16 → ga j = gb j) → kz_dy (dC, dI) vwCl A s.heap H locs [] → lv_has ls 3 [(2, .int (nI k3 - 1)), (0, .ref a), (1, .ref b)] → W p l e { frames := 0, cells := 0, slots := 0, locals := 0 } s m ([.ref a, .ref b] : List Value).toArray below meth c H locs 0 0 (MQ below (va_Qi (fun (r : Int32) (u : Unit) => ((r = 0 ∧ kv_val ga 16 = kv_val gb 16) ∨ (r = 1 ∧ kv_val gb 16 < kv_val ga 16) ∨ (r = -1 ∧ kv_val ga 16 < kv_val gb 16)) ∧ True) (kz_B (dC, dI) vwCl A (fun u : Unit => [])) A) ([.ref a, .ref b] : List Value).toArray s 0 0 A) (F0 m 3 ls []) := by
    intro k3
    induction k3 with
    | zero =>
      intro H locs ls hi3 he hdy hl
      refine lv_iload_n hx hb zd_N_compare_3 rfl (lv_at hl 0 rfl) ?_
      refine lv_if_lt (tgt := 37) hx hb zd_N_compare_4 (by decide) (fun hc4 => ?_) (fun hc4 => ?_)
      · refine lv_iconst (v := (nI (0))) hx hb zd_N_compare_37 (by decide) ?_
        exact kz_iret F () hdy (⟨by first | exact Or.inl ⟨rfl, kv_ext 16 (fun j hj => he j (by omega) hj)⟩ | exact Or.inr (Or.inl ⟨rfl, kv_cmp hd_gb (k := k3) (by omega) 16 (by omega) (fun j a b => he j (by omega) b)⟩) | exact Or.inr (Or.inr ⟨rfl, kv_cmp hd_ga (k := k3) (by omega) 16 (by omega) (fun j a b => (he j (by omega) b).symm)⟩), trivial⟩) zd_N_compare_38
      · exact absurd (by decide) hc4
    | succ k3 ih3 =>
      intro H locs ls hi3 he hdy hl
      rw [nI_pred] at hl
      refine lv_iload_n hx hb zd_N_compare_3 rfl (lv_at hl 0 rfl) ?_
      refine lv_if_lt (tgt := 37) hx hb zd_N_compare_4 (by decide) (fun hc4 => ?_) (fun hc4 => ?_)
      · exact absurd hc4 (nI_pos (by omega))
      · refine lv_aload_n hx hb zd_N_compare_7 rfl (lv_at hl 1 rfl) ?_
        refine lv_iload_n hx hb zd_N_compare_8 rfl (lv_at hl 0 rfl) ?_
        refine kz_riald hx hb hK hro hdy.2.2 0 0 rfl rfl (vp_in_nI (by omega) (by omega)) zd_N_compare_9 ?_
        refine lv_topi (fun x1 h9 => ?_)
        obtain rfl : x1 = nI (ga k3) := h9.trans (kz_dgl ga (by omega))
        have hbx1 := hd_ga k3
        refine lv_aload_n hx hb zd_N_compare_10 rfl (lv_at hl 2 rfl) ?_
        refine lv_iload_n hx hb zd_N_compare_11 rfl (lv_at hl 0 rfl) ?_
        refine kz_riald hx hb hK hro hdy.2.2 1 0 rfl rfl (vp_in_nI (by omega) (by omega)) zd_N_compare_12 ?_
        refine lv_topi (fun x2 h9 => ?_)
        obtain rfl : x2 = nI (gb k3) := h9.trans (kz_dgl gb (by omega))
        have hbx2 := hd_gb k3
        refine lv_icmp_eq (tgt := 31) hx hb zd_N_compare_13 (by decide) (fun hc13 => ?_) (fun hc13 => ?_)
        · have hc13 : (ga k3) = (gb k3) := (nI_eq (by omega) (by omega)).mp hc13
          refine lv_iinc (v := (nI (k3) - 1)) (lv' := [(2, .int (nI (k3) - 1)), (0, .ref a), (1, .ref b)]) hx hb zd_N_compare_31 hl (k := 0) rfl (kz_m1 _) (by decide) rfl (fun ls hl => ?_)
          refine lv_goto (tgt := 3) hx hb zd_N_compare_34 (by decide) ?_
          have hi9_he3 : ∀ j, k3 ≤ j → j < 16 → ga j = gb j := by intro j a b; rcases Nat.lt_or_eq_of_le a with h8 | h8; exact he j h8 b; subst h8; omega
          exact ih3 _ _ _ (by omega) hi9_he3 hdy (lv_sub hl [0, 1, 2] rfl)
        · have hc13 : ¬ (ga k3) = (gb k3) := fun h9 => hc13 ((nI_eq (by omega) (by omega)).mpr h9)
          refine lv_aload_n hx hb zd_N_compare_16 rfl (lv_at hl 1 rfl) ?_
          refine lv_iload_n hx hb zd_N_compare_17 rfl (lv_at hl 0 rfl) ?_
          refine kz_riald hx hb hK hro hdy.2.2 0 0 rfl rfl (vp_in_nI (by omega) (by omega)) zd_N_compare_18 ?_
          refine lv_topi (fun x4 h9 => ?_)
          obtain rfl : x4 = nI (ga k3) := h9.trans (kz_dgl ga (by omega))
          have hbx4 := hd_ga k3
          refine lv_aload_n hx hb zd_N_compare_19 rfl (lv_at hl 2 rfl) ?_
          refine lv_iload_n hx hb zd_N_compare_20 rfl (lv_at hl 0 rfl) ?_
          refine kz_riald hx hb hK hro hdy.2.2 1 0 rfl rfl (vp_in_nI (by omega) (by omega)) zd_N_compare_21 ?_
          refine lv_topi (fun x5 h9 => ?_)
          obtain rfl : x5 = nI (gb k3) := h9.trans (kz_dgl gb (by omega))
          have hbx5 := hd_gb k3
          refine lv_icmp_ge (tgt := 29) hx hb zd_N_compare_22 (by decide) (fun hc22 => ?_) (fun hc22 => ?_)
          · have hc22 : (gb k3) ≤ (ga k3) := (nI_leI (by omega) (by omega)).mp hc22
            refine lv_iconst (v := (nI (1))) hx hb zd_N_compare_29 (by decide) ?_
            exact kz_iret F () hdy (⟨by first | exact Or.inl ⟨rfl, kv_ext 16 (fun j hj => he j (by omega) hj)⟩ | exact Or.inr (Or.inl ⟨rfl, kv_cmp hd_gb (k := k3) (by omega) 16 (by omega) (fun j a b => he j (by omega) b)⟩) | exact Or.inr (Or.inr ⟨rfl, kv_cmp hd_ga (k := k3) (by omega) 16 (by omega) (fun j a b => (he j (by omega) b).symm)⟩), trivial⟩) zd_N_compare_30
          · have hc22 : ¬ (gb k3) ≤ (ga k3) := fun h9 => hc22 ((nI_leI (by omega) (by omega)).mpr h9)
            refine lv_iconst (v := (-1)) hx hb zd_N_compare_25 (by decide) ?_
            refine lv_goto (tgt := 30) hx hb zd_N_compare_26 (by decide) ?_
            exact kz_iret F () hdy (⟨by first | exact Or.inl ⟨rfl, kv_ext 16 (fun j hj => he j (by omega) hj)⟩ | exact Or.inr (Or.inl ⟨rfl, kv_cmp hd_gb (k := k3) (by omega) 16 (by omega) (fun j a b => he j (by omega) b)⟩) | exact Or.inr (Or.inr ⟨rfl, kv_cmp hd_ga (k := k3) (by omega) 16 (by omega) (fun j a b => (he j (by omega) b).symm)⟩), trivial⟩) zd_N_compare_30
  have hi9_he6 : ∀ j, 16 ≤ j → j < 16 → ga j = gb j := by intro j a b; omega
  exact lp3 16 _ _ _ (by omega) hi9_he6 hdy (lv_sub hl [0, 1, 2] rfl)

set_option maxHeartbeats 4000000 in
set_option maxRecDepth 100000 in
/-- KeyMeetingModel.isWithin([III)Z -/
theorem c_F_isWithin (l : Launch) (dC : Nat → ClassId) (dI : Nat → Nat → Nat) (cI cAA cB cL : ClassId) (me o mt mn ml mc mh mk mp mm mb mw mr mx mP mQ ms mo mW mD mB mR mS a : Nat) (gme : Nat → Nat) (th : Int32) (sta : Int32) (hs : Int32) (sz_ : Nat) (ga : Nat → Nat) (gmp : Nat → Nat) (sz : Nat) (hd_gme : ∀ j, gme j < 65536) (hd_ga : ∀ j, ga j < 65536) (hd_gmp : ∀ j, gmp j < 65536) : Met l zy_N_isWithin zw_N_isWithin { frames := 1, cells := 0, slots := 0, locals := 22 } (kz_Pc (dC, dI) vwCl [(cI, .int), (cAA, .array .int), (cB, .byte), (cL, .long)] [] [] [.ref o, .ref a, .int (nI (2)), .int (nI (2))] [(me, .inl (cI, 18, .inl (kz_dg gme)))] [(o, .inr (4, [.int th, .int sta, .ref mt, .ref mn, .ref ml, .ref mc, .ref mh, .ref mk, .ref mp, .ref mm, .ref mb, .ref mw, .ref mr, .ref mx, .ref me, .ref mP, .ref mQ, .ref ms, .int hs, .int (nI (sz_)), .ref mo, .ref mW, .ref mD, .ref mB, .ref mR, .ref mS])), (a, .inl (cI, 16, .inl (kz_dg ga))), (mp, .inl (cI, 16, .inl (kz_dg gmp)))] sz) (va_Qi (fun (r : Int32) (u : (Nat → Nat)) => (∀ j, u j < 65536) ∧ (r = 0 ∨ r = 1) ∧ ((r = 1 ∧ 2 ≤ kv_val ga 16 ∧ kv_val ga 16 + 2 ≤ kv_val gmp 16) ∨ (r = 0 ∧ ¬ (2 ≤ kv_val ga 16 ∧ kv_val ga 16 + 2 ≤ kv_val gmp 16))) ∧ True) (kz_B (dC, dI) vwCl (va_A [(me, .inl (cI, 18, .inl (kz_dg gme)))] sz) (fun u : (Nat → Nat) => [(me, .inl (cI, 18, .inl (kz_dg u)))])) (va_A [(me, .inl (cI, 18, .inl (kz_dg gme)))] sz)) 0 0 (va_A [(me, .inl (cI, 18, .inl (kz_dg gme)))] sz) := by
  refine kz_met (y := zy_N_isWithin) (ws := zw_N_isWithin) (av := [.ref o, .ref a, .int (nI (2)), .int (nI (2))]) (sz := sz) (Qc := fun A => va_Qi (fun (r : Int32) (u : (Nat → Nat)) => (∀ j, u j < 65536) ∧ (r = 0 ∨ r = 1) ∧ ((r = 1 ∧ 2 ≤ kv_val ga 16 ∧ kv_val ga 16 + 2 ≤ kv_val gmp 16) ∨ (r = 0 ∧ ¬ (2 ≤ kv_val ga 16 ∧ kv_val ga 16 + 2 ≤ kv_val gmp 16))) ∧ True) (kz_B (dC, dI) vwCl A (fun u : (Nat → Nat) => [(me, .inl (cI, 18, .inl (kz_dg u)))])) A) (cc := zc_N_isWithin) (maxL := 10) (ret := some .boolean) (by decide) rfl (Nat.le_of_ble_eq_true rfl) ?_
  intro p e s m below meth c A ls F hA hdy hK hro hZ hN hl
  obtain ⟨hx, hb, hml, hr, hown, hlocks, hts, hnm⟩ := id F
  have hl : lv_has ls 10 [(0, .ref o), (1, .ref a), (2, .int (nI (2))), (3, .int (nI (2)))] := hl
  refine lv_lconst (v := 0) hx hb zd_N_isWithin_0 (by decide) ?_
  refine lv_topl (fun yl1 h9 => ?_)
  obtain rfl : yl1 = kz_lz (0) := h9.trans (kz_lz_c0)
  refine lv_topl (fun yl3 h9 => ?_)
  obtain ⟨n2, en2, rfl⟩ := kz_toN (e := 0) h9 (by omega)
  refine lv_lstore (lv' := [(4, .long (kz_lz (((n2 : Nat) : Int)))), (0, .ref o), (1, .ref a), (2, .int (nI (2))), (3, .int (nI (2)))]) hx hb zd_N_isWithin_1 hl (by decide) rfl (fun ls hl => ?_)
  refine lv_iconst (v := (nI (0))) hx hb zd_N_isWithin_3 (by decide) ?_
  refine lv_istore (lv' := [(6, .int (nI (0))), (4, .long (kz_lz (((n2 : Nat) : Int)))), (0, .ref o), (1, .ref a), (2, .int (nI (2))), (3, .int (nI (2)))]) hx hb zd_N_isWithin_4 hl (by decide) rfl (fun ls hl => ?_)
  refine lv_bipush (v := (nI (15))) hx hb zd_N_isWithin_6 (by decide) ?_
  refine lv_istore (lv' := [(7, .int (nI (15))), (6, .int (nI (0))), (4, .long (kz_lz (((n2 : Nat) : Int)))), (0, .ref o), (1, .ref a), (2, .int (nI (2))), (3, .int (nI (2)))]) hx hb zd_N_isWithin_8 hl (by decide) rfl (fun ls hl => ?_)
  have lp10 : ∀ (n10 k10 : Nat) (c4 : Nat) (c5 : Nat) (H : Heap) (locs : List Loc) (ls : Array Slot), k10 ≤ 16 → k10 < n10 → (c4 ≤ 1) → (kv_flag (c4) (4294967296 ≤ kv_val ga 16)) → (c4 = 0 → ∀ j, k10 ≤ j → 2 ≤ j → j < 16 → ga j = 0) → (2 ≤ k10 → c5 = 0) → (k10 = 1 → c5 = ga 1) → (k10 = 0 → c5 = 65536 * ga 1 + ga 0) → (c5 < 4294967296) → kz_dy (dC, dI) vwCl A s.heap H locs [(me, .inl (cI, 18, .inl (kz_dg gme)))] → lv_has ls 10 [(7, .int (nI (k10) - 1)), (6, .int (nI (c4))), (4, .long (kz_lz (((c5 : Nat) : Int)))), (0, .ref o), (1, .ref a), (2, .int (nI (2))), (3, .int (nI (2)))] → W p l e { frames := 1, cells := 0, slots := 0, locals := 22 } s m ([.ref o, .ref a, .int (nI (2)), .int (nI (2))] : List Value).toArray below meth c H locs 0 0 (MQ below (va_Qi (fun (r : Int32) (u : (Nat → Nat)) => (∀ j, u j < 65536) ∧ (r = 0 ∨ r = 1) ∧ ((r = 1 ∧ 2 ≤ kv_val ga 16 ∧ kv_val ga 16 + 2 ≤ kv_val gmp 16) ∨ (r = 0 ∧ ¬ (2 ≤ kv_val ga 16 ∧ kv_val ga 16 + 2 ≤ kv_val gmp 16))) ∧ True) (kz_B (dC, dI) vwCl A (fun u : (Nat → Nat) => [(me, .inl (cI, 18, .inl (kz_dg u)))])) A) ([.ref o, .ref a, .int (nI (2)), .int (nI (2))] : List Value).toArray s 0 0 A) (F0 m 10 ls []) := by
    intro n10
    induction n10 with
    | zero => intro k10 c4 c5 H locs ls hi10 hn10; exact absurd hn10 (Nat.not_lt_zero _)
    | succ n10 ih10 =>
      intro k10 c4 c5 H locs ls hi10 hn10 hg1 hgt hgz hs2 hs1 hs0 hsb hdy hl
      refine lv_iload hx hb zd_N_isWithin_10 (lv_at hl 0 rfl) ?_
      refine lv_if_lt (tgt := 71) hx hb zd_N_isWithin_12 (by decide) (fun hc12 => ?_) (fun hc12 => ?_)
      · have hc12 : k10 = 0 := (kz_neg (by omega)).mp hc12
        refine lv_iload hx hb zd_N_isWithin_71 (lv_at hl 1 rfl) ?_
        refine lv_if_ne (tgt := 86) hx hb zd_N_isWithin_73 (by decide) (fun hc73 => ?_) (fun hc73 => ?_)
        · have hc73 : ¬ c4 = 0 := fun h9 => hc73 (by have h8 := (kx_nIeq (by omega) (by omega)).mpr h9; rw [nI_0] at h8; exact h8)
          have h2V : 2 ≤ kv_val ga 16 := by first | (have h8 := kv_flag_of hgt (by omega); omega) | (rw [kv_two (fun j a b => hgz (by omega) j (by omega) a b)]; have h8 := hs0 hc12; omega)
          refine lv_iload_n hx hb zd_N_isWithin_86 rfl (lv_at hl 6 rfl) ?_
          refine lv_i2l hx hb zd_N_isWithin_87 (kz_lz_i (n := 2) (by omega)) ?_
          refine lv_lstore (lv' := [(7, .long (kz_lz (((2 : Nat) : Int)))), (6, .int (nI (c4))), (4, .long (kz_lz (((c5 : Nat) : Int)))), (0, .ref o), (1, .ref a), (2, .int (nI (2))), (3, .int (nI (2)))]) hx hb zd_N_isWithin_88 hl (by decide) rfl (fun ls hl => ?_)
          refine lv_iconst (v := (nI (0))) hx hb zd_N_isWithin_90 (by decide) ?_
          refine lv_istore (lv' := [(9, .int (nI (0))), (7, .long (kz_lz (((2 : Nat) : Int)))), (6, .int (nI (c4))), (4, .long (kz_lz (((c5 : Nat) : Int)))), (0, .ref o), (1, .ref a), (2, .int (nI (2))), (3, .int (nI (2)))]) hx hb zd_N_isWithin_91 hl (by decide) rfl (fun ls hl => ?_)
          have lp93 : ∀ (n93 k93 : Nat) (c6 : Nat) (d7 : Nat → Nat) (H : Heap) (locs : List Loc) (ls : Array Slot), k93 ≤ 16 → 16 - k93 < n93 → (∀ j, d7 j < 65536) → (c6 ≤ 2) → (kv_val d7 (k93) + c6 * 65536 ^ (k93) = 2 + kv_val ga (k93)) → kz_dy (dC, dI) vwCl A s.heap H locs [(me, .inl (cI, 18, .inl (kz_dg d7)))] → lv_has ls 10 [(9, .int (nI (k93))), (7, .long (kz_lz (((c6 : Nat) : Int)))), (6, .int (nI (c4))), (4, .long (kz_lz (((c5 : Nat) : Int)))), (0, .ref o), (1, .ref a), (2, .int (nI (2))), (3, .int (nI (2)))] → W p l e { frames := 1, cells := 0, slots := 0, locals := 22 } s m ([.ref o, .ref a, .int (nI (2)), .int (nI (2))] : List Value).toArray below meth c H locs 0 0 (MQ below (va_Qi (fun (r : Int32) (u : (Nat → Nat)) => (∀ j, u j < 65536) ∧ (r = 0 ∨ r = 1) ∧ ((r = 1 ∧ 2 ≤ kv_val ga 16 ∧ kv_val ga 16 + 2 ≤ kv_val gmp 16) ∨ (r = 0 ∧ ¬ (2 ≤ kv_val ga 16 ∧ kv_val ga 16 + 2 ≤ kv_val gmp 16))) ∧ True) (kz_B (dC, dI) vwCl A (fun u : (Nat → Nat) => [(me, .inl (cI, 18, .inl (kz_dg u)))])) A) ([.ref o, .ref a, .int (nI (2)), .int (nI (2))] : List Value).toArray s 0 0 A) (F0 m 93 ls []) := by
            intro n93
            induction n93 with
            | zero => intro k93; intros; omega
            | succ n93 ih93 =>
              intro k93 c6 d7 H locs ls hi93 hn93 hd_d7 hcb hI hdy hl
              refine lv_iload hx hb zd_N_isWithin_93 (lv_at hl 0 rfl) ?_
              refine lv_bipush (v := (nI (16))) hx hb zd_N_isWithin_95 (by decide) ?_
              refine lv_icmp_ge (tgt := 137) hx hb zd_N_isWithin_97 (by decide) (fun hc97 => ?_) (fun hc97 => ?_)
              · have hc97 : 16 ≤ k93 := (nI_leI (by omega) (by omega)).mp hc97
                have h16 : k93 = 16 := (by omega)
                rw [h16] at hI
                refine lv_lload hx hb zd_N_isWithin_137 (lv_at hl 1 rfl) ?_
                refine lv_lconst (v := 0) hx hb zd_N_isWithin_139 (by decide) ?_
                refine lv_topl (fun yl8 h9 => ?_)
                obtain rfl : yl8 = kz_lz (0) := h9.trans (kz_lz_c0)
                refine kz_lne (tgt := 162) hx hb zd_N_isWithin_140 zd_N_isWithin_141 (by decide) (fun hc141 => ?_) (fun hc141 => ?_)
                · have hc141 : ¬ (((c6 : Nat) : Int)) = 0 := fun h9 => hc141 ((kz_lz_eq (by omega) (by omega) (by omega) (by omega)).mpr h9)
                  refine lv_iconst (v := (nI (0))) hx hb zd_N_isWithin_162 (by decide) ?_
                  exact kz_zret F (d7) hdy (by first | exact Or.inl rfl | exact Or.inr rfl | assumption) (⟨hd_d7, by first | exact Or.inl rfl | exact Or.inr rfl | assumption, by first | exact Or.inr ⟨rfl, fun h9 => kv_over hd_gmp (by omega) hI h9.2⟩ | exact Or.inr ⟨rfl, fun h9 => by have h8 := kv_cmpGt hI hc155; have h7 := h9.2; omega⟩, trivial⟩) zd_N_isWithin_163
                · have hc141 : (((c6 : Nat) : Int)) = 0 := (kz_lz_eq (by omega) (by omega) (by omega) (by omega)).mp hc141
                  refine lv_aload_n hx hb zd_N_isWithin_144 rfl (lv_at hl 4 rfl) ?_
                  refine va_get (D := (dC, dI)) (ci := 4) (v := .ref me) (C := zR_N) (T := zT_N) (N := 26) hx hb hts (fun w h => kz_c (zi_N w h)) hown hK (hro.ob hdy.2.2 (k := 0) rfl) 0 rfl rfl 14 (by decide) (hts _ (kz_c mw_605)) (fun _ h9 => h9) rfl zd_N_isWithin_145 ?_
                  refine lv_aload_n hx hb zd_N_isWithin_148 rfl (lv_at hl 4 rfl) ?_
                  refine va_get (D := (dC, dI)) (ci := 4) (v := .ref mp) (C := zR_N) (T := zT_N) (N := 26) hx hb hts (fun w h => kz_c (zi_N w h)) hown hK (hro.ob hdy.2.2 (k := 0) rfl) 0 rfl rfl 8 (by decide) (hts _ (kz_c mw_599)) (fun _ h9 => h9) rfl zd_N_isWithin_149 ?_
                  refine kz_calli (wk := [(me, .inl (cI, 18, .inl (kz_dg d7)))]) (va_runS (As := [.ref me, .ref mp]) (rest := []) ⟨hx, hb, hml, hown, hts⟩ (c_F_compare18 l dC dI cI cAA cB cL me mp d7 gmp _ hd_d7 hd_gmp) (va_cwS 2 hts (kz_g (kz_mc mw_715 (kz_mc mw_716 (kz_mc mw_43 kz_mn))) mw_717) rfl rfl rfl (by decide +kernel) ⟨Nat.le_of_ble_eq_true rfl, Nat.le_of_ble_eq_true rfl⟩) (kz_preS hdy hA hK hro hZ hN [] (by decide) rfl [(false, 0), (true, 2)] rfl (by decide) [0, 1, 2, 3] rfl (fun _ h => by cases h) (fun _ h => by cases h) rfl) rfl rfl hl.1 rfl (lv_room (Nat.le_of_ble_eq_true rfl)) zd_N_isWithin_152 ⟨Nat.le_of_ble_eq_true rfl, Nat.le_of_ble_eq_true rfl⟩) hdy hA [] [0] rfl rfl (by decide) (by decide) (fun r u H locs hw hdy => ?_)
                  obtain ⟨r9, rfl⟩ : ∃ z, z = r := ⟨_, rfl⟩
                  try dsimp only at hw
                  obtain ⟨q10, -⟩ := hw
                  have hdy : kz_dy (dC, dI) vwCl A s.heap H locs [(me, .inl (cI, 18, .inl (kz_dg d7)))] := hdy.sub [0] (by decide) rfl
                  have hev := kv_even (by omega) hI
                  refine lv_if_gt (tgt := 162) hx hb zd_N_isWithin_155 (by decide) (fun hc155 => ?_) (fun hc155 => ?_)
                  · refine lv_iconst (v := (nI (0))) hx hb zd_N_isWithin_162 (by decide) ?_
                    exact kz_zret F (d7) hdy (by first | exact Or.inl rfl | exact Or.inr rfl | assumption) (⟨hd_d7, by first | exact Or.inl rfl | exact Or.inr rfl | assumption, by first | exact Or.inr ⟨rfl, fun h9 => kv_over hd_gmp (by omega) hI h9.2⟩ | exact Or.inr ⟨rfl, fun h9 => by have h8 := kv_cmpGt q10 hc155; have h7 := h9.2; omega⟩, trivial⟩) zd_N_isWithin_163
                  · refine lv_iconst (v := (nI (1))) hx hb zd_N_isWithin_158 (by decide) ?_
                    refine lv_goto (tgt := 163) hx hb zd_N_isWithin_159 (by decide) ?_
                    exact kz_zret F (d7) hdy (by first | exact Or.inl rfl | exact Or.inr rfl | assumption) (⟨hd_d7, by first | exact Or.inl rfl | exact Or.inr rfl | assumption, by exact Or.inl ⟨rfl, h2V, by have h8 := kv_cmpLe q10 hc155; omega⟩, trivial⟩) zd_N_isWithin_163
              · have hc97 : ¬ 16 ≤ k93 := fun h9 => hc97 ((nI_leI (by omega) (by omega)).mpr h9)
                refine lv_lload hx hb zd_N_isWithin_100 (lv_at hl 1 rfl) ?_
                refine lv_aload_n hx hb zd_N_isWithin_102 rfl (lv_at hl 5 rfl) ?_
                refine lv_iload hx hb zd_N_isWithin_103 (lv_at hl 0 rfl) ?_
                refine kz_riald hx hb hK hro hdy.2.2 1 0 rfl rfl (vp_in_nI (by omega) (by omega)) zd_N_isWithin_105 ?_
                refine lv_topi (fun x11 h9 => ?_)
                obtain rfl : x11 = nI (ga k93) := h9.trans (kz_dgl ga (by omega))
                have hbx11 := hd_ga k93
                refine lv_i2l hx hb zd_N_isWithin_106 (kz_lz_i (n := ga k93) (by omega)) ?_
                refine lv_ladd hx hb zd_N_isWithin_107 ?_
                refine lv_topl (fun yl12 h9 => ?_)
                obtain rfl : yl12 = kz_lz ((((c6 : Nat) : Int)) + (((ga k93 : Nat) : Int))) := h9.trans (kz_lz_add _ _)
                refine lv_topl (fun yl14 h9 => ?_)
                obtain ⟨n13, en13, rfl⟩ := kz_toN (e := (((c6 : Nat) : Int)) + (((ga k93 : Nat) : Int))) h9 (by omega)
                refine lv_lstore (lv' := [(7, .long (kz_lz (((n13 : Nat) : Int)))), (9, .int (nI (k93))), (6, .int (nI (c4))), (4, .long (kz_lz (((c5 : Nat) : Int)))), (0, .ref o), (1, .ref a), (2, .int (nI (2))), (3, .int (nI (2)))]) hx hb zd_N_isWithin_108 hl (by decide) rfl (fun ls hl => ?_)
                refine lv_aload_n hx hb zd_N_isWithin_110 rfl (lv_at hl 4 rfl) ?_
                refine va_get (D := (dC, dI)) (ci := 4) (v := .ref me) (C := zR_N) (T := zT_N) (N := 26) hx hb hts (fun w h => kz_c (zi_N w h)) hown hK (hro.ob hdy.2.2 (k := 0) rfl) 0 rfl rfl 14 (by decide) (hts _ (kz_c mw_605)) (fun _ h9 => h9) rfl zd_N_isWithin_111 ?_
                refine lv_iload hx hb zd_N_isWithin_114 (lv_at hl 1 rfl) ?_
                refine lv_lload hx hb zd_N_isWithin_116 (lv_at hl 0 rfl) ?_
                refine lv_ldc2 (v := (65535)) hx hb hown (hts _ (kz_c mw_708)) zd_N_isWithin_118 ?_
                refine lv_topl (fun yl15 h9 => ?_)
                obtain rfl : yl15 = kz_lz (65535) := h9.trans (kz_lz_c65535)
                refine lv_land hx hb zd_N_isWithin_121 ?_
                refine lv_topl (fun yl16 h9 => ?_)
                obtain rfl : yl16 = kz_lz ((((n13 : Nat) : Int)) % 65536) := h9.trans (kz_lz_andz _)
                refine lv_l2i hx hb zd_N_isWithin_122 (kz_lz_i32 ((((n13 : Nat) : Int)) % 65536)) ?_
                refine va_iast hx hb hK hdy.1 hdy.2.1 hdy.2.2 0 0 rfl rfl (vp_in_nI (by omega) (by omega)) zd_N_isWithin_123 (fun H locs hP hD hS => ?_)
                have h9 := kz_dgu d7 (k := k93) ((((((n13 : Nat) : Int)) % 65536) % 4294967296).toNat) (by omega)
                rw [h9] at hP hD
                obtain ⟨f17, ef17, hd_f17, hdy⟩ : ∃ f17 : Nat → Nat, f17 = kv_up d7 k93 ((((((n13 : Nat) : Int)) % 65536) % 4294967296).toNat) ∧ (∀ j, f17 j < 65536) ∧ kz_dy (dC, dI) vwCl A s.heap H locs [(me, .inl (cI, 18, .inl (kz_dg f17)))] := ⟨_, rfl, kv_up_lt hd_d7 (by omega), hP, hD, hS⟩
                refine lv_lload hx hb zd_N_isWithin_124 (lv_at hl 0 rfl) ?_
                refine lv_bipush (v := (nI (16))) hx hb zd_N_isWithin_126 (by decide) ?_
                refine lv_lshr hx hb zd_N_isWithin_128 (kz_lz_shr (z := (((n13 : Nat) : Int))) (by omega) (by omega)) ?_
                refine lv_topl (fun yl19 h9 => ?_)
                obtain ⟨n18, en18, rfl⟩ := kz_toN (e := (((n13 : Nat) : Int)) / 65536) h9 (by omega)
                refine lv_lstore (lv' := [(7, .long (kz_lz (((n18 : Nat) : Int)))), (9, .int (nI (k93))), (6, .int (nI (c4))), (4, .long (kz_lz (((c5 : Nat) : Int)))), (0, .ref o), (1, .ref a), (2, .int (nI (2))), (3, .int (nI (2)))]) hx hb zd_N_isWithin_129 hl (by decide) rfl (fun ls hl => ?_)
                refine lv_iinc (v := (nI (k93 + 1))) (lv' := [(9, .int (nI (k93 + 1))), (7, .long (kz_lz (((n18 : Nat) : Int)))), (6, .int (nI (c4))), (4, .long (kz_lz (((c5 : Nat) : Int)))), (0, .ref o), (1, .ref a), (2, .int (nI (2))), (3, .int (nI (2)))]) hx hb zd_N_isWithin_131 hl (k := 1) rfl (nI_1 _) (by decide) rfl (fun ls hl => ?_)
                refine lv_goto (tgt := 93) hx hb zd_N_isWithin_134 (by decide) ?_
                have hi9_hcb20 : n18 ≤ 2 := by omega
                have hi9_hI21 : kv_val f17 (k93 + 1) + n18 * 65536 ^ (k93 + 1) = 2 + kv_val ga (k93 + 1) := by rw [ef17]; have h7 : ((((n13 : Nat) : Int) % 65536) % 4294967296).toNat = n13 % 65536 := (by omega); have h6 : n18 = n13 / 65536 := (by omega); rw [h7, h6]; exact kv_addStep (by omega) hI
                exact ih93 (k93 + 1) (n18) f17 _ _ _ (by omega) (by omega) hd_f17 hi9_hcb20 hi9_hI21 hdy (lv_sub hl [0, 1, 2, 3, 4, 5, 6, 7] rfl)
          have hi9_hcb22 : 2 ≤ 2 := by omega
          have hi9_hI23 : kv_val gme (0) + 2 * 65536 ^ (0) = 2 + kv_val ga (0) := by show 0 + 2 * 1 = 2 + 0; rfl
          exact lp93 (16 - 0 + 1) 0 (2) gme _ _ _ (by omega) (by omega) hd_gme hi9_hcb22 hi9_hI23 hdy (lv_sub hl [0, 1, 2, 3, 4, 5, 6, 7] rfl)
        · have hc73 : c4 = 0 := (kx_nIeq (by omega) (by omega)).mp (by rw [nI_0]; exact hc73)
          refine lv_lload hx hb zd_N_isWithin_76 (lv_at hl 2 rfl) ?_
          refine lv_iload_n hx hb zd_N_isWithin_78 rfl (lv_at hl 5 rfl) ?_
          refine lv_i2l hx hb zd_N_isWithin_79 (kz_lz_i (n := 2) (by omega)) ?_
          refine kz_lge (tgt := 86) hx hb zd_N_isWithin_80 zd_N_isWithin_81 (by decide) (fun hc81 => ?_) (fun hc81 => ?_)
          · have hc81 : ¬ (((c5 : Nat) : Int)) < (((2 : Nat) : Int)) := fun h9 => hc81 ((kz_lz_lt (by omega) (by omega) (by omega) (by omega)).mpr h9)
            have h2V : 2 ≤ kv_val ga 16 := by first | (have h8 := kv_flag_of hgt (by omega); omega) | (rw [kv_two (fun j a b => hgz (by omega) j (by omega) a b)]; have h8 := hs0 hc12; omega)
            refine lv_iload_n hx hb zd_N_isWithin_86 rfl (lv_at hl 6 rfl) ?_
            refine lv_i2l hx hb zd_N_isWithin_87 (kz_lz_i (n := 2) (by omega)) ?_
            refine lv_lstore (lv' := [(7, .long (kz_lz (((2 : Nat) : Int)))), (6, .int (nI (c4))), (4, .long (kz_lz (((c5 : Nat) : Int)))), (0, .ref o), (1, .ref a), (2, .int (nI (2))), (3, .int (nI (2)))]) hx hb zd_N_isWithin_88 hl (by decide) rfl (fun ls hl => ?_)
            refine lv_iconst (v := (nI (0))) hx hb zd_N_isWithin_90 (by decide) ?_
            refine lv_istore (lv' := [(9, .int (nI (0))), (7, .long (kz_lz (((2 : Nat) : Int)))), (6, .int (nI (c4))), (4, .long (kz_lz (((c5 : Nat) : Int)))), (0, .ref o), (1, .ref a), (2, .int (nI (2))), (3, .int (nI (2)))]) hx hb zd_N_isWithin_91 hl (by decide) rfl (fun ls hl => ?_)
            have lp93 : ∀ (n93 k93 : Nat) (c24 : Nat) (d25 : Nat → Nat) (H : Heap) (locs : List Loc) (ls : Array Slot), k93 ≤ 16 → 16 - k93 < n93 → (∀ j, d25 j < 65536) → (c24 ≤ 2) → (kv_val d25 (k93) + c24 * 65536 ^ (k93) = 2 + kv_val ga (k93)) → kz_dy (dC, dI) vwCl A s.heap H locs [(me, .inl (cI, 18, .inl (kz_dg d25)))] → lv_has ls 10 [(9, .int (nI (k93))), (7, .long (kz_lz (((c24 : Nat) : Int)))), (6, .int (nI (c4))), (4, .long (kz_lz (((c5 : Nat) : Int)))), (0, .ref o), (1, .ref a), (2, .int (nI (2))), (3, .int (nI (2)))] → W p l e { frames := 1, cells := 0, slots := 0, locals := 22 } s m ([.ref o, .ref a, .int (nI (2)), .int (nI (2))] : List Value).toArray below meth c H locs 0 0 (MQ below (va_Qi (fun (r : Int32) (u : (Nat → Nat)) => (∀ j, u j < 65536) ∧ (r = 0 ∨ r = 1) ∧ ((r = 1 ∧ 2 ≤ kv_val ga 16 ∧ kv_val ga 16 + 2 ≤ kv_val gmp 16) ∨ (r = 0 ∧ ¬ (2 ≤ kv_val ga 16 ∧ kv_val ga 16 + 2 ≤ kv_val gmp 16))) ∧ True) (kz_B (dC, dI) vwCl A (fun u : (Nat → Nat) => [(me, .inl (cI, 18, .inl (kz_dg u)))])) A) ([.ref o, .ref a, .int (nI (2)), .int (nI (2))] : List Value).toArray s 0 0 A) (F0 m 93 ls []) := by
              intro n93
              induction n93 with
              | zero => intro k93; intros; omega
              | succ n93 ih93 =>
                intro k93 c24 d25 H locs ls hi93 hn93 hd_d25 hcb hI hdy hl
                refine lv_iload hx hb zd_N_isWithin_93 (lv_at hl 0 rfl) ?_
                refine lv_bipush (v := (nI (16))) hx hb zd_N_isWithin_95 (by decide) ?_
                refine lv_icmp_ge (tgt := 137) hx hb zd_N_isWithin_97 (by decide) (fun hc97 => ?_) (fun hc97 => ?_)
                · have hc97 : 16 ≤ k93 := (nI_leI (by omega) (by omega)).mp hc97
                  have h16 : k93 = 16 := (by omega)
                  rw [h16] at hI
                  refine lv_lload hx hb zd_N_isWithin_137 (lv_at hl 1 rfl) ?_
                  refine lv_lconst (v := 0) hx hb zd_N_isWithin_139 (by decide) ?_
                  refine lv_topl (fun yl26 h9 => ?_)
                  obtain rfl : yl26 = kz_lz (0) := h9.trans (kz_lz_c0)
                  refine kz_lne (tgt := 162) hx hb zd_N_isWithin_140 zd_N_isWithin_141 (by decide) (fun hc141 => ?_) (fun hc141 => ?_)
                  · have hc141 : ¬ (((c24 : Nat) : Int)) = 0 := fun h9 => hc141 ((kz_lz_eq (by omega) (by omega) (by omega) (by omega)).mpr h9)
                    refine lv_iconst (v := (nI (0))) hx hb zd_N_isWithin_162 (by decide) ?_
                    exact kz_zret F (d25) hdy (by first | exact Or.inl rfl | exact Or.inr rfl | assumption) (⟨hd_d25, by first | exact Or.inl rfl | exact Or.inr rfl | assumption, by first | exact Or.inr ⟨rfl, fun h9 => kv_over hd_gmp (by omega) hI h9.2⟩ | exact Or.inr ⟨rfl, fun h9 => by have h8 := kv_cmpGt q10 hc155; have h7 := h9.2; omega⟩, trivial⟩) zd_N_isWithin_163
                  · have hc141 : (((c24 : Nat) : Int)) = 0 := (kz_lz_eq (by omega) (by omega) (by omega) (by omega)).mp hc141
                    refine lv_aload_n hx hb zd_N_isWithin_144 rfl (lv_at hl 4 rfl) ?_
                    refine va_get (D := (dC, dI)) (ci := 4) (v := .ref me) (C := zR_N) (T := zT_N) (N := 26) hx hb hts (fun w h => kz_c (zi_N w h)) hown hK (hro.ob hdy.2.2 (k := 0) rfl) 0 rfl rfl 14 (by decide) (hts _ (kz_c mw_605)) (fun _ h9 => h9) rfl zd_N_isWithin_145 ?_
                    refine lv_aload_n hx hb zd_N_isWithin_148 rfl (lv_at hl 4 rfl) ?_
                    refine va_get (D := (dC, dI)) (ci := 4) (v := .ref mp) (C := zR_N) (T := zT_N) (N := 26) hx hb hts (fun w h => kz_c (zi_N w h)) hown hK (hro.ob hdy.2.2 (k := 0) rfl) 0 rfl rfl 8 (by decide) (hts _ (kz_c mw_599)) (fun _ h9 => h9) rfl zd_N_isWithin_149 ?_
                    refine kz_calli (wk := [(me, .inl (cI, 18, .inl (kz_dg d25)))]) (va_runS (As := [.ref me, .ref mp]) (rest := []) ⟨hx, hb, hml, hown, hts⟩ (c_F_compare18 l dC dI cI cAA cB cL me mp d25 gmp _ hd_d25 hd_gmp) (va_cwS 2 hts (kz_g (kz_mc mw_715 (kz_mc mw_716 (kz_mc mw_43 kz_mn))) mw_717) rfl rfl rfl (by decide +kernel) ⟨Nat.le_of_ble_eq_true rfl, Nat.le_of_ble_eq_true rfl⟩) (kz_preS hdy hA hK hro hZ hN [] (by decide) rfl [(false, 0), (true, 2)] rfl (by decide) [0, 1, 2, 3] rfl (fun _ h => by cases h) (fun _ h => by cases h) rfl) rfl rfl hl.1 rfl (lv_room (Nat.le_of_ble_eq_true rfl)) zd_N_isWithin_152 ⟨Nat.le_of_ble_eq_true rfl, Nat.le_of_ble_eq_true rfl⟩) hdy hA [] [0] rfl rfl (by decide) (by decide) (fun r u H locs hw hdy => ?_)
                    obtain ⟨r27, rfl⟩ : ∃ z, z = r := ⟨_, rfl⟩
                    try dsimp only at hw
                    obtain ⟨q28, -⟩ := hw
                    have hdy : kz_dy (dC, dI) vwCl A s.heap H locs [(me, .inl (cI, 18, .inl (kz_dg d25)))] := hdy.sub [0] (by decide) rfl
                    have hev := kv_even (by omega) hI
                    refine lv_if_gt (tgt := 162) hx hb zd_N_isWithin_155 (by decide) (fun hc155 => ?_) (fun hc155 => ?_)
                    · refine lv_iconst (v := (nI (0))) hx hb zd_N_isWithin_162 (by decide) ?_
                      exact kz_zret F (d25) hdy (by first | exact Or.inl rfl | exact Or.inr rfl | assumption) (⟨hd_d25, by first | exact Or.inl rfl | exact Or.inr rfl | assumption, by first | exact Or.inr ⟨rfl, fun h9 => kv_over hd_gmp (by omega) hI h9.2⟩ | exact Or.inr ⟨rfl, fun h9 => by have h8 := kv_cmpGt q28 hc155; have h7 := h9.2; omega⟩, trivial⟩) zd_N_isWithin_163
                    · refine lv_iconst (v := (nI (1))) hx hb zd_N_isWithin_158 (by decide) ?_
                      refine lv_goto (tgt := 163) hx hb zd_N_isWithin_159 (by decide) ?_
                      exact kz_zret F (d25) hdy (by first | exact Or.inl rfl | exact Or.inr rfl | assumption) (⟨hd_d25, by first | exact Or.inl rfl | exact Or.inr rfl | assumption, by exact Or.inl ⟨rfl, h2V, by have h8 := kv_cmpLe q28 hc155; omega⟩, trivial⟩) zd_N_isWithin_163
                · have hc97 : ¬ 16 ≤ k93 := fun h9 => hc97 ((nI_leI (by omega) (by omega)).mpr h9)
                  refine lv_lload hx hb zd_N_isWithin_100 (lv_at hl 1 rfl) ?_
                  refine lv_aload_n hx hb zd_N_isWithin_102 rfl (lv_at hl 5 rfl) ?_
                  refine lv_iload hx hb zd_N_isWithin_103 (lv_at hl 0 rfl) ?_
                  refine kz_riald hx hb hK hro hdy.2.2 1 0 rfl rfl (vp_in_nI (by omega) (by omega)) zd_N_isWithin_105 ?_
                  refine lv_topi (fun x29 h9 => ?_)
                  obtain rfl : x29 = nI (ga k93) := h9.trans (kz_dgl ga (by omega))
                  have hbx29 := hd_ga k93
                  refine lv_i2l hx hb zd_N_isWithin_106 (kz_lz_i (n := ga k93) (by omega)) ?_
                  refine lv_ladd hx hb zd_N_isWithin_107 ?_
                  refine lv_topl (fun yl30 h9 => ?_)
                  obtain rfl : yl30 = kz_lz ((((c24 : Nat) : Int)) + (((ga k93 : Nat) : Int))) := h9.trans (kz_lz_add _ _)
                  refine lv_topl (fun yl32 h9 => ?_)
                  obtain ⟨n31, en31, rfl⟩ := kz_toN (e := (((c24 : Nat) : Int)) + (((ga k93 : Nat) : Int))) h9 (by omega)
                  refine lv_lstore (lv' := [(7, .long (kz_lz (((n31 : Nat) : Int)))), (9, .int (nI (k93))), (6, .int (nI (c4))), (4, .long (kz_lz (((c5 : Nat) : Int)))), (0, .ref o), (1, .ref a), (2, .int (nI (2))), (3, .int (nI (2)))]) hx hb zd_N_isWithin_108 hl (by decide) rfl (fun ls hl => ?_)
                  refine lv_aload_n hx hb zd_N_isWithin_110 rfl (lv_at hl 4 rfl) ?_
                  refine va_get (D := (dC, dI)) (ci := 4) (v := .ref me) (C := zR_N) (T := zT_N) (N := 26) hx hb hts (fun w h => kz_c (zi_N w h)) hown hK (hro.ob hdy.2.2 (k := 0) rfl) 0 rfl rfl 14 (by decide) (hts _ (kz_c mw_605)) (fun _ h9 => h9) rfl zd_N_isWithin_111 ?_
                  refine lv_iload hx hb zd_N_isWithin_114 (lv_at hl 1 rfl) ?_
                  refine lv_lload hx hb zd_N_isWithin_116 (lv_at hl 0 rfl) ?_
                  refine lv_ldc2 (v := (65535)) hx hb hown (hts _ (kz_c mw_708)) zd_N_isWithin_118 ?_
                  refine lv_topl (fun yl33 h9 => ?_)
                  obtain rfl : yl33 = kz_lz (65535) := h9.trans (kz_lz_c65535)
                  refine lv_land hx hb zd_N_isWithin_121 ?_
                  refine lv_topl (fun yl34 h9 => ?_)
                  obtain rfl : yl34 = kz_lz ((((n31 : Nat) : Int)) % 65536) := h9.trans (kz_lz_andz _)
                  refine lv_l2i hx hb zd_N_isWithin_122 (kz_lz_i32 ((((n31 : Nat) : Int)) % 65536)) ?_
                  refine va_iast hx hb hK hdy.1 hdy.2.1 hdy.2.2 0 0 rfl rfl (vp_in_nI (by omega) (by omega)) zd_N_isWithin_123 (fun H locs hP hD hS => ?_)
                  have h9 := kz_dgu d25 (k := k93) ((((((n31 : Nat) : Int)) % 65536) % 4294967296).toNat) (by omega)
                  rw [h9] at hP hD
                  obtain ⟨f35, ef35, hd_f35, hdy⟩ : ∃ f35 : Nat → Nat, f35 = kv_up d25 k93 ((((((n31 : Nat) : Int)) % 65536) % 4294967296).toNat) ∧ (∀ j, f35 j < 65536) ∧ kz_dy (dC, dI) vwCl A s.heap H locs [(me, .inl (cI, 18, .inl (kz_dg f35)))] := ⟨_, rfl, kv_up_lt hd_d25 (by omega), hP, hD, hS⟩
                  refine lv_lload hx hb zd_N_isWithin_124 (lv_at hl 0 rfl) ?_
                  refine lv_bipush (v := (nI (16))) hx hb zd_N_isWithin_126 (by decide) ?_
                  refine lv_lshr hx hb zd_N_isWithin_128 (kz_lz_shr (z := (((n31 : Nat) : Int))) (by omega) (by omega)) ?_
                  refine lv_topl (fun yl37 h9 => ?_)
                  obtain ⟨n36, en36, rfl⟩ := kz_toN (e := (((n31 : Nat) : Int)) / 65536) h9 (by omega)
                  refine lv_lstore (lv' := [(7, .long (kz_lz (((n36 : Nat) : Int)))), (9, .int (nI (k93))), (6, .int (nI (c4))), (4, .long (kz_lz (((c5 : Nat) : Int)))), (0, .ref o), (1, .ref a), (2, .int (nI (2))), (3, .int (nI (2)))]) hx hb zd_N_isWithin_129 hl (by decide) rfl (fun ls hl => ?_)
                  refine lv_iinc (v := (nI (k93 + 1))) (lv' := [(9, .int (nI (k93 + 1))), (7, .long (kz_lz (((n36 : Nat) : Int)))), (6, .int (nI (c4))), (4, .long (kz_lz (((c5 : Nat) : Int)))), (0, .ref o), (1, .ref a), (2, .int (nI (2))), (3, .int (nI (2)))]) hx hb zd_N_isWithin_131 hl (k := 1) rfl (nI_1 _) (by decide) rfl (fun ls hl => ?_)
                  refine lv_goto (tgt := 93) hx hb zd_N_isWithin_134 (by decide) ?_
                  have hi9_hcb38 : n36 ≤ 2 := by omega
                  have hi9_hI39 : kv_val f35 (k93 + 1) + n36 * 65536 ^ (k93 + 1) = 2 + kv_val ga (k93 + 1) := by rw [ef35]; have h7 : ((((n31 : Nat) : Int) % 65536) % 4294967296).toNat = n31 % 65536 := (by omega); have h6 : n36 = n31 / 65536 := (by omega); rw [h7, h6]; exact kv_addStep (by omega) hI
                  exact ih93 (k93 + 1) (n36) f35 _ _ _ (by omega) (by omega) hd_f35 hi9_hcb38 hi9_hI39 hdy (lv_sub hl [0, 1, 2, 3, 4, 5, 6, 7] rfl)
            have hi9_hcb40 : 2 ≤ 2 := by omega
            have hi9_hI41 : kv_val gme (0) + 2 * 65536 ^ (0) = 2 + kv_val ga (0) := by show 0 + 2 * 1 = 2 + 0; rfl
            exact lp93 (16 - 0 + 1) 0 (2) gme _ _ _ (by omega) (by omega) hd_gme hi9_hcb40 hi9_hI41 hdy (lv_sub hl [0, 1, 2, 3, 4, 5, 6, 7] rfl)
          · have hc81 : (((c5 : Nat) : Int)) < (((2 : Nat) : Int)) := (kz_lz_lt (by omega) (by omega) (by omega) (by omega)).mp hc81
            refine lv_iconst (v := (nI (0))) hx hb zd_N_isWithin_84 (by decide) ?_
            exact kz_zret F (gme) hdy (by first | exact Or.inl rfl | exact Or.inr rfl | assumption) (⟨hd_gme, by first | exact Or.inl rfl | exact Or.inr rfl | assumption, by exact Or.inr ⟨rfl, fun h9 => by have h8 := h9.1; rw [kv_two (fun j a b => hgz (by omega) j (by omega) a b)] at h8; have h7 := hs0 hc12; omega⟩, trivial⟩) zd_N_isWithin_85
      · have hc12 : ¬ k10 = 0 := fun h9 => hc12 ((kz_neg (by omega)).mpr h9)
        obtain ⟨k10p, rfl⟩ : ∃ j, k10 = j + 1 := ⟨k10 - 1, by omega⟩
        rw [nI_pred] at hl
        refine lv_iload hx hb zd_N_isWithin_15 (lv_at hl 1 rfl) ?_
        refine lv_if_ne (tgt := 33) hx hb zd_N_isWithin_17 (by decide) (fun hc17 => ?_) (fun hc17 => ?_)
        · have hc17 : ¬ c4 = 0 := fun h9 => hc17 (by have h8 := (kx_nIeq (by omega) (by omega)).mpr h9; rw [nI_0] at h8; exact h8)
          refine lv_iconst (v := (nI (1))) hx hb zd_N_isWithin_33 (by decide) ?_
          refine lv_goto (tgt := 38) hx hb zd_N_isWithin_34 (by decide) ?_
          refine lv_istore (lv' := [(6, .int (nI (1))), (7, .int (nI (k10p))), (4, .long (kz_lz (((c5 : Nat) : Int)))), (0, .ref o), (1, .ref a), (2, .int (nI (2))), (3, .int (nI (2)))]) hx hb zd_N_isWithin_38 hl (by decide) rfl (fun ls hl => ?_)
          refine lv_iload hx hb zd_N_isWithin_40 (lv_at hl 1 rfl) ?_
          refine lv_iconst (v := (nI (2))) hx hb zd_N_isWithin_42 (by decide) ?_
          refine lv_icmp_ge (tgt := 61) hx hb zd_N_isWithin_43 (by decide) (fun hc43 => ?_) (fun hc43 => ?_)
          · have hc43 : 2 ≤ k10p := (nI_leI (by omega) (by omega)).mp hc43
            refine lv_lload hx hb zd_N_isWithin_61 (lv_at hl 2 rfl) ?_
            refine lv_topl (fun yl43 h9 => ?_)
            obtain ⟨n42, en42, rfl⟩ := kz_toN (e := ((c5 : Nat) : Int)) h9 (by omega)
            refine lv_lstore (lv' := [(4, .long (kz_lz (((n42 : Nat) : Int)))), (6, .int (nI (1))), (7, .int (nI (k10p))), (0, .ref o), (1, .ref a), (2, .int (nI (2))), (3, .int (nI (2)))]) hx hb zd_N_isWithin_63 hl (by decide) rfl (fun ls hl => ?_)
            refine lv_iinc (v := (nI (k10p) - 1)) (lv' := [(7, .int (nI (k10p) - 1)), (4, .long (kz_lz (((n42 : Nat) : Int)))), (6, .int (nI (1))), (0, .ref o), (1, .ref a), (2, .int (nI (2))), (3, .int (nI (2)))]) hx hb zd_N_isWithin_65 hl (k := 2) rfl (kz_m1 _) (by decide) rfl (fun ls hl => ?_)
            refine lv_goto (tgt := 10) hx hb zd_N_isWithin_68 (by decide) ?_
            have hi9_hg144 : 1 ≤ 1 := by omega
            have hi9_hgt45 : kv_flag (1) (4294967296 ≤ kv_val ga 16) := by first | exact hgt | exact Or.inl rfl | exact Or.inr (kv_flag_of hgt (by omega)) | exact Or.inr (kv_bigW (k := k10p) (by omega) (by omega) (by omega))
            have hi9_hgz46 : 1 = 0 → ∀ j, k10p ≤ j → 2 ≤ j → j < 16 → ga j = 0 := by intro h j a b c; first | (exfalso; omega) | (rcases (by omega : j = k10p ∨ k10p + 1 ≤ j) with h8 | h8; (subst h8; first | omega | (exfalso; omega)); exact hgz (by omega) j h8 b c)
            have hi9_hs247 : 2 ≤ k10p → n42 = 0 := by intro h; have h8 := hs2 (by omega); omega
            have hi9_hs148 : k10p = 1 → n42 = ga 1 := by intro h; have h8 := hs2 (by omega); subst h; omega
            have hi9_hs049 : k10p = 0 → n42 = 65536 * ga 1 + ga 0 := by intro h; have h8 := hs1 (by omega); subst h; omega
            have hi9_hsb50 : n42 < 4294967296 := by have h9 := hd_ga 0; have h8 := hd_ga 1; rcases (by omega : k10p = 0 ∨ k10p = 1 ∨ 2 ≤ k10p) with h | h | h; (have h7 := hs1 (by omega); subst h; omega); (have h7 := hs2 (by omega); subst h; omega); (have h7 := hs2 (by omega); omega)
            exact ih10 k10p (1) (n42) _ _ _ (by omega) (by omega) hi9_hg144 hi9_hgt45 hi9_hgz46 hi9_hs247 hi9_hs148 hi9_hs049 hi9_hsb50 hdy (lv_sub hl [0, 2, 1, 3, 4, 5, 6] rfl)
          · have hc43 : ¬ 2 ≤ k10p := fun h9 => hc43 ((nI_leI (by omega) (by omega)).mpr h9)
            refine lv_ldc2 (v := (65536)) hx hb hown (hts _ (kz_c mw_709)) zd_N_isWithin_46 ?_
            refine lv_topl (fun yl51 h9 => ?_)
            obtain rfl : yl51 = kz_lz (65536) := h9.trans (kz_lz_c65536)
            refine lv_lload hx hb zd_N_isWithin_49 (lv_at hl 2 rfl) ?_
            refine lv_lmul hx hb zd_N_isWithin_51 ?_
            refine lv_topl (fun yl52 h9 => ?_)
            obtain rfl : yl52 = kz_lz (65536 * (((c5 : Nat) : Int))) := h9.trans (kz_lz_mul _ _)
            refine lv_aload_n hx hb zd_N_isWithin_52 rfl (lv_at hl 4 rfl) ?_
            refine lv_iload hx hb zd_N_isWithin_53 (lv_at hl 1 rfl) ?_
            refine kz_riald hx hb hK hro hdy.2.2 1 0 rfl rfl (vp_in_nI (by omega) (by omega)) zd_N_isWithin_55 ?_
            refine lv_topi (fun x53 h9 => ?_)
            obtain rfl : x53 = nI (ga k10p) := h9.trans (kz_dgl ga (by omega))
            have hbx53 := hd_ga k10p
            refine lv_i2l hx hb zd_N_isWithin_56 (kz_lz_i (n := ga k10p) (by omega)) ?_
            refine lv_ladd hx hb zd_N_isWithin_57 ?_
            refine lv_topl (fun yl54 h9 => ?_)
            obtain rfl : yl54 = kz_lz ((65536 * (((c5 : Nat) : Int))) + (((ga k10p : Nat) : Int))) := h9.trans (kz_lz_add _ _)
            refine lv_goto (tgt := 63) hx hb zd_N_isWithin_58 (by decide) ?_
            refine lv_topl (fun yl56 h9 => ?_)
            obtain ⟨n55, en55, rfl⟩ := kz_toN (e := (65536 * (((c5 : Nat) : Int))) + (((ga k10p : Nat) : Int))) h9 (by omega)
            refine lv_lstore (lv' := [(4, .long (kz_lz (((n55 : Nat) : Int)))), (6, .int (nI (1))), (7, .int (nI (k10p))), (0, .ref o), (1, .ref a), (2, .int (nI (2))), (3, .int (nI (2)))]) hx hb zd_N_isWithin_63 hl (by decide) rfl (fun ls hl => ?_)
            refine lv_iinc (v := (nI (k10p) - 1)) (lv' := [(7, .int (nI (k10p) - 1)), (4, .long (kz_lz (((n55 : Nat) : Int)))), (6, .int (nI (1))), (0, .ref o), (1, .ref a), (2, .int (nI (2))), (3, .int (nI (2)))]) hx hb zd_N_isWithin_65 hl (k := 2) rfl (kz_m1 _) (by decide) rfl (fun ls hl => ?_)
            refine lv_goto (tgt := 10) hx hb zd_N_isWithin_68 (by decide) ?_
            have hi9_hg157 : 1 ≤ 1 := by omega
            have hi9_hgt58 : kv_flag (1) (4294967296 ≤ kv_val ga 16) := by first | exact hgt | exact Or.inl rfl | exact Or.inr (kv_flag_of hgt (by omega)) | exact Or.inr (kv_bigW (k := k10p) (by omega) (by omega) (by omega))
            have hi9_hgz59 : 1 = 0 → ∀ j, k10p ≤ j → 2 ≤ j → j < 16 → ga j = 0 := by intro h j a b c; first | (exfalso; omega) | (rcases (by omega : j = k10p ∨ k10p + 1 ≤ j) with h8 | h8; (subst h8; first | omega | (exfalso; omega)); exact hgz (by omega) j h8 b c)
            have hi9_hs260 : 2 ≤ k10p → n55 = 0 := by intro h; have h8 := hs2 (by omega); omega
            have hi9_hs161 : k10p = 1 → n55 = ga 1 := by intro h; have h8 := hs2 (by omega); subst h; omega
            have hi9_hs062 : k10p = 0 → n55 = 65536 * ga 1 + ga 0 := by intro h; have h8 := hs1 (by omega); subst h; omega
            have hi9_hsb63 : n55 < 4294967296 := by have h9 := hd_ga 0; have h8 := hd_ga 1; rcases (by omega : k10p = 0 ∨ k10p = 1 ∨ 2 ≤ k10p) with h | h | h; (have h7 := hs1 (by omega); subst h; omega); (have h7 := hs2 (by omega); subst h; omega); (have h7 := hs2 (by omega); omega)
            exact ih10 k10p (1) (n55) _ _ _ (by omega) (by omega) hi9_hg157 hi9_hgt58 hi9_hgz59 hi9_hs260 hi9_hs161 hi9_hs062 hi9_hsb63 hdy (lv_sub hl [0, 2, 1, 3, 4, 5, 6] rfl)
        · have hc17 : c4 = 0 := (kx_nIeq (by omega) (by omega)).mp (by rw [nI_0]; exact hc17)
          refine lv_iload hx hb zd_N_isWithin_20 (lv_at hl 0 rfl) ?_
          refine lv_iconst (v := (nI (1))) hx hb zd_N_isWithin_22 (by decide) ?_
          refine lv_icmp_le (tgt := 37) hx hb zd_N_isWithin_23 (by decide) (fun hc23 => ?_) (fun hc23 => ?_)
          · have hc23 : k10p ≤ 1 := (nI_leI (by omega) (by omega)).mp hc23
            refine lv_iconst (v := (nI (0))) hx hb zd_N_isWithin_37 (by decide) ?_
            refine lv_istore (lv' := [(6, .int (nI (0))), (7, .int (nI (k10p))), (4, .long (kz_lz (((c5 : Nat) : Int)))), (0, .ref o), (1, .ref a), (2, .int (nI (2))), (3, .int (nI (2)))]) hx hb zd_N_isWithin_38 hl (by decide) rfl (fun ls hl => ?_)
            refine lv_iload hx hb zd_N_isWithin_40 (lv_at hl 1 rfl) ?_
            refine lv_iconst (v := (nI (2))) hx hb zd_N_isWithin_42 (by decide) ?_
            refine lv_icmp_ge (tgt := 61) hx hb zd_N_isWithin_43 (by decide) (fun hc43 => ?_) (fun hc43 => ?_)
            · have hc43 : 2 ≤ k10p := (nI_leI (by omega) (by omega)).mp hc43
              refine lv_lload hx hb zd_N_isWithin_61 (lv_at hl 2 rfl) ?_
              refine lv_topl (fun yl65 h9 => ?_)
              obtain ⟨n64, en64, rfl⟩ := kz_toN (e := ((c5 : Nat) : Int)) h9 (by omega)
              refine lv_lstore (lv' := [(4, .long (kz_lz (((n64 : Nat) : Int)))), (6, .int (nI (0))), (7, .int (nI (k10p))), (0, .ref o), (1, .ref a), (2, .int (nI (2))), (3, .int (nI (2)))]) hx hb zd_N_isWithin_63 hl (by decide) rfl (fun ls hl => ?_)
              refine lv_iinc (v := (nI (k10p) - 1)) (lv' := [(7, .int (nI (k10p) - 1)), (4, .long (kz_lz (((n64 : Nat) : Int)))), (6, .int (nI (0))), (0, .ref o), (1, .ref a), (2, .int (nI (2))), (3, .int (nI (2)))]) hx hb zd_N_isWithin_65 hl (k := 2) rfl (kz_m1 _) (by decide) rfl (fun ls hl => ?_)
              refine lv_goto (tgt := 10) hx hb zd_N_isWithin_68 (by decide) ?_
              have hi9_hg166 : 0 ≤ 1 := by omega
              have hi9_hgt67 : kv_flag (0) (4294967296 ≤ kv_val ga 16) := by first | exact hgt | exact Or.inl rfl | exact Or.inr (kv_flag_of hgt (by omega)) | exact Or.inr (kv_bigW (k := k10p) (by omega) (by omega) (by omega))
              have hi9_hgz68 : 0 = 0 → ∀ j, k10p ≤ j → 2 ≤ j → j < 16 → ga j = 0 := by intro h j a b c; first | (exfalso; omega) | (rcases (by omega : j = k10p ∨ k10p + 1 ≤ j) with h8 | h8; (subst h8; first | omega | (exfalso; omega)); exact hgz (by omega) j h8 b c)
              have hi9_hs269 : 2 ≤ k10p → n64 = 0 := by intro h; have h8 := hs2 (by omega); omega
              have hi9_hs170 : k10p = 1 → n64 = ga 1 := by intro h; have h8 := hs2 (by omega); subst h; omega
              have hi9_hs071 : k10p = 0 → n64 = 65536 * ga 1 + ga 0 := by intro h; have h8 := hs1 (by omega); subst h; omega
              have hi9_hsb72 : n64 < 4294967296 := by have h9 := hd_ga 0; have h8 := hd_ga 1; rcases (by omega : k10p = 0 ∨ k10p = 1 ∨ 2 ≤ k10p) with h | h | h; (have h7 := hs1 (by omega); subst h; omega); (have h7 := hs2 (by omega); subst h; omega); (have h7 := hs2 (by omega); omega)
              exact ih10 k10p (0) (n64) _ _ _ (by omega) (by omega) hi9_hg166 hi9_hgt67 hi9_hgz68 hi9_hs269 hi9_hs170 hi9_hs071 hi9_hsb72 hdy (lv_sub hl [0, 2, 1, 3, 4, 5, 6] rfl)
            · have hc43 : ¬ 2 ≤ k10p := fun h9 => hc43 ((nI_leI (by omega) (by omega)).mpr h9)
              refine lv_ldc2 (v := (65536)) hx hb hown (hts _ (kz_c mw_709)) zd_N_isWithin_46 ?_
              refine lv_topl (fun yl73 h9 => ?_)
              obtain rfl : yl73 = kz_lz (65536) := h9.trans (kz_lz_c65536)
              refine lv_lload hx hb zd_N_isWithin_49 (lv_at hl 2 rfl) ?_
              refine lv_lmul hx hb zd_N_isWithin_51 ?_
              refine lv_topl (fun yl74 h9 => ?_)
              obtain rfl : yl74 = kz_lz (65536 * (((c5 : Nat) : Int))) := h9.trans (kz_lz_mul _ _)
              refine lv_aload_n hx hb zd_N_isWithin_52 rfl (lv_at hl 4 rfl) ?_
              refine lv_iload hx hb zd_N_isWithin_53 (lv_at hl 1 rfl) ?_
              refine kz_riald hx hb hK hro hdy.2.2 1 0 rfl rfl (vp_in_nI (by omega) (by omega)) zd_N_isWithin_55 ?_
              refine lv_topi (fun x75 h9 => ?_)
              obtain rfl : x75 = nI (ga k10p) := h9.trans (kz_dgl ga (by omega))
              have hbx75 := hd_ga k10p
              refine lv_i2l hx hb zd_N_isWithin_56 (kz_lz_i (n := ga k10p) (by omega)) ?_
              refine lv_ladd hx hb zd_N_isWithin_57 ?_
              refine lv_topl (fun yl76 h9 => ?_)
              obtain rfl : yl76 = kz_lz ((65536 * (((c5 : Nat) : Int))) + (((ga k10p : Nat) : Int))) := h9.trans (kz_lz_add _ _)
              refine lv_goto (tgt := 63) hx hb zd_N_isWithin_58 (by decide) ?_
              refine lv_topl (fun yl78 h9 => ?_)
              obtain ⟨n77, en77, rfl⟩ := kz_toN (e := (65536 * (((c5 : Nat) : Int))) + (((ga k10p : Nat) : Int))) h9 (by omega)
              refine lv_lstore (lv' := [(4, .long (kz_lz (((n77 : Nat) : Int)))), (6, .int (nI (0))), (7, .int (nI (k10p))), (0, .ref o), (1, .ref a), (2, .int (nI (2))), (3, .int (nI (2)))]) hx hb zd_N_isWithin_63 hl (by decide) rfl (fun ls hl => ?_)
              refine lv_iinc (v := (nI (k10p) - 1)) (lv' := [(7, .int (nI (k10p) - 1)), (4, .long (kz_lz (((n77 : Nat) : Int)))), (6, .int (nI (0))), (0, .ref o), (1, .ref a), (2, .int (nI (2))), (3, .int (nI (2)))]) hx hb zd_N_isWithin_65 hl (k := 2) rfl (kz_m1 _) (by decide) rfl (fun ls hl => ?_)
              refine lv_goto (tgt := 10) hx hb zd_N_isWithin_68 (by decide) ?_
              have hi9_hg179 : 0 ≤ 1 := by omega
              have hi9_hgt80 : kv_flag (0) (4294967296 ≤ kv_val ga 16) := by first | exact hgt | exact Or.inl rfl | exact Or.inr (kv_flag_of hgt (by omega)) | exact Or.inr (kv_bigW (k := k10p) (by omega) (by omega) (by omega))
              have hi9_hgz81 : 0 = 0 → ∀ j, k10p ≤ j → 2 ≤ j → j < 16 → ga j = 0 := by intro h j a b c; first | (exfalso; omega) | (rcases (by omega : j = k10p ∨ k10p + 1 ≤ j) with h8 | h8; (subst h8; first | omega | (exfalso; omega)); exact hgz (by omega) j h8 b c)
              have hi9_hs282 : 2 ≤ k10p → n77 = 0 := by intro h; have h8 := hs2 (by omega); omega
              have hi9_hs183 : k10p = 1 → n77 = ga 1 := by intro h; have h8 := hs2 (by omega); subst h; omega
              have hi9_hs084 : k10p = 0 → n77 = 65536 * ga 1 + ga 0 := by intro h; have h8 := hs1 (by omega); subst h; omega
              have hi9_hsb85 : n77 < 4294967296 := by have h9 := hd_ga 0; have h8 := hd_ga 1; rcases (by omega : k10p = 0 ∨ k10p = 1 ∨ 2 ≤ k10p) with h | h | h; (have h7 := hs1 (by omega); subst h; omega); (have h7 := hs2 (by omega); subst h; omega); (have h7 := hs2 (by omega); omega)
              exact ih10 k10p (0) (n77) _ _ _ (by omega) (by omega) hi9_hg179 hi9_hgt80 hi9_hgz81 hi9_hs282 hi9_hs183 hi9_hs084 hi9_hsb85 hdy (lv_sub hl [0, 2, 1, 3, 4, 5, 6] rfl)
          · have hc23 : ¬ k10p ≤ 1 := fun h9 => hc23 ((nI_leI (by omega) (by omega)).mpr h9)
            refine lv_aload_n hx hb zd_N_isWithin_26 rfl (lv_at hl 4 rfl) ?_
            refine lv_iload hx hb zd_N_isWithin_27 (lv_at hl 0 rfl) ?_
            refine kz_riald hx hb hK hro hdy.2.2 1 0 rfl rfl (vp_in_nI (by omega) (by omega)) zd_N_isWithin_29 ?_
            refine lv_topi (fun x86 h9 => ?_)
            obtain rfl : x86 = nI (ga k10p) := h9.trans (kz_dgl ga (by omega))
            have hbx86 := hd_ga k10p
            refine lv_if_le (tgt := 37) hx hb zd_N_isWithin_30 (by decide) (fun hc30 => ?_) (fun hc30 => ?_)
            · have hc30 : (ga k10p) ≤ 0 := (nI_leI (by omega) (by omega)).mp (by rw [nI_0]; exact hc30)
              refine lv_iconst (v := (nI (0))) hx hb zd_N_isWithin_37 (by decide) ?_
              refine lv_istore (lv' := [(6, .int (nI (0))), (7, .int (nI (k10p))), (4, .long (kz_lz (((c5 : Nat) : Int)))), (0, .ref o), (1, .ref a), (2, .int (nI (2))), (3, .int (nI (2)))]) hx hb zd_N_isWithin_38 hl (by decide) rfl (fun ls hl => ?_)
              refine lv_iload hx hb zd_N_isWithin_40 (lv_at hl 1 rfl) ?_
              refine lv_iconst (v := (nI (2))) hx hb zd_N_isWithin_42 (by decide) ?_
              refine lv_icmp_ge (tgt := 61) hx hb zd_N_isWithin_43 (by decide) (fun hc43 => ?_) (fun hc43 => ?_)
              · have hc43 : 2 ≤ k10p := (nI_leI (by omega) (by omega)).mp hc43
                refine lv_lload hx hb zd_N_isWithin_61 (lv_at hl 2 rfl) ?_
                refine lv_topl (fun yl88 h9 => ?_)
                obtain ⟨n87, en87, rfl⟩ := kz_toN (e := ((c5 : Nat) : Int)) h9 (by omega)
                refine lv_lstore (lv' := [(4, .long (kz_lz (((n87 : Nat) : Int)))), (6, .int (nI (0))), (7, .int (nI (k10p))), (0, .ref o), (1, .ref a), (2, .int (nI (2))), (3, .int (nI (2)))]) hx hb zd_N_isWithin_63 hl (by decide) rfl (fun ls hl => ?_)
                refine lv_iinc (v := (nI (k10p) - 1)) (lv' := [(7, .int (nI (k10p) - 1)), (4, .long (kz_lz (((n87 : Nat) : Int)))), (6, .int (nI (0))), (0, .ref o), (1, .ref a), (2, .int (nI (2))), (3, .int (nI (2)))]) hx hb zd_N_isWithin_65 hl (k := 2) rfl (kz_m1 _) (by decide) rfl (fun ls hl => ?_)
                refine lv_goto (tgt := 10) hx hb zd_N_isWithin_68 (by decide) ?_
                have hi9_hg189 : 0 ≤ 1 := by omega
                have hi9_hgt90 : kv_flag (0) (4294967296 ≤ kv_val ga 16) := by first | exact hgt | exact Or.inl rfl | exact Or.inr (kv_flag_of hgt (by omega)) | exact Or.inr (kv_bigW (k := k10p) (by omega) (by omega) (by omega))
                have hi9_hgz91 : 0 = 0 → ∀ j, k10p ≤ j → 2 ≤ j → j < 16 → ga j = 0 := by intro h j a b c; first | (exfalso; omega) | (rcases (by omega : j = k10p ∨ k10p + 1 ≤ j) with h8 | h8; (subst h8; first | omega | (exfalso; omega)); exact hgz (by omega) j h8 b c)
                have hi9_hs292 : 2 ≤ k10p → n87 = 0 := by intro h; have h8 := hs2 (by omega); omega
                have hi9_hs193 : k10p = 1 → n87 = ga 1 := by intro h; have h8 := hs2 (by omega); subst h; omega
                have hi9_hs094 : k10p = 0 → n87 = 65536 * ga 1 + ga 0 := by intro h; have h8 := hs1 (by omega); subst h; omega
                have hi9_hsb95 : n87 < 4294967296 := by have h9 := hd_ga 0; have h8 := hd_ga 1; rcases (by omega : k10p = 0 ∨ k10p = 1 ∨ 2 ≤ k10p) with h | h | h; (have h7 := hs1 (by omega); subst h; omega); (have h7 := hs2 (by omega); subst h; omega); (have h7 := hs2 (by omega); omega)
                exact ih10 k10p (0) (n87) _ _ _ (by omega) (by omega) hi9_hg189 hi9_hgt90 hi9_hgz91 hi9_hs292 hi9_hs193 hi9_hs094 hi9_hsb95 hdy (lv_sub hl [0, 2, 1, 3, 4, 5, 6] rfl)
              · have hc43 : ¬ 2 ≤ k10p := fun h9 => hc43 ((nI_leI (by omega) (by omega)).mpr h9)
                refine lv_ldc2 (v := (65536)) hx hb hown (hts _ (kz_c mw_709)) zd_N_isWithin_46 ?_
                refine lv_topl (fun yl96 h9 => ?_)
                obtain rfl : yl96 = kz_lz (65536) := h9.trans (kz_lz_c65536)
                refine lv_lload hx hb zd_N_isWithin_49 (lv_at hl 2 rfl) ?_
                refine lv_lmul hx hb zd_N_isWithin_51 ?_
                refine lv_topl (fun yl97 h9 => ?_)
                obtain rfl : yl97 = kz_lz (65536 * (((c5 : Nat) : Int))) := h9.trans (kz_lz_mul _ _)
                refine lv_aload_n hx hb zd_N_isWithin_52 rfl (lv_at hl 4 rfl) ?_
                refine lv_iload hx hb zd_N_isWithin_53 (lv_at hl 1 rfl) ?_
                refine kz_riald hx hb hK hro hdy.2.2 1 0 rfl rfl (vp_in_nI (by omega) (by omega)) zd_N_isWithin_55 ?_
                refine lv_topi (fun x98 h9 => ?_)
                obtain rfl : x98 = nI (ga k10p) := h9.trans (kz_dgl ga (by omega))
                have hbx98 := hd_ga k10p
                refine lv_i2l hx hb zd_N_isWithin_56 (kz_lz_i (n := ga k10p) (by omega)) ?_
                refine lv_ladd hx hb zd_N_isWithin_57 ?_
                refine lv_topl (fun yl99 h9 => ?_)
                obtain rfl : yl99 = kz_lz ((65536 * (((c5 : Nat) : Int))) + (((ga k10p : Nat) : Int))) := h9.trans (kz_lz_add _ _)
                refine lv_goto (tgt := 63) hx hb zd_N_isWithin_58 (by decide) ?_
                refine lv_topl (fun yl101 h9 => ?_)
                obtain ⟨n100, en100, rfl⟩ := kz_toN (e := (65536 * (((c5 : Nat) : Int))) + (((ga k10p : Nat) : Int))) h9 (by omega)
                refine lv_lstore (lv' := [(4, .long (kz_lz (((n100 : Nat) : Int)))), (6, .int (nI (0))), (7, .int (nI (k10p))), (0, .ref o), (1, .ref a), (2, .int (nI (2))), (3, .int (nI (2)))]) hx hb zd_N_isWithin_63 hl (by decide) rfl (fun ls hl => ?_)
                refine lv_iinc (v := (nI (k10p) - 1)) (lv' := [(7, .int (nI (k10p) - 1)), (4, .long (kz_lz (((n100 : Nat) : Int)))), (6, .int (nI (0))), (0, .ref o), (1, .ref a), (2, .int (nI (2))), (3, .int (nI (2)))]) hx hb zd_N_isWithin_65 hl (k := 2) rfl (kz_m1 _) (by decide) rfl (fun ls hl => ?_)
                refine lv_goto (tgt := 10) hx hb zd_N_isWithin_68 (by decide) ?_
                have hi9_hg1102 : 0 ≤ 1 := by omega
                have hi9_hgt103 : kv_flag (0) (4294967296 ≤ kv_val ga 16) := by first | exact hgt | exact Or.inl rfl | exact Or.inr (kv_flag_of hgt (by omega)) | exact Or.inr (kv_bigW (k := k10p) (by omega) (by omega) (by omega))
                have hi9_hgz104 : 0 = 0 → ∀ j, k10p ≤ j → 2 ≤ j → j < 16 → ga j = 0 := by intro h j a b c; first | (exfalso; omega) | (rcases (by omega : j = k10p ∨ k10p + 1 ≤ j) with h8 | h8; (subst h8; first | omega | (exfalso; omega)); exact hgz (by omega) j h8 b c)
                have hi9_hs2105 : 2 ≤ k10p → n100 = 0 := by intro h; have h8 := hs2 (by omega); omega
                have hi9_hs1106 : k10p = 1 → n100 = ga 1 := by intro h; have h8 := hs2 (by omega); subst h; omega
                have hi9_hs0107 : k10p = 0 → n100 = 65536 * ga 1 + ga 0 := by intro h; have h8 := hs1 (by omega); subst h; omega
                have hi9_hsb108 : n100 < 4294967296 := by have h9 := hd_ga 0; have h8 := hd_ga 1; rcases (by omega : k10p = 0 ∨ k10p = 1 ∨ 2 ≤ k10p) with h | h | h; (have h7 := hs1 (by omega); subst h; omega); (have h7 := hs2 (by omega); subst h; omega); (have h7 := hs2 (by omega); omega)
                exact ih10 k10p (0) (n100) _ _ _ (by omega) (by omega) hi9_hg1102 hi9_hgt103 hi9_hgz104 hi9_hs2105 hi9_hs1106 hi9_hs0107 hi9_hsb108 hdy (lv_sub hl [0, 2, 1, 3, 4, 5, 6] rfl)
            · have hc30 : ¬ (ga k10p) ≤ 0 := fun h9 => hc30 (by have h8 := (nI_leI (by omega) (by omega)).mpr h9; rw [nI_0] at h8; exact h8)
              refine lv_iconst (v := (nI (1))) hx hb zd_N_isWithin_33 (by decide) ?_
              refine lv_goto (tgt := 38) hx hb zd_N_isWithin_34 (by decide) ?_
              refine lv_istore (lv' := [(6, .int (nI (1))), (7, .int (nI (k10p))), (4, .long (kz_lz (((c5 : Nat) : Int)))), (0, .ref o), (1, .ref a), (2, .int (nI (2))), (3, .int (nI (2)))]) hx hb zd_N_isWithin_38 hl (by decide) rfl (fun ls hl => ?_)
              refine lv_iload hx hb zd_N_isWithin_40 (lv_at hl 1 rfl) ?_
              refine lv_iconst (v := (nI (2))) hx hb zd_N_isWithin_42 (by decide) ?_
              refine lv_icmp_ge (tgt := 61) hx hb zd_N_isWithin_43 (by decide) (fun hc43 => ?_) (fun hc43 => ?_)
              · have hc43 : 2 ≤ k10p := (nI_leI (by omega) (by omega)).mp hc43
                refine lv_lload hx hb zd_N_isWithin_61 (lv_at hl 2 rfl) ?_
                refine lv_topl (fun yl110 h9 => ?_)
                obtain ⟨n109, en109, rfl⟩ := kz_toN (e := ((c5 : Nat) : Int)) h9 (by omega)
                refine lv_lstore (lv' := [(4, .long (kz_lz (((n109 : Nat) : Int)))), (6, .int (nI (1))), (7, .int (nI (k10p))), (0, .ref o), (1, .ref a), (2, .int (nI (2))), (3, .int (nI (2)))]) hx hb zd_N_isWithin_63 hl (by decide) rfl (fun ls hl => ?_)
                refine lv_iinc (v := (nI (k10p) - 1)) (lv' := [(7, .int (nI (k10p) - 1)), (4, .long (kz_lz (((n109 : Nat) : Int)))), (6, .int (nI (1))), (0, .ref o), (1, .ref a), (2, .int (nI (2))), (3, .int (nI (2)))]) hx hb zd_N_isWithin_65 hl (k := 2) rfl (kz_m1 _) (by decide) rfl (fun ls hl => ?_)
                refine lv_goto (tgt := 10) hx hb zd_N_isWithin_68 (by decide) ?_
                have hi9_hg1111 : 1 ≤ 1 := by omega
                have hi9_hgt112 : kv_flag (1) (4294967296 ≤ kv_val ga 16) := by first | exact hgt | exact Or.inl rfl | exact Or.inr (kv_flag_of hgt (by omega)) | exact Or.inr (kv_bigW (k := k10p) (by omega) (by omega) (by omega))
                have hi9_hgz113 : 1 = 0 → ∀ j, k10p ≤ j → 2 ≤ j → j < 16 → ga j = 0 := by intro h j a b c; first | (exfalso; omega) | (rcases (by omega : j = k10p ∨ k10p + 1 ≤ j) with h8 | h8; (subst h8; first | omega | (exfalso; omega)); exact hgz (by omega) j h8 b c)
                have hi9_hs2114 : 2 ≤ k10p → n109 = 0 := by intro h; have h8 := hs2 (by omega); omega
                have hi9_hs1115 : k10p = 1 → n109 = ga 1 := by intro h; have h8 := hs2 (by omega); subst h; omega
                have hi9_hs0116 : k10p = 0 → n109 = 65536 * ga 1 + ga 0 := by intro h; have h8 := hs1 (by omega); subst h; omega
                have hi9_hsb117 : n109 < 4294967296 := by have h9 := hd_ga 0; have h8 := hd_ga 1; rcases (by omega : k10p = 0 ∨ k10p = 1 ∨ 2 ≤ k10p) with h | h | h; (have h7 := hs1 (by omega); subst h; omega); (have h7 := hs2 (by omega); subst h; omega); (have h7 := hs2 (by omega); omega)
                exact ih10 k10p (1) (n109) _ _ _ (by omega) (by omega) hi9_hg1111 hi9_hgt112 hi9_hgz113 hi9_hs2114 hi9_hs1115 hi9_hs0116 hi9_hsb117 hdy (lv_sub hl [0, 2, 1, 3, 4, 5, 6] rfl)
              · have hc43 : ¬ 2 ≤ k10p := fun h9 => hc43 ((nI_leI (by omega) (by omega)).mpr h9)
                refine lv_ldc2 (v := (65536)) hx hb hown (hts _ (kz_c mw_709)) zd_N_isWithin_46 ?_
                refine lv_topl (fun yl118 h9 => ?_)
                obtain rfl : yl118 = kz_lz (65536) := h9.trans (kz_lz_c65536)
                refine lv_lload hx hb zd_N_isWithin_49 (lv_at hl 2 rfl) ?_
                refine lv_lmul hx hb zd_N_isWithin_51 ?_
                refine lv_topl (fun yl119 h9 => ?_)
                obtain rfl : yl119 = kz_lz (65536 * (((c5 : Nat) : Int))) := h9.trans (kz_lz_mul _ _)
                refine lv_aload_n hx hb zd_N_isWithin_52 rfl (lv_at hl 4 rfl) ?_
                refine lv_iload hx hb zd_N_isWithin_53 (lv_at hl 1 rfl) ?_
                refine kz_riald hx hb hK hro hdy.2.2 1 0 rfl rfl (vp_in_nI (by omega) (by omega)) zd_N_isWithin_55 ?_
                refine lv_topi (fun x120 h9 => ?_)
                obtain rfl : x120 = nI (ga k10p) := h9.trans (kz_dgl ga (by omega))
                have hbx120 := hd_ga k10p
                refine lv_i2l hx hb zd_N_isWithin_56 (kz_lz_i (n := ga k10p) (by omega)) ?_
                refine lv_ladd hx hb zd_N_isWithin_57 ?_
                refine lv_topl (fun yl121 h9 => ?_)
                obtain rfl : yl121 = kz_lz ((65536 * (((c5 : Nat) : Int))) + (((ga k10p : Nat) : Int))) := h9.trans (kz_lz_add _ _)
                refine lv_goto (tgt := 63) hx hb zd_N_isWithin_58 (by decide) ?_
                refine lv_topl (fun yl123 h9 => ?_)
                obtain ⟨n122, en122, rfl⟩ := kz_toN (e := (65536 * (((c5 : Nat) : Int))) + (((ga k10p : Nat) : Int))) h9 (by omega)
                refine lv_lstore (lv' := [(4, .long (kz_lz (((n122 : Nat) : Int)))), (6, .int (nI (1))), (7, .int (nI (k10p))), (0, .ref o), (1, .ref a), (2, .int (nI (2))), (3, .int (nI (2)))]) hx hb zd_N_isWithin_63 hl (by decide) rfl (fun ls hl => ?_)
                refine lv_iinc (v := (nI (k10p) - 1)) (lv' := [(7, .int (nI (k10p) - 1)), (4, .long (kz_lz (((n122 : Nat) : Int)))), (6, .int (nI (1))), (0, .ref o), (1, .ref a), (2, .int (nI (2))), (3, .int (nI (2)))]) hx hb zd_N_isWithin_65 hl (k := 2) rfl (kz_m1 _) (by decide) rfl (fun ls hl => ?_)
                refine lv_goto (tgt := 10) hx hb zd_N_isWithin_68 (by decide) ?_
                have hi9_hg1124 : 1 ≤ 1 := by omega
                have hi9_hgt125 : kv_flag (1) (4294967296 ≤ kv_val ga 16) := by first | exact hgt | exact Or.inl rfl | exact Or.inr (kv_flag_of hgt (by omega)) | exact Or.inr (kv_bigW (k := k10p) (by omega) (by omega) (by omega))
                have hi9_hgz126 : 1 = 0 → ∀ j, k10p ≤ j → 2 ≤ j → j < 16 → ga j = 0 := by intro h j a b c; first | (exfalso; omega) | (rcases (by omega : j = k10p ∨ k10p + 1 ≤ j) with h8 | h8; (subst h8; first | omega | (exfalso; omega)); exact hgz (by omega) j h8 b c)
                have hi9_hs2127 : 2 ≤ k10p → n122 = 0 := by intro h; have h8 := hs2 (by omega); omega
                have hi9_hs1128 : k10p = 1 → n122 = ga 1 := by intro h; have h8 := hs2 (by omega); subst h; omega
                have hi9_hs0129 : k10p = 0 → n122 = 65536 * ga 1 + ga 0 := by intro h; have h8 := hs1 (by omega); subst h; omega
                have hi9_hsb130 : n122 < 4294967296 := by have h9 := hd_ga 0; have h8 := hd_ga 1; rcases (by omega : k10p = 0 ∨ k10p = 1 ∨ 2 ≤ k10p) with h | h | h; (have h7 := hs1 (by omega); subst h; omega); (have h7 := hs2 (by omega); subst h; omega); (have h7 := hs2 (by omega); omega)
                exact ih10 k10p (1) (n122) _ _ _ (by omega) (by omega) hi9_hg1124 hi9_hgt125 hi9_hgz126 hi9_hs2127 hi9_hs1128 hi9_hs0129 hi9_hsb130 hdy (lv_sub hl [0, 2, 1, 3, 4, 5, 6] rfl)
  have hi9_hg1131 : 0 ≤ 1 := by omega
  have hi9_hgt132 : kv_flag (0) (4294967296 ≤ kv_val ga 16) := by exact Or.inl rfl
  have hi9_hgz133 : 0 = 0 → ∀ j, 16 ≤ j → 2 ≤ j → j < 16 → ga j = 0 := by intro h j a b c; omega
  have hi9_hs2134 : 2 ≤ 16 → n2 = 0 := by intro h; omega
  have hi9_hs1135 : 16 = 1 → n2 = ga 1 := by intro h; omega
  have hi9_hs0136 : 16 = 0 → n2 = 65536 * ga 1 + ga 0 := by intro h; omega
  have hi9_hsb137 : n2 < 4294967296 := by omega
  exact lp10 (16 + 1) 16 (0) (n2) _ _ _ (by omega) (by omega) hi9_hg1131 hi9_hgt132 hi9_hgz133 hi9_hs2134 hi9_hs1135 hi9_hs0136 hi9_hsb137 hdy (lv_sub hl [0, 1, 2, 3, 4, 5, 6] rfl)

set_option maxHeartbeats 4000000 in
set_option maxRecDepth 100000 in
/-- KeyMeetingModel.isGood()Z -/
theorem c_F_isGood (l : Launch) (dC : Nat → ClassId) (dI : Nat → Nat → Nat) (cI cAA cB cL : ClassId) (o mt mn ml mc mh mk mp mm mb mw mr mx me mP mQ ms mo mW mD mB mR mS : Nat) (th : Int32) (sta : Int32) (hs : Int32) (sz_ : Nat) (gmp : Nat → Nat) (gmb : Nat → Nat) (gmP : Nat → Nat) (gmQ : Nat → Nat) (gms : Nat → Nat) (gmx : Nat → Nat) (gme : Nat → Nat) (gmt : Nat → Int32) (sz : Nat) (hd_gmp : ∀ j, gmp j < 65536) (hd_gmb : ∀ j, gmb j < 65536) (hd_gmP : ∀ j, gmP j < 65536) (hd_gmQ : ∀ j, gmQ j < 65536) (hd_gms : ∀ j, gms j < 4294967296) (hd_gmx : ∀ j, gmx j < 65536) (hd_gme : ∀ j, gme j < 65536) : Met l zy_N_isGood zw_N_isGood { frames := 2, cells := 0, slots := 0, locals := 54 } (kz_Pc (dC, dI) vwCl [(cI, .int), (cAA, .array .int), (cB, .byte), (cL, .long)] [] [] [.ref o] [(o, .inr (4, [.int th, .int sta, .ref mt, .ref mn, .ref ml, .ref mc, .ref mh, .ref mk, .ref mp, .ref mm, .ref mb, .ref mw, .ref mr, .ref mx, .ref me, .ref mP, .ref mQ, .ref ms, .int hs, .int (nI (sz_)), .ref mo, .ref mW, .ref mD, .ref mB, .ref mR, .ref mS])), (mp, .inl (cI, 16, .inl (kz_dg gmp))), (mb, .inl (cI, 16, .inl (kz_dg gmb))), (mP, .inl (cI, 16, .inl (kz_dg gmP))), (mQ, .inl (cI, 16, .inl (kz_dg gmQ))), (ms, .inl (cI, 18, .inl (kz_dg gms))), (mx, .inl (cI, 32, .inl (kz_dg gmx))), (me, .inl (cI, 18, .inl (kz_dg gme)))] [(mt, .inl (cI, 56, .inl gmt))] sz) (va_Qi (fun (r : Int32) (u : Int32 × (Nat → Nat) × (Nat → Nat) × (Nat → Nat) × (Nat → Nat) × (Nat → Nat) × (Nat → Nat) × (Nat → Nat)) => (∀ j, u.2.1 j < 65536) ∧ (∀ j, u.2.2.1 j < 65536) ∧ (∀ j, u.2.2.2.1 j < 65536) ∧ (∀ j, u.2.2.2.2.1 j < 65536) ∧ (∀ j, u.2.2.2.2.2.1 j < 4294967296) ∧ (∀ j, u.2.2.2.2.2.2.1 j < 65536) ∧ (∀ j, u.2.2.2.2.2.2.2 j < 65536) ∧ (r = 0 ∨ r = 1) ∧ ((r = 1 ∧ kx_ok (kv_val (kv_fig gmt 0) 16) (kv_val (kv_fig gmt 8) 16) (kv_val (kv_fig gmt 16) 8) (kv_val (kv_fig gmt 24) 8)) ∨ (r = 0 ∧ ¬ kx_ok (kv_val (kv_fig gmt 0) 16) (kv_val (kv_fig gmt 8) 16) (kv_val (kv_fig gmt 16) 8) (kv_val (kv_fig gmt 24) 8))) ∧ (∀ j, j < 16 → u.2.1 j = kv_fig gmt 0 j) ∧ True) (kz_B (dC, dI) vwCl (va_A [(o, .inr (4, [.int th, .int sta, .ref mt, .ref mn, .ref ml, .ref mc, .ref mh, .ref mk, .ref mp, .ref mm, .ref mb, .ref mw, .ref mr, .ref mx, .ref me, .ref mP, .ref mQ, .ref ms, .int hs, .int (nI (sz_)), .ref mo, .ref mW, .ref mD, .ref mB, .ref mR, .ref mS])), (mp, .inl (cI, 16, .inl (kz_dg gmp))), (mb, .inl (cI, 16, .inl (kz_dg gmb))), (mP, .inl (cI, 16, .inl (kz_dg gmP))), (mQ, .inl (cI, 16, .inl (kz_dg gmQ))), (ms, .inl (cI, 18, .inl (kz_dg gms))), (mx, .inl (cI, 32, .inl (kz_dg gmx))), (me, .inl (cI, 18, .inl (kz_dg gme)))] sz) (fun u : Int32 × (Nat → Nat) × (Nat → Nat) × (Nat → Nat) × (Nat → Nat) × (Nat → Nat) × (Nat → Nat) × (Nat → Nat) => [(o, .inr (4, [.int th, .int sta, .ref mt, .ref mn, .ref ml, .ref mc, .ref mh, .ref mk, .ref mp, .ref mm, .ref mb, .ref mw, .ref mr, .ref mx, .ref me, .ref mP, .ref mQ, .ref ms, .int u.1, .int (nI (sz_)), .ref mo, .ref mW, .ref mD, .ref mB, .ref mR, .ref mS])), (mp, .inl (cI, 16, .inl (kz_dg u.2.1))), (mb, .inl (cI, 16, .inl (kz_dg u.2.2.1))), (mP, .inl (cI, 16, .inl (kz_dg u.2.2.2.1))), (mQ, .inl (cI, 16, .inl (kz_dg u.2.2.2.2.1))), (ms, .inl (cI, 18, .inl (kz_dg u.2.2.2.2.2.1))), (mx, .inl (cI, 32, .inl (kz_dg u.2.2.2.2.2.2.1))), (me, .inl (cI, 18, .inl (kz_dg u.2.2.2.2.2.2.2)))])) (va_A [(o, .inr (4, [.int th, .int sta, .ref mt, .ref mn, .ref ml, .ref mc, .ref mh, .ref mk, .ref mp, .ref mm, .ref mb, .ref mw, .ref mr, .ref mx, .ref me, .ref mP, .ref mQ, .ref ms, .int hs, .int (nI (sz_)), .ref mo, .ref mW, .ref mD, .ref mB, .ref mR, .ref mS])), (mp, .inl (cI, 16, .inl (kz_dg gmp))), (mb, .inl (cI, 16, .inl (kz_dg gmb))), (mP, .inl (cI, 16, .inl (kz_dg gmP))), (mQ, .inl (cI, 16, .inl (kz_dg gmQ))), (ms, .inl (cI, 18, .inl (kz_dg gms))), (mx, .inl (cI, 32, .inl (kz_dg gmx))), (me, .inl (cI, 18, .inl (kz_dg gme)))] sz)) 0 0 (va_A [(o, .inr (4, [.int th, .int sta, .ref mt, .ref mn, .ref ml, .ref mc, .ref mh, .ref mk, .ref mp, .ref mm, .ref mb, .ref mw, .ref mr, .ref mx, .ref me, .ref mP, .ref mQ, .ref ms, .int hs, .int (nI (sz_)), .ref mo, .ref mW, .ref mD, .ref mB, .ref mR, .ref mS])), (mp, .inl (cI, 16, .inl (kz_dg gmp))), (mb, .inl (cI, 16, .inl (kz_dg gmb))), (mP, .inl (cI, 16, .inl (kz_dg gmP))), (mQ, .inl (cI, 16, .inl (kz_dg gmQ))), (ms, .inl (cI, 18, .inl (kz_dg gms))), (mx, .inl (cI, 32, .inl (kz_dg gmx))), (me, .inl (cI, 18, .inl (kz_dg gme)))] sz) := by
  refine kz_met (y := zy_N_isGood) (ws := zw_N_isGood) (av := [.ref o]) (sz := sz) (Qc := fun A => va_Qi (fun (r : Int32) (u : Int32 × (Nat → Nat) × (Nat → Nat) × (Nat → Nat) × (Nat → Nat) × (Nat → Nat) × (Nat → Nat) × (Nat → Nat)) => (∀ j, u.2.1 j < 65536) ∧ (∀ j, u.2.2.1 j < 65536) ∧ (∀ j, u.2.2.2.1 j < 65536) ∧ (∀ j, u.2.2.2.2.1 j < 65536) ∧ (∀ j, u.2.2.2.2.2.1 j < 4294967296) ∧ (∀ j, u.2.2.2.2.2.2.1 j < 65536) ∧ (∀ j, u.2.2.2.2.2.2.2 j < 65536) ∧ (r = 0 ∨ r = 1) ∧ ((r = 1 ∧ kx_ok (kv_val (kv_fig gmt 0) 16) (kv_val (kv_fig gmt 8) 16) (kv_val (kv_fig gmt 16) 8) (kv_val (kv_fig gmt 24) 8)) ∨ (r = 0 ∧ ¬ kx_ok (kv_val (kv_fig gmt 0) 16) (kv_val (kv_fig gmt 8) 16) (kv_val (kv_fig gmt 16) 8) (kv_val (kv_fig gmt 24) 8))) ∧ (∀ j, j < 16 → u.2.1 j = kv_fig gmt 0 j) ∧ True) (kz_B (dC, dI) vwCl A (fun u : Int32 × (Nat → Nat) × (Nat → Nat) × (Nat → Nat) × (Nat → Nat) × (Nat → Nat) × (Nat → Nat) × (Nat → Nat) => [(o, .inr (4, [.int th, .int sta, .ref mt, .ref mn, .ref ml, .ref mc, .ref mh, .ref mk, .ref mp, .ref mm, .ref mb, .ref mw, .ref mr, .ref mx, .ref me, .ref mP, .ref mQ, .ref ms, .int u.1, .int (nI (sz_)), .ref mo, .ref mW, .ref mD, .ref mB, .ref mR, .ref mS])), (mp, .inl (cI, 16, .inl (kz_dg u.2.1))), (mb, .inl (cI, 16, .inl (kz_dg u.2.2.1))), (mP, .inl (cI, 16, .inl (kz_dg u.2.2.2.1))), (mQ, .inl (cI, 16, .inl (kz_dg u.2.2.2.2.1))), (ms, .inl (cI, 18, .inl (kz_dg u.2.2.2.2.2.1))), (mx, .inl (cI, 32, .inl (kz_dg u.2.2.2.2.2.2.1))), (me, .inl (cI, 18, .inl (kz_dg u.2.2.2.2.2.2.2)))])) A) (cc := zc_N_isGood) (maxL := 3) (ret := some .boolean) (by decide) rfl (Nat.le_of_ble_eq_true rfl) ?_
  intro p e s m below meth c A ls F hA hdy hK hro hZ hN hl
  obtain ⟨hx, hb, hml, hr, hown, hlocks, hts, hnm⟩ := id F
  have hl : lv_has ls 3 [(0, .ref o)] := hl
  refine lv_aload_n hx hb zd_N_isGood_0 rfl (lv_at hl 0 rfl) ?_
  refine va_get (D := (dC, dI)) (ci := 4) (v := .ref mt) (C := zR_N) (T := zT_N) (N := 26) hx hb hts (fun w h => kz_c (zi_N w h)) hown hK hdy.1 0 rfl rfl 2 (by decide) (hts _ (kz_c mw_593)) (fun _ h9 => h9) rfl zd_N_isGood_1 ?_
  refine lv_iconst (v := (nI (0))) hx hb zd_N_isGood_4 (by decide) ?_
  refine lv_aload_n hx hb zd_N_isGood_5 rfl (lv_at hl 0 rfl) ?_
  refine va_get (D := (dC, dI)) (ci := 4) (v := .ref mp) (C := zR_N) (T := zT_N) (N := 26) hx hb hts (fun w h => kz_c (zi_N w h)) hown hK hdy.1 0 rfl rfl 8 (by decide) (hts _ (kz_c mw_599)) (fun _ h9 => h9) rfl zd_N_isGood_6 ?_
  refine kz_callv (wk := [(o, .inr (4, [.int th, .int sta, .ref mt, .ref mn, .ref ml, .ref mc, .ref mh, .ref mk, .ref mp, .ref mm, .ref mb, .ref mw, .ref mr, .ref mx, .ref me, .ref mP, .ref mQ, .ref ms, .int hs, .int (nI (sz_)), .ref mo, .ref mW, .ref mD, .ref mB, .ref mR, .ref mS])), (mb, .inl (cI, 16, .inl (kz_dg gmb))), (mP, .inl (cI, 16, .inl (kz_dg gmP))), (mQ, .inl (cI, 16, .inl (kz_dg gmQ))), (ms, .inl (cI, 18, .inl (kz_dg gms))), (mx, .inl (cI, 32, .inl (kz_dg gmx))), (me, .inl (cI, 18, .inl (kz_dg gme)))]) (va_runS (As := [.ref mt, .int (nI (0)), .ref mp]) (rest := []) ⟨hx, hb, hml, hown, hts⟩ (c_X_figures56 l dC dI cI cAA cB cL mp mt gmp gmt 0 _ hd_gmp (by first | omega | assumption)) (va_cwS 3 hts (kz_g (kz_mc mw_690 (kz_mc mw_691 (kz_mc mw_43 kz_mn))) mw_692) rfl rfl rfl (by decide +kernel) ⟨Nat.le_of_ble_eq_true rfl, Nat.le_of_ble_eq_true rfl⟩) (kz_preS hdy hA hK hro hZ hN [1] (by decide) rfl [(true, 0)] rfl (by decide) [0, 1, 2, 3] rfl (fun _ h => by cases h) (fun _ h => by cases h) rfl) rfl rfl hl.1 rfl (lv_room (Nat.le_of_ble_eq_true rfl)) zd_N_isGood_9 ⟨Nat.le_of_ble_eq_true rfl, Nat.le_of_ble_eq_true rfl⟩) hdy hA [1] [0, 2, 3, 4, 5, 6, 7] rfl rfl (by decide) (by decide) (fun u H locs hw hdy => ?_)
  obtain ⟨d1, rfl⟩ : ∃ z, z = u := ⟨_, rfl⟩
  try dsimp only at hw
  obtain ⟨hd_d1, q2, -⟩ := hw
  have hdy : kz_dy (dC, dI) vwCl A s.heap H locs [(o, .inr (4, [.int th, .int sta, .ref mt, .ref mn, .ref ml, .ref mc, .ref mh, .ref mk, .ref mp, .ref mm, .ref mb, .ref mw, .ref mr, .ref mx, .ref me, .ref mP, .ref mQ, .ref ms, .int hs, .int (nI (sz_)), .ref mo, .ref mW, .ref mD, .ref mB, .ref mR, .ref mS])), (mp, .inl (cI, 16, .inl (kz_dg d1))), (mb, .inl (cI, 16, .inl (kz_dg gmb))), (mP, .inl (cI, 16, .inl (kz_dg gmP))), (mQ, .inl (cI, 16, .inl (kz_dg gmQ))), (ms, .inl (cI, 18, .inl (kz_dg gms))), (mx, .inl (cI, 32, .inl (kz_dg gmx))), (me, .inl (cI, 18, .inl (kz_dg gme)))] := hdy.sub [0, 7, 1, 2, 3, 4, 5, 6] (by decide) rfl
  refine lv_aload_n hx hb zd_N_isGood_12 rfl (lv_at hl 0 rfl) ?_
  refine va_get (D := (dC, dI)) (ci := 4) (v := .ref mt) (C := zR_N) (T := zT_N) (N := 26) hx hb hts (fun w h => kz_c (zi_N w h)) hown hK hdy.1 0 rfl rfl 2 (by decide) (hts _ (kz_c mw_593)) (fun _ h9 => h9) rfl zd_N_isGood_13 ?_
  refine lv_bipush (v := (nI (8))) hx hb zd_N_isGood_16 (by decide) ?_
  refine lv_aload_n hx hb zd_N_isGood_18 rfl (lv_at hl 0 rfl) ?_
  refine va_get (D := (dC, dI)) (ci := 4) (v := .ref mb) (C := zR_N) (T := zT_N) (N := 26) hx hb hts (fun w h => kz_c (zi_N w h)) hown hK hdy.1 0 rfl rfl 10 (by decide) (hts _ (kz_c mw_601)) (fun _ h9 => h9) rfl zd_N_isGood_19 ?_
  refine kz_callv (wk := [(o, .inr (4, [.int th, .int sta, .ref mt, .ref mn, .ref ml, .ref mc, .ref mh, .ref mk, .ref mp, .ref mm, .ref mb, .ref mw, .ref mr, .ref mx, .ref me, .ref mP, .ref mQ, .ref ms, .int hs, .int (nI (sz_)), .ref mo, .ref mW, .ref mD, .ref mB, .ref mR, .ref mS])), (mp, .inl (cI, 16, .inl (kz_dg d1))), (mP, .inl (cI, 16, .inl (kz_dg gmP))), (mQ, .inl (cI, 16, .inl (kz_dg gmQ))), (ms, .inl (cI, 18, .inl (kz_dg gms))), (mx, .inl (cI, 32, .inl (kz_dg gmx))), (me, .inl (cI, 18, .inl (kz_dg gme)))]) (va_runS (As := [.ref mt, .int (nI (8)), .ref mb]) (rest := []) ⟨hx, hb, hml, hown, hts⟩ (c_X_figures56 l dC dI cI cAA cB cL mb mt gmb gmt 8 _ hd_gmb (by first | omega | assumption)) (va_cwS 3 hts (kz_g (kz_mc mw_690 (kz_mc mw_691 (kz_mc mw_43 kz_mn))) mw_692) rfl rfl rfl (by decide +kernel) ⟨Nat.le_of_ble_eq_true rfl, Nat.le_of_ble_eq_true rfl⟩) (kz_preS hdy hA hK hro hZ hN [2] (by decide) rfl [(true, 0)] rfl (by decide) [0, 1, 2, 3] rfl (fun _ h => by cases h) (fun _ h => by cases h) rfl) rfl rfl hl.1 rfl (lv_room (Nat.le_of_ble_eq_true rfl)) zd_N_isGood_22 ⟨Nat.le_of_ble_eq_true rfl, Nat.le_of_ble_eq_true rfl⟩) hdy hA [2] [0, 1, 3, 4, 5, 6, 7] rfl rfl (by decide) (by decide) (fun u H locs hw hdy => ?_)
  obtain ⟨d3, rfl⟩ : ∃ z, z = u := ⟨_, rfl⟩
  try dsimp only at hw
  obtain ⟨hd_d3, q4, -⟩ := hw
  have hdy : kz_dy (dC, dI) vwCl A s.heap H locs [(o, .inr (4, [.int th, .int sta, .ref mt, .ref mn, .ref ml, .ref mc, .ref mh, .ref mk, .ref mp, .ref mm, .ref mb, .ref mw, .ref mr, .ref mx, .ref me, .ref mP, .ref mQ, .ref ms, .int hs, .int (nI (sz_)), .ref mo, .ref mW, .ref mD, .ref mB, .ref mR, .ref mS])), (mp, .inl (cI, 16, .inl (kz_dg d1))), (mb, .inl (cI, 16, .inl (kz_dg d3))), (mP, .inl (cI, 16, .inl (kz_dg gmP))), (mQ, .inl (cI, 16, .inl (kz_dg gmQ))), (ms, .inl (cI, 18, .inl (kz_dg gms))), (mx, .inl (cI, 32, .inl (kz_dg gmx))), (me, .inl (cI, 18, .inl (kz_dg gme)))] := hdy.sub [0, 1, 7, 2, 3, 4, 5, 6] (by decide) rfl
  have hVp : kv_val d1 16 = kv_val (kv_fig gmt 0) 16 := kv_ext 16 q2
  have hVb : kv_val d3 16 = kv_val (kv_fig gmt 8) 16 := kv_ext 16 q4
  refine lv_aload_n hx hb zd_N_isGood_25 rfl (lv_at hl 0 rfl) ?_
  refine kz_callv (wk := [(mp, .inl (cI, 16, .inl (kz_dg d1))), (mb, .inl (cI, 16, .inl (kz_dg d3))), (me, .inl (cI, 18, .inl (kz_dg gme)))]) (va_runV (As := []) (rest := []) ⟨hx, hb, hml, hown, hts⟩ (c_F_find l dC dI cI cAA cB cL o mt mn ml mc mh mk mp mm mb mw mr mx me mP mQ ms mo mW mD mB mR mS (th) (sta) (hs) sz_ gmP gmQ gms gmx gmt _ hd_gmP hd_gmQ hd_gms hd_gmx) (cwV 0 hts (kz_g (kz_mc mw_694 (kz_mc mw_696 (kz_mc mw_22 (kz_mc mw_43 kz_mn)))) mw_697) rfl rfl rfl (by decide +kernel) ⟨Nat.le_of_ble_eq_true rfl, Nat.le_of_ble_eq_true rfl⟩) (kz_preV hdy hA hK hro hZ hN [0, 3, 4, 5, 6] (by decide) rfl [(true, 0)] rfl (by decide) [0, 1, 2, 3] rfl (fun _ h => by cases h) (fun _ h => by cases h) rfl (ci := 4) (q0 := 0) rfl rfl rfl) rfl rfl hl.1 rfl (lv_room (Nat.le_of_ble_eq_true rfl)) zd_N_isGood_26 ⟨Nat.le_of_ble_eq_true rfl, Nat.le_of_ble_eq_true rfl⟩) hdy hA [0, 3, 4, 5, 6] [1, 2, 7] rfl rfl (by decide) (by decide) (fun u H locs hw hdy => ?_)
  obtain ⟨x5, d6, d7, d8, d9⟩ := u
  try dsimp only at hw
  obtain ⟨hd_d6, hd_d7, hd_d8, hd_d9, q10, q11, -⟩ := hw
  have hdy : kz_dy (dC, dI) vwCl A s.heap H locs [(o, .inr (4, [.int th, .int sta, .ref mt, .ref mn, .ref ml, .ref mc, .ref mh, .ref mk, .ref mp, .ref mm, .ref mb, .ref mw, .ref mr, .ref mx, .ref me, .ref mP, .ref mQ, .ref ms, .int x5, .int (nI (sz_)), .ref mo, .ref mW, .ref mD, .ref mB, .ref mR, .ref mS])), (mp, .inl (cI, 16, .inl (kz_dg d1))), (mb, .inl (cI, 16, .inl (kz_dg d3))), (mP, .inl (cI, 16, .inl (kz_dg d6))), (mQ, .inl (cI, 16, .inl (kz_dg d7))), (ms, .inl (cI, 18, .inl (kz_dg d8))), (mx, .inl (cI, 32, .inl (kz_dg d9))), (me, .inl (cI, 18, .inl (kz_dg gme)))] := hdy.sub [3, 0, 1, 4, 5, 6, 7, 2] (by decide) rfl
  refine lv_aload_n hx hb zd_N_isGood_29 rfl (lv_at hl 0 rfl) ?_
  refine va_get (D := (dC, dI)) (ci := 4) (v := .ref mp) (C := zR_N) (T := zT_N) (N := 26) hx hb hts (fun w h => kz_c (zi_N w h)) hown hK hdy.1 0 rfl rfl 8 (by decide) (hts _ (kz_c mw_599)) (fun _ h9 => h9) rfl zd_N_isGood_30 ?_
  refine lv_iconst (v := (nI (0))) hx hb zd_N_isGood_33 (by decide) ?_
  refine va_iald hx hb hK hdy.1 1 0 rfl rfl (vp_in_nI (by omega) (by omega)) zd_N_isGood_34 ?_
  refine lv_topi (fun x12 h9 => ?_)
  obtain rfl : x12 = nI (d1 0) := h9.trans (kz_dgl d1 (by omega))
  have hbx12 := hd_d1 0
  refine lv_iconst (v := (nI (4))) hx hb zd_N_isGood_35 (by decide) ?_
  refine lv_icmp_le (tgt := 43) hx hb zd_N_isGood_36 (by decide) (fun hc36 => ?_) (fun hc36 => ?_)
  · have hc36 : (d1 0) ≤ 4 := (nI_leI (by omega) (by omega)).mp hc36
    refine lv_iconst (v := (nI (0))) hx hb zd_N_isGood_43 (by decide) ?_
    refine lv_istore_n (lv' := [(1, .int (nI (0))), (0, .ref o)]) hx hb zd_N_isGood_44 rfl hl (by decide) rfl (fun ls hl => ?_)
    refine lv_iconst (v := (nI (1))) hx hb zd_N_isGood_45 (by decide) ?_
    refine lv_istore_n (lv' := [(2, .int (nI (1))), (1, .int (nI (0))), (0, .ref o)]) hx hb zd_N_isGood_46 rfl hl (by decide) rfl (fun ls hl => ?_)
    have lp47 : ∀ (n47 k47 : Nat) (c13 : Nat) (H : Heap) (locs : List Loc) (ls : Array Slot), k47 ≤ 16 → 16 - k47 < n47 → 1 ≤ k47 → (c13 ≤ 1) → (kv_flag (c13) (5 ≤ kv_val d1 16)) → (c13 = 0 → d1 0 ≤ 4) → (c13 = 0 → ∀ j, 0 < j → j < k47 → d1 j = 0) → kz_dy (dC, dI) vwCl A s.heap H locs [(o, .inr (4, [.int th, .int sta, .ref mt, .ref mn, .ref ml, .ref mc, .ref mh, .ref mk, .ref mp, .ref mm, .ref mb, .ref mw, .ref mr, .ref mx, .ref me, .ref mP, .ref mQ, .ref ms, .int x5, .int (nI (sz_)), .ref mo, .ref mW, .ref mD, .ref mB, .ref mR, .ref mS])), (mp, .inl (cI, 16, .inl (kz_dg d1))), (mb, .inl (cI, 16, .inl (kz_dg d3))), (mP, .inl (cI, 16, .inl (kz_dg d6))), (mQ, .inl (cI, 16, .inl (kz_dg d7))), (ms, .inl (cI, 18, .inl (kz_dg d8))), (mx, .inl (cI, 32, .inl (kz_dg d9))), (me, .inl (cI, 18, .inl (kz_dg gme)))] → lv_has ls 3 [(2, .int (nI (k47))), (1, .int (nI (c13))), (0, .ref o)] → W p l e { frames := 2, cells := 0, slots := 0, locals := 54 } s m ([.ref o] : List Value).toArray below meth c H locs 0 0 (MQ below (va_Qi (fun (r : Int32) (u : Int32 × (Nat → Nat) × (Nat → Nat) × (Nat → Nat) × (Nat → Nat) × (Nat → Nat) × (Nat → Nat) × (Nat → Nat)) => (∀ j, u.2.1 j < 65536) ∧ (∀ j, u.2.2.1 j < 65536) ∧ (∀ j, u.2.2.2.1 j < 65536) ∧ (∀ j, u.2.2.2.2.1 j < 65536) ∧ (∀ j, u.2.2.2.2.2.1 j < 4294967296) ∧ (∀ j, u.2.2.2.2.2.2.1 j < 65536) ∧ (∀ j, u.2.2.2.2.2.2.2 j < 65536) ∧ (r = 0 ∨ r = 1) ∧ ((r = 1 ∧ kx_ok (kv_val (kv_fig gmt 0) 16) (kv_val (kv_fig gmt 8) 16) (kv_val (kv_fig gmt 16) 8) (kv_val (kv_fig gmt 24) 8)) ∨ (r = 0 ∧ ¬ kx_ok (kv_val (kv_fig gmt 0) 16) (kv_val (kv_fig gmt 8) 16) (kv_val (kv_fig gmt 16) 8) (kv_val (kv_fig gmt 24) 8))) ∧ (∀ j, j < 16 → u.2.1 j = kv_fig gmt 0 j) ∧ True) (kz_B (dC, dI) vwCl A (fun u : Int32 × (Nat → Nat) × (Nat → Nat) × (Nat → Nat) × (Nat → Nat) × (Nat → Nat) × (Nat → Nat) × (Nat → Nat) => [(o, .inr (4, [.int th, .int sta, .ref mt, .ref mn, .ref ml, .ref mc, .ref mh, .ref mk, .ref mp, .ref mm, .ref mb, .ref mw, .ref mr, .ref mx, .ref me, .ref mP, .ref mQ, .ref ms, .int u.1, .int (nI (sz_)), .ref mo, .ref mW, .ref mD, .ref mB, .ref mR, .ref mS])), (mp, .inl (cI, 16, .inl (kz_dg u.2.1))), (mb, .inl (cI, 16, .inl (kz_dg u.2.2.1))), (mP, .inl (cI, 16, .inl (kz_dg u.2.2.2.1))), (mQ, .inl (cI, 16, .inl (kz_dg u.2.2.2.2.1))), (ms, .inl (cI, 18, .inl (kz_dg u.2.2.2.2.2.1))), (mx, .inl (cI, 32, .inl (kz_dg u.2.2.2.2.2.2.1))), (me, .inl (cI, 18, .inl (kz_dg u.2.2.2.2.2.2.2)))])) A) ([.ref o] : List Value).toArray s 0 0 A) (F0 m 47 ls []) := by
      intro n47
      induction n47 with
      | zero => intro k47; intros; omega
      | succ n47 ih47 =>
        intro k47 c13 H locs ls hi47 hn47 hblow hg1 hgr hsm hzz hdy hl
        refine lv_iload_n hx hb zd_N_isGood_47 rfl (lv_at hl 0 rfl) ?_
        refine lv_bipush (v := (nI (16))) hx hb zd_N_isGood_48 (by decide) ?_
        refine lv_icmp_ge (tgt := 78) hx hb zd_N_isGood_50 (by decide) (fun hc50 => ?_) (fun hc50 => ?_)
        · have hc50 : 16 ≤ k47 := (nI_leI (by omega) (by omega)).mp hc50
          refine lv_iload_n hx hb zd_N_isGood_78 rfl (lv_at hl 1 rfl) ?_
          refine lv_if_eq (tgt := 106) hx hb zd_N_isGood_79 (by decide) (fun hc79 => ?_) (fun hc79 => ?_)
          · have hc79 : c13 = 0 := (kx_nIeq (by omega) (by omega)).mp (by rw [nI_0]; exact hc79)
            refine lv_iconst (v := (nI (0))) hx hb zd_N_isGood_106 (by decide) ?_
            exact kz_zret F (x5, d1, d3, d6, d7, d8, d9, gme) hdy (by first | exact Or.inl rfl | exact Or.inr rfl | assumption) (⟨hd_d1, hd_d3, hd_d6, hd_d7, hd_d8, hd_d9, hd_gme, by first | exact Or.inl rfl | exact Or.inr rfl | assumption, by first | (exact Or.inr ⟨rfl, fun h9 => by have h8 := h9.1; rw [← hVp, kv_small0 (fun j a b => hzz (by omega) j a (by omega))] at h8; have h7 := hsm (by omega); omega⟩) | (exact Or.inr ⟨rfl, fun h9 => absurd h9.2.2.2 (q10.resolve_right (fun h => absurd (hc86.symm.trans h.1) (by decide))).2⟩) | (exact Or.inr ⟨rfl, fun h9 => (hgr.resolve_left (fun h => absurd (hc99.symm.trans h.1) (by decide))).2 ⟨by have h8 := h9.2.1; omega, by have h8 := h9.2.2.1; omega⟩⟩), by exact q2, trivial⟩) zd_N_isGood_107
          · have hc79 : ¬ c13 = 0 := fun h9 => hc79 (by have h8 := (kx_nIeq (by omega) (by omega)).mpr h9; rw [nI_0] at h8; exact h8)
            refine lv_aload_n hx hb zd_N_isGood_82 rfl (lv_at hl 2 rfl) ?_
            refine va_get (D := (dC, dI)) (ci := 4) (v := .int x5) (C := zR_N) (T := zT_N) (N := 26) hx hb hts (fun w h => kz_c (zi_N w h)) hown hK hdy.1 0 rfl rfl 18 (by decide) (hts _ (kz_c mw_609)) (fun _ h9 => h9) rfl zd_N_isGood_83 ?_
            refine lv_if_eq (tgt := 106) hx hb zd_N_isGood_86 (by decide) (fun hc86 => ?_) (fun hc86 => ?_)
            · refine lv_iconst (v := (nI (0))) hx hb zd_N_isGood_106 (by decide) ?_
              exact kz_zret F (x5, d1, d3, d6, d7, d8, d9, gme) hdy (by first | exact Or.inl rfl | exact Or.inr rfl | assumption) (⟨hd_d1, hd_d3, hd_d6, hd_d7, hd_d8, hd_d9, hd_gme, by first | exact Or.inl rfl | exact Or.inr rfl | assumption, by first | (exact Or.inr ⟨rfl, fun h9 => by have h8 := h9.1; rw [← hVp, kv_small0 (fun j a b => hzz (by omega) j a (by omega))] at h8; have h7 := hsm (by omega); omega⟩) | (exact Or.inr ⟨rfl, fun h9 => absurd h9.2.2.2 (q10.resolve_right (fun h => absurd (hc86.symm.trans h.1) (by decide))).2⟩) | (exact Or.inr ⟨rfl, fun h9 => (hgr.resolve_left (fun h => absurd (hc99.symm.trans h.1) (by decide))).2 ⟨by have h8 := h9.2.1; omega, by have h8 := h9.2.2.1; omega⟩⟩), by exact q2, trivial⟩) zd_N_isGood_107
            · refine lv_aload_n hx hb zd_N_isGood_89 rfl (lv_at hl 2 rfl) ?_
              refine lv_aload_n hx hb zd_N_isGood_90 rfl (lv_at hl 2 rfl) ?_
              refine va_get (D := (dC, dI)) (ci := 4) (v := .ref mb) (C := zR_N) (T := zT_N) (N := 26) hx hb hts (fun w h => kz_c (zi_N w h)) hown hK hdy.1 0 rfl rfl 10 (by decide) (hts _ (kz_c mw_601)) (fun _ h9 => h9) rfl zd_N_isGood_91 ?_
              refine lv_iconst (v := (nI (2))) hx hb zd_N_isGood_94 (by decide) ?_
              refine lv_iconst (v := (nI (2))) hx hb zd_N_isGood_95 (by decide) ?_
              refine kz_calli (wk := [(o, .inr (4, [.int th, .int sta, .ref mt, .ref mn, .ref ml, .ref mc, .ref mh, .ref mk, .ref mp, .ref mm, .ref mb, .ref mw, .ref mr, .ref mx, .ref me, .ref mP, .ref mQ, .ref ms, .int x5, .int (nI (sz_)), .ref mo, .ref mW, .ref mD, .ref mB, .ref mR, .ref mS])), (mp, .inl (cI, 16, .inl (kz_dg d1))), (mb, .inl (cI, 16, .inl (kz_dg d3))), (mP, .inl (cI, 16, .inl (kz_dg d6))), (mQ, .inl (cI, 16, .inl (kz_dg d7))), (ms, .inl (cI, 18, .inl (kz_dg d8))), (mx, .inl (cI, 32, .inl (kz_dg d9)))]) (va_runV (As := [.ref mb, .int (nI (2)), .int (nI (2))]) (rest := []) ⟨hx, hb, hml, hown, hts⟩ (c_F_isWithin l dC dI cI cAA cB cL me o mt mn ml mc mh mk mp mm mb mw mr mx mP mQ ms mo mW mD mB mR mS mb gme (th) (sta) (x5) sz_ d3 d1 _ hd_gme hd_d3 hd_d1) (cwV 3 hts (kz_g (kz_mc mw_711 (kz_mc mw_713 (kz_mc mw_24 (kz_mc mw_43 kz_mn)))) mw_714) rfl rfl rfl (by decide +kernel) ⟨Nat.le_of_ble_eq_true rfl, Nat.le_of_ble_eq_true rfl⟩) (kz_preV hdy hA hK hro hZ hN [7] (by decide) rfl [(false, 0), (false, 2), (false, 1)] rfl (by decide) [0, 1, 2, 3] rfl (fun _ h => by cases h) (fun _ h => by cases h) rfl (ci := 4) (q0 := 0) rfl rfl rfl) rfl rfl hl.1 rfl (lv_room (Nat.le_of_ble_eq_true rfl)) zd_N_isGood_96 ⟨Nat.le_of_ble_eq_true rfl, Nat.le_of_ble_eq_true rfl⟩) hdy hA [7] [0, 1, 2, 3, 4, 5, 6] rfl rfl (by decide) (by decide) (fun r u H locs hw hdy => ?_)
              obtain ⟨r15, rfl⟩ : ∃ z, z = r := ⟨_, rfl⟩
              obtain ⟨d14, rfl⟩ : ∃ z, z = u := ⟨_, rfl⟩
              try dsimp only at hw
              obtain ⟨hd_d14, hzr15, q16, -⟩ := hw
              have hdy : kz_dy (dC, dI) vwCl A s.heap H locs [(o, .inr (4, [.int th, .int sta, .ref mt, .ref mn, .ref ml, .ref mc, .ref mh, .ref mk, .ref mp, .ref mm, .ref mb, .ref mw, .ref mr, .ref mx, .ref me, .ref mP, .ref mQ, .ref ms, .int x5, .int (nI (sz_)), .ref mo, .ref mW, .ref mD, .ref mB, .ref mR, .ref mS])), (mp, .inl (cI, 16, .inl (kz_dg d1))), (mb, .inl (cI, 16, .inl (kz_dg d3))), (mP, .inl (cI, 16, .inl (kz_dg d6))), (mQ, .inl (cI, 16, .inl (kz_dg d7))), (ms, .inl (cI, 18, .inl (kz_dg d8))), (mx, .inl (cI, 32, .inl (kz_dg d9))), (me, .inl (cI, 18, .inl (kz_dg d14)))] := hdy.sub [0, 1, 2, 3, 4, 5, 6, 7] (by decide) rfl
              refine lv_if_eq (tgt := 106) hx hb zd_N_isGood_99 (by decide) (fun hc99 => ?_) (fun hc99 => ?_)
              · refine lv_iconst (v := (nI (0))) hx hb zd_N_isGood_106 (by decide) ?_
                exact kz_zret F (x5, d1, d3, d6, d7, d8, d9, d14) hdy (by first | exact Or.inl rfl | exact Or.inr rfl | assumption) (⟨hd_d1, hd_d3, hd_d6, hd_d7, hd_d8, hd_d9, hd_d14, by first | exact Or.inl rfl | exact Or.inr rfl | assumption, by first | (exact Or.inr ⟨rfl, fun h9 => by have h8 := h9.1; rw [← hVp, kv_small0 (fun j a b => hzz (by omega) j a (by omega))] at h8; have h7 := hsm (by omega); omega⟩) | (exact Or.inr ⟨rfl, fun h9 => absurd h9.2.2.2 (q10.resolve_right (fun h => absurd (hc86.symm.trans h.1) (by decide))).2⟩) | (exact Or.inr ⟨rfl, fun h9 => (q16.resolve_left (fun h => absurd (hc99.symm.trans h.1) (by decide))).2 ⟨by have h8 := h9.2.1; omega, by have h8 := h9.2.2.1; omega⟩⟩), by exact q2, trivial⟩) zd_N_isGood_107
              · refine lv_iconst (v := (nI (1))) hx hb zd_N_isGood_102 (by decide) ?_
                refine lv_goto (tgt := 107) hx hb zd_N_isGood_103 (by decide) ?_
                exact kz_zret F (x5, d1, d3, d6, d7, d8, d9, d14) hdy (by first | exact Or.inl rfl | exact Or.inr rfl | assumption) (⟨hd_d1, hd_d3, hd_d6, hd_d7, hd_d8, hd_d9, hd_d14, by first | exact Or.inl rfl | exact Or.inr rfl | assumption, by exact Or.inl ⟨rfl, by have h8 := kv_flag_of hgr (by omega); omega, by have h8 := (q16.resolve_right (fun h => hc99 h.1)).2.1; omega, by have h8 := (q16.resolve_right (fun h => hc99 h.1)).2.2; omega, (q10.resolve_left (fun h => hc86 h.1)).2.1⟩, by exact q2, trivial⟩) zd_N_isGood_107
        · have hc50 : ¬ 16 ≤ k47 := fun h9 => hc50 ((nI_leI (by omega) (by omega)).mpr h9)
          refine lv_iload_n hx hb zd_N_isGood_53 rfl (lv_at hl 1 rfl) ?_
          refine lv_if_ne (tgt := 66) hx hb zd_N_isGood_54 (by decide) (fun hc54 => ?_) (fun hc54 => ?_)
          · have hc54 : ¬ c13 = 0 := fun h9 => hc54 (by have h8 := (kx_nIeq (by omega) (by omega)).mpr h9; rw [nI_0] at h8; exact h8)
            refine lv_iconst (v := (nI (1))) hx hb zd_N_isGood_66 (by decide) ?_
            refine lv_goto (tgt := 71) hx hb zd_N_isGood_67 (by decide) ?_
            refine lv_istore_n (lv' := [(1, .int (nI (1))), (2, .int (nI (k47))), (0, .ref o)]) hx hb zd_N_isGood_71 rfl hl (by decide) rfl (fun ls hl => ?_)
            refine lv_iinc (v := (nI (k47 + 1))) (lv' := [(2, .int (nI (k47 + 1))), (1, .int (nI (1))), (0, .ref o)]) hx hb zd_N_isGood_72 hl (k := 1) rfl (nI_1 _) (by decide) rfl (fun ls hl => ?_)
            refine lv_goto (tgt := 47) hx hb zd_N_isGood_75 (by decide) ?_
            have hi9_hg117 : 1 ≤ 1 := by omega
            have hi9_hgr18 : kv_flag (1) (5 ≤ kv_val d1 16) := by first | exact hgr | exact Or.inl rfl | exact Or.inr (kv_flag_of hgr (by omega)) | (have h8 := kv_bigF (d := d1) (k := k47) (by omega) (by omega) (by omega); exact Or.inr (by omega))
            have hi9_hsm19 : 1 = 0 → d1 0 ≤ 4 := by first | exact hsm | (intro h; first | (exfalso; omega) | exact hsm (by omega))
            have hi9_hzz20 : 1 = 0 → ∀ j, 0 < j → j < k47 + 1 → d1 j = 0 := by intro h j a b; first | (exfalso; omega) | (rcases (by omega : j = k47 ∨ j < k47) with h8 | h8; (rw [h8]; omega); exact hzz (by omega) j a h8)
            exact ih47 (k47 + 1) (1) _ _ _ (by omega) (by omega) (by omega) hi9_hg117 hi9_hgr18 hi9_hsm19 hi9_hzz20 hdy (lv_sub hl [0, 1, 2] rfl)
          · have hc54 : c13 = 0 := (kx_nIeq (by omega) (by omega)).mp (by rw [nI_0]; exact hc54)
            refine lv_aload_n hx hb zd_N_isGood_57 rfl (lv_at hl 2 rfl) ?_
            refine va_get (D := (dC, dI)) (ci := 4) (v := .ref mp) (C := zR_N) (T := zT_N) (N := 26) hx hb hts (fun w h => kz_c (zi_N w h)) hown hK hdy.1 0 rfl rfl 8 (by decide) (hts _ (kz_c mw_599)) (fun _ h9 => h9) rfl zd_N_isGood_58 ?_
            refine lv_iload_n hx hb zd_N_isGood_61 rfl (lv_at hl 0 rfl) ?_
            refine va_iald hx hb hK hdy.1 1 0 rfl rfl (vp_in_nI (by omega) (by omega)) zd_N_isGood_62 ?_
            refine lv_topi (fun x21 h9 => ?_)
            obtain rfl : x21 = nI (d1 k47) := h9.trans (kz_dgl d1 (by omega))
            have hbx21 := hd_d1 k47
            refine lv_if_le (tgt := 70) hx hb zd_N_isGood_63 (by decide) (fun hc63 => ?_) (fun hc63 => ?_)
            · have hc63 : (d1 k47) ≤ 0 := (nI_leI (by omega) (by omega)).mp (by rw [nI_0]; exact hc63)
              refine lv_iconst (v := (nI (0))) hx hb zd_N_isGood_70 (by decide) ?_
              refine lv_istore_n (lv' := [(1, .int (nI (0))), (2, .int (nI (k47))), (0, .ref o)]) hx hb zd_N_isGood_71 rfl hl (by decide) rfl (fun ls hl => ?_)
              refine lv_iinc (v := (nI (k47 + 1))) (lv' := [(2, .int (nI (k47 + 1))), (1, .int (nI (0))), (0, .ref o)]) hx hb zd_N_isGood_72 hl (k := 1) rfl (nI_1 _) (by decide) rfl (fun ls hl => ?_)
              refine lv_goto (tgt := 47) hx hb zd_N_isGood_75 (by decide) ?_
              have hi9_hg122 : 0 ≤ 1 := by omega
              have hi9_hgr23 : kv_flag (0) (5 ≤ kv_val d1 16) := by first | exact hgr | exact Or.inl rfl | exact Or.inr (kv_flag_of hgr (by omega)) | (have h8 := kv_bigF (d := d1) (k := k47) (by omega) (by omega) (by omega); exact Or.inr (by omega))
              have hi9_hsm24 : 0 = 0 → d1 0 ≤ 4 := by first | exact hsm | (intro h; first | (exfalso; omega) | exact hsm (by omega))
              have hi9_hzz25 : 0 = 0 → ∀ j, 0 < j → j < k47 + 1 → d1 j = 0 := by intro h j a b; first | (exfalso; omega) | (rcases (by omega : j = k47 ∨ j < k47) with h8 | h8; (rw [h8]; omega); exact hzz (by omega) j a h8)
              exact ih47 (k47 + 1) (0) _ _ _ (by omega) (by omega) (by omega) hi9_hg122 hi9_hgr23 hi9_hsm24 hi9_hzz25 hdy (lv_sub hl [0, 1, 2] rfl)
            · have hc63 : ¬ (d1 k47) ≤ 0 := fun h9 => hc63 (by have h8 := (nI_leI (by omega) (by omega)).mpr h9; rw [nI_0] at h8; exact h8)
              refine lv_iconst (v := (nI (1))) hx hb zd_N_isGood_66 (by decide) ?_
              refine lv_goto (tgt := 71) hx hb zd_N_isGood_67 (by decide) ?_
              refine lv_istore_n (lv' := [(1, .int (nI (1))), (2, .int (nI (k47))), (0, .ref o)]) hx hb zd_N_isGood_71 rfl hl (by decide) rfl (fun ls hl => ?_)
              refine lv_iinc (v := (nI (k47 + 1))) (lv' := [(2, .int (nI (k47 + 1))), (1, .int (nI (1))), (0, .ref o)]) hx hb zd_N_isGood_72 hl (k := 1) rfl (nI_1 _) (by decide) rfl (fun ls hl => ?_)
              refine lv_goto (tgt := 47) hx hb zd_N_isGood_75 (by decide) ?_
              have hi9_hg126 : 1 ≤ 1 := by omega
              have hi9_hgr27 : kv_flag (1) (5 ≤ kv_val d1 16) := by first | exact hgr | exact Or.inl rfl | exact Or.inr (kv_flag_of hgr (by omega)) | (have h8 := kv_bigF (d := d1) (k := k47) (by omega) (by omega) (by omega); exact Or.inr (by omega))
              have hi9_hsm28 : 1 = 0 → d1 0 ≤ 4 := by first | exact hsm | (intro h; first | (exfalso; omega) | exact hsm (by omega))
              have hi9_hzz29 : 1 = 0 → ∀ j, 0 < j → j < k47 + 1 → d1 j = 0 := by intro h j a b; first | (exfalso; omega) | (rcases (by omega : j = k47 ∨ j < k47) with h8 | h8; (rw [h8]; omega); exact hzz (by omega) j a h8)
              exact ih47 (k47 + 1) (1) _ _ _ (by omega) (by omega) (by omega) hi9_hg126 hi9_hgr27 hi9_hsm28 hi9_hzz29 hdy (lv_sub hl [0, 1, 2] rfl)
    have hi9_hg130 : 0 ≤ 1 := by omega
    have hi9_hgr31 : kv_flag (0) (5 ≤ kv_val d1 16) := by first | exact Or.inl rfl | (have h8 := kv_ge0 d1; exact Or.inr (by omega))
    have hi9_hsm32 : 0 = 0 → d1 0 ≤ 4 := by intro h; omega
    have hi9_hzz33 : 0 = 0 → ∀ j, 0 < j → j < 1 → d1 j = 0 := by intro h j a b; omega
    exact lp47 (16 - 1 + 1) 1 (0) _ _ _ (by omega) (by omega) (by omega) hi9_hg130 hi9_hgr31 hi9_hsm32 hi9_hzz33 hdy (lv_sub hl [0, 1, 2] rfl)
  · have hc36 : ¬ (d1 0) ≤ 4 := fun h9 => hc36 ((nI_leI (by omega) (by omega)).mpr h9)
    refine lv_iconst (v := (nI (1))) hx hb zd_N_isGood_39 (by decide) ?_
    refine lv_goto (tgt := 44) hx hb zd_N_isGood_40 (by decide) ?_
    refine lv_istore_n (lv' := [(1, .int (nI (1))), (0, .ref o)]) hx hb zd_N_isGood_44 rfl hl (by decide) rfl (fun ls hl => ?_)
    refine lv_iconst (v := (nI (1))) hx hb zd_N_isGood_45 (by decide) ?_
    refine lv_istore_n (lv' := [(2, .int (nI (1))), (1, .int (nI (1))), (0, .ref o)]) hx hb zd_N_isGood_46 rfl hl (by decide) rfl (fun ls hl => ?_)
    have lp47 : ∀ (n47 k47 : Nat) (c34 : Nat) (H : Heap) (locs : List Loc) (ls : Array Slot), k47 ≤ 16 → 16 - k47 < n47 → 1 ≤ k47 → (c34 ≤ 1) → (kv_flag (c34) (5 ≤ kv_val d1 16)) → (c34 = 0 → d1 0 ≤ 4) → (c34 = 0 → ∀ j, 0 < j → j < k47 → d1 j = 0) → kz_dy (dC, dI) vwCl A s.heap H locs [(o, .inr (4, [.int th, .int sta, .ref mt, .ref mn, .ref ml, .ref mc, .ref mh, .ref mk, .ref mp, .ref mm, .ref mb, .ref mw, .ref mr, .ref mx, .ref me, .ref mP, .ref mQ, .ref ms, .int x5, .int (nI (sz_)), .ref mo, .ref mW, .ref mD, .ref mB, .ref mR, .ref mS])), (mp, .inl (cI, 16, .inl (kz_dg d1))), (mb, .inl (cI, 16, .inl (kz_dg d3))), (mP, .inl (cI, 16, .inl (kz_dg d6))), (mQ, .inl (cI, 16, .inl (kz_dg d7))), (ms, .inl (cI, 18, .inl (kz_dg d8))), (mx, .inl (cI, 32, .inl (kz_dg d9))), (me, .inl (cI, 18, .inl (kz_dg gme)))] → lv_has ls 3 [(2, .int (nI (k47))), (1, .int (nI (c34))), (0, .ref o)] → W p l e { frames := 2, cells := 0, slots := 0, locals := 54 } s m ([.ref o] : List Value).toArray below meth c H locs 0 0 (MQ below (va_Qi (fun (r : Int32) (u : Int32 × (Nat → Nat) × (Nat → Nat) × (Nat → Nat) × (Nat → Nat) × (Nat → Nat) × (Nat → Nat) × (Nat → Nat)) => (∀ j, u.2.1 j < 65536) ∧ (∀ j, u.2.2.1 j < 65536) ∧ (∀ j, u.2.2.2.1 j < 65536) ∧ (∀ j, u.2.2.2.2.1 j < 65536) ∧ (∀ j, u.2.2.2.2.2.1 j < 4294967296) ∧ (∀ j, u.2.2.2.2.2.2.1 j < 65536) ∧ (∀ j, u.2.2.2.2.2.2.2 j < 65536) ∧ (r = 0 ∨ r = 1) ∧ ((r = 1 ∧ kx_ok (kv_val (kv_fig gmt 0) 16) (kv_val (kv_fig gmt 8) 16) (kv_val (kv_fig gmt 16) 8) (kv_val (kv_fig gmt 24) 8)) ∨ (r = 0 ∧ ¬ kx_ok (kv_val (kv_fig gmt 0) 16) (kv_val (kv_fig gmt 8) 16) (kv_val (kv_fig gmt 16) 8) (kv_val (kv_fig gmt 24) 8))) ∧ (∀ j, j < 16 → u.2.1 j = kv_fig gmt 0 j) ∧ True) (kz_B (dC, dI) vwCl A (fun u : Int32 × (Nat → Nat) × (Nat → Nat) × (Nat → Nat) × (Nat → Nat) × (Nat → Nat) × (Nat → Nat) × (Nat → Nat) => [(o, .inr (4, [.int th, .int sta, .ref mt, .ref mn, .ref ml, .ref mc, .ref mh, .ref mk, .ref mp, .ref mm, .ref mb, .ref mw, .ref mr, .ref mx, .ref me, .ref mP, .ref mQ, .ref ms, .int u.1, .int (nI (sz_)), .ref mo, .ref mW, .ref mD, .ref mB, .ref mR, .ref mS])), (mp, .inl (cI, 16, .inl (kz_dg u.2.1))), (mb, .inl (cI, 16, .inl (kz_dg u.2.2.1))), (mP, .inl (cI, 16, .inl (kz_dg u.2.2.2.1))), (mQ, .inl (cI, 16, .inl (kz_dg u.2.2.2.2.1))), (ms, .inl (cI, 18, .inl (kz_dg u.2.2.2.2.2.1))), (mx, .inl (cI, 32, .inl (kz_dg u.2.2.2.2.2.2.1))), (me, .inl (cI, 18, .inl (kz_dg u.2.2.2.2.2.2.2)))])) A) ([.ref o] : List Value).toArray s 0 0 A) (F0 m 47 ls []) := by
      intro n47
      induction n47 with
      | zero => intro k47; intros; omega
      | succ n47 ih47 =>
        intro k47 c34 H locs ls hi47 hn47 hblow hg1 hgr hsm hzz hdy hl
        refine lv_iload_n hx hb zd_N_isGood_47 rfl (lv_at hl 0 rfl) ?_
        refine lv_bipush (v := (nI (16))) hx hb zd_N_isGood_48 (by decide) ?_
        refine lv_icmp_ge (tgt := 78) hx hb zd_N_isGood_50 (by decide) (fun hc50 => ?_) (fun hc50 => ?_)
        · have hc50 : 16 ≤ k47 := (nI_leI (by omega) (by omega)).mp hc50
          refine lv_iload_n hx hb zd_N_isGood_78 rfl (lv_at hl 1 rfl) ?_
          refine lv_if_eq (tgt := 106) hx hb zd_N_isGood_79 (by decide) (fun hc79 => ?_) (fun hc79 => ?_)
          · have hc79 : c34 = 0 := (kx_nIeq (by omega) (by omega)).mp (by rw [nI_0]; exact hc79)
            refine lv_iconst (v := (nI (0))) hx hb zd_N_isGood_106 (by decide) ?_
            exact kz_zret F (x5, d1, d3, d6, d7, d8, d9, gme) hdy (by first | exact Or.inl rfl | exact Or.inr rfl | assumption) (⟨hd_d1, hd_d3, hd_d6, hd_d7, hd_d8, hd_d9, hd_gme, by first | exact Or.inl rfl | exact Or.inr rfl | assumption, by first | (exact Or.inr ⟨rfl, fun h9 => by have h8 := h9.1; rw [← hVp, kv_small0 (fun j a b => hzz (by omega) j a (by omega))] at h8; have h7 := hsm (by omega); omega⟩) | (exact Or.inr ⟨rfl, fun h9 => absurd h9.2.2.2 (q10.resolve_right (fun h => absurd (hc86.symm.trans h.1) (by decide))).2⟩) | (exact Or.inr ⟨rfl, fun h9 => (q16.resolve_left (fun h => absurd (hc99.symm.trans h.1) (by decide))).2 ⟨by have h8 := h9.2.1; omega, by have h8 := h9.2.2.1; omega⟩⟩), by exact q2, trivial⟩) zd_N_isGood_107
          · have hc79 : ¬ c34 = 0 := fun h9 => hc79 (by have h8 := (kx_nIeq (by omega) (by omega)).mpr h9; rw [nI_0] at h8; exact h8)
            refine lv_aload_n hx hb zd_N_isGood_82 rfl (lv_at hl 2 rfl) ?_
            refine va_get (D := (dC, dI)) (ci := 4) (v := .int x5) (C := zR_N) (T := zT_N) (N := 26) hx hb hts (fun w h => kz_c (zi_N w h)) hown hK hdy.1 0 rfl rfl 18 (by decide) (hts _ (kz_c mw_609)) (fun _ h9 => h9) rfl zd_N_isGood_83 ?_
            refine lv_if_eq (tgt := 106) hx hb zd_N_isGood_86 (by decide) (fun hc86 => ?_) (fun hc86 => ?_)
            · refine lv_iconst (v := (nI (0))) hx hb zd_N_isGood_106 (by decide) ?_
              exact kz_zret F (x5, d1, d3, d6, d7, d8, d9, gme) hdy (by first | exact Or.inl rfl | exact Or.inr rfl | assumption) (⟨hd_d1, hd_d3, hd_d6, hd_d7, hd_d8, hd_d9, hd_gme, by first | exact Or.inl rfl | exact Or.inr rfl | assumption, by first | (exact Or.inr ⟨rfl, fun h9 => by have h8 := h9.1; rw [← hVp, kv_small0 (fun j a b => hzz (by omega) j a (by omega))] at h8; have h7 := hsm (by omega); omega⟩) | (exact Or.inr ⟨rfl, fun h9 => absurd h9.2.2.2 (q10.resolve_right (fun h => absurd (hc86.symm.trans h.1) (by decide))).2⟩) | (exact Or.inr ⟨rfl, fun h9 => (q16.resolve_left (fun h => absurd (hc99.symm.trans h.1) (by decide))).2 ⟨by have h8 := h9.2.1; omega, by have h8 := h9.2.2.1; omega⟩⟩), by exact q2, trivial⟩) zd_N_isGood_107
            · refine lv_aload_n hx hb zd_N_isGood_89 rfl (lv_at hl 2 rfl) ?_
              refine lv_aload_n hx hb zd_N_isGood_90 rfl (lv_at hl 2 rfl) ?_
              refine va_get (D := (dC, dI)) (ci := 4) (v := .ref mb) (C := zR_N) (T := zT_N) (N := 26) hx hb hts (fun w h => kz_c (zi_N w h)) hown hK hdy.1 0 rfl rfl 10 (by decide) (hts _ (kz_c mw_601)) (fun _ h9 => h9) rfl zd_N_isGood_91 ?_
              refine lv_iconst (v := (nI (2))) hx hb zd_N_isGood_94 (by decide) ?_
              refine lv_iconst (v := (nI (2))) hx hb zd_N_isGood_95 (by decide) ?_
              refine kz_calli (wk := [(o, .inr (4, [.int th, .int sta, .ref mt, .ref mn, .ref ml, .ref mc, .ref mh, .ref mk, .ref mp, .ref mm, .ref mb, .ref mw, .ref mr, .ref mx, .ref me, .ref mP, .ref mQ, .ref ms, .int x5, .int (nI (sz_)), .ref mo, .ref mW, .ref mD, .ref mB, .ref mR, .ref mS])), (mp, .inl (cI, 16, .inl (kz_dg d1))), (mb, .inl (cI, 16, .inl (kz_dg d3))), (mP, .inl (cI, 16, .inl (kz_dg d6))), (mQ, .inl (cI, 16, .inl (kz_dg d7))), (ms, .inl (cI, 18, .inl (kz_dg d8))), (mx, .inl (cI, 32, .inl (kz_dg d9)))]) (va_runV (As := [.ref mb, .int (nI (2)), .int (nI (2))]) (rest := []) ⟨hx, hb, hml, hown, hts⟩ (c_F_isWithin l dC dI cI cAA cB cL me o mt mn ml mc mh mk mp mm mb mw mr mx mP mQ ms mo mW mD mB mR mS mb gme (th) (sta) (x5) sz_ d3 d1 _ hd_gme hd_d3 hd_d1) (cwV 3 hts (kz_g (kz_mc mw_711 (kz_mc mw_713 (kz_mc mw_24 (kz_mc mw_43 kz_mn)))) mw_714) rfl rfl rfl (by decide +kernel) ⟨Nat.le_of_ble_eq_true rfl, Nat.le_of_ble_eq_true rfl⟩) (kz_preV hdy hA hK hro hZ hN [7] (by decide) rfl [(false, 0), (false, 2), (false, 1)] rfl (by decide) [0, 1, 2, 3] rfl (fun _ h => by cases h) (fun _ h => by cases h) rfl (ci := 4) (q0 := 0) rfl rfl rfl) rfl rfl hl.1 rfl (lv_room (Nat.le_of_ble_eq_true rfl)) zd_N_isGood_96 ⟨Nat.le_of_ble_eq_true rfl, Nat.le_of_ble_eq_true rfl⟩) hdy hA [7] [0, 1, 2, 3, 4, 5, 6] rfl rfl (by decide) (by decide) (fun r u H locs hw hdy => ?_)
              obtain ⟨r36, rfl⟩ : ∃ z, z = r := ⟨_, rfl⟩
              obtain ⟨d35, rfl⟩ : ∃ z, z = u := ⟨_, rfl⟩
              try dsimp only at hw
              obtain ⟨hd_d35, hzr36, q37, -⟩ := hw
              have hdy : kz_dy (dC, dI) vwCl A s.heap H locs [(o, .inr (4, [.int th, .int sta, .ref mt, .ref mn, .ref ml, .ref mc, .ref mh, .ref mk, .ref mp, .ref mm, .ref mb, .ref mw, .ref mr, .ref mx, .ref me, .ref mP, .ref mQ, .ref ms, .int x5, .int (nI (sz_)), .ref mo, .ref mW, .ref mD, .ref mB, .ref mR, .ref mS])), (mp, .inl (cI, 16, .inl (kz_dg d1))), (mb, .inl (cI, 16, .inl (kz_dg d3))), (mP, .inl (cI, 16, .inl (kz_dg d6))), (mQ, .inl (cI, 16, .inl (kz_dg d7))), (ms, .inl (cI, 18, .inl (kz_dg d8))), (mx, .inl (cI, 32, .inl (kz_dg d9))), (me, .inl (cI, 18, .inl (kz_dg d35)))] := hdy.sub [0, 1, 2, 3, 4, 5, 6, 7] (by decide) rfl
              refine lv_if_eq (tgt := 106) hx hb zd_N_isGood_99 (by decide) (fun hc99 => ?_) (fun hc99 => ?_)
              · refine lv_iconst (v := (nI (0))) hx hb zd_N_isGood_106 (by decide) ?_
                exact kz_zret F (x5, d1, d3, d6, d7, d8, d9, d35) hdy (by first | exact Or.inl rfl | exact Or.inr rfl | assumption) (⟨hd_d1, hd_d3, hd_d6, hd_d7, hd_d8, hd_d9, hd_d35, by first | exact Or.inl rfl | exact Or.inr rfl | assumption, by first | (exact Or.inr ⟨rfl, fun h9 => by have h8 := h9.1; rw [← hVp, kv_small0 (fun j a b => hzz (by omega) j a (by omega))] at h8; have h7 := hsm (by omega); omega⟩) | (exact Or.inr ⟨rfl, fun h9 => absurd h9.2.2.2 (q10.resolve_right (fun h => absurd (hc86.symm.trans h.1) (by decide))).2⟩) | (exact Or.inr ⟨rfl, fun h9 => (q37.resolve_left (fun h => absurd (hc99.symm.trans h.1) (by decide))).2 ⟨by have h8 := h9.2.1; omega, by have h8 := h9.2.2.1; omega⟩⟩), by exact q2, trivial⟩) zd_N_isGood_107
              · refine lv_iconst (v := (nI (1))) hx hb zd_N_isGood_102 (by decide) ?_
                refine lv_goto (tgt := 107) hx hb zd_N_isGood_103 (by decide) ?_
                exact kz_zret F (x5, d1, d3, d6, d7, d8, d9, d35) hdy (by first | exact Or.inl rfl | exact Or.inr rfl | assumption) (⟨hd_d1, hd_d3, hd_d6, hd_d7, hd_d8, hd_d9, hd_d35, by first | exact Or.inl rfl | exact Or.inr rfl | assumption, by exact Or.inl ⟨rfl, by have h8 := kv_flag_of hgr (by omega); omega, by have h8 := (q37.resolve_right (fun h => hc99 h.1)).2.1; omega, by have h8 := (q37.resolve_right (fun h => hc99 h.1)).2.2; omega, (q10.resolve_left (fun h => hc86 h.1)).2.1⟩, by exact q2, trivial⟩) zd_N_isGood_107
        · have hc50 : ¬ 16 ≤ k47 := fun h9 => hc50 ((nI_leI (by omega) (by omega)).mpr h9)
          refine lv_iload_n hx hb zd_N_isGood_53 rfl (lv_at hl 1 rfl) ?_
          refine lv_if_ne (tgt := 66) hx hb zd_N_isGood_54 (by decide) (fun hc54 => ?_) (fun hc54 => ?_)
          · have hc54 : ¬ c34 = 0 := fun h9 => hc54 (by have h8 := (kx_nIeq (by omega) (by omega)).mpr h9; rw [nI_0] at h8; exact h8)
            refine lv_iconst (v := (nI (1))) hx hb zd_N_isGood_66 (by decide) ?_
            refine lv_goto (tgt := 71) hx hb zd_N_isGood_67 (by decide) ?_
            refine lv_istore_n (lv' := [(1, .int (nI (1))), (2, .int (nI (k47))), (0, .ref o)]) hx hb zd_N_isGood_71 rfl hl (by decide) rfl (fun ls hl => ?_)
            refine lv_iinc (v := (nI (k47 + 1))) (lv' := [(2, .int (nI (k47 + 1))), (1, .int (nI (1))), (0, .ref o)]) hx hb zd_N_isGood_72 hl (k := 1) rfl (nI_1 _) (by decide) rfl (fun ls hl => ?_)
            refine lv_goto (tgt := 47) hx hb zd_N_isGood_75 (by decide) ?_
            have hi9_hg138 : 1 ≤ 1 := by omega
            have hi9_hgr39 : kv_flag (1) (5 ≤ kv_val d1 16) := by first | exact hgr | exact Or.inl rfl | exact Or.inr (kv_flag_of hgr (by omega)) | (have h8 := kv_bigF (d := d1) (k := k47) (by omega) (by omega) (by omega); exact Or.inr (by omega))
            have hi9_hsm40 : 1 = 0 → d1 0 ≤ 4 := by first | exact hsm | (intro h; first | (exfalso; omega) | exact hsm (by omega))
            have hi9_hzz41 : 1 = 0 → ∀ j, 0 < j → j < k47 + 1 → d1 j = 0 := by intro h j a b; first | (exfalso; omega) | (rcases (by omega : j = k47 ∨ j < k47) with h8 | h8; (rw [h8]; omega); exact hzz (by omega) j a h8)
            exact ih47 (k47 + 1) (1) _ _ _ (by omega) (by omega) (by omega) hi9_hg138 hi9_hgr39 hi9_hsm40 hi9_hzz41 hdy (lv_sub hl [0, 1, 2] rfl)
          · have hc54 : c34 = 0 := (kx_nIeq (by omega) (by omega)).mp (by rw [nI_0]; exact hc54)
            refine lv_aload_n hx hb zd_N_isGood_57 rfl (lv_at hl 2 rfl) ?_
            refine va_get (D := (dC, dI)) (ci := 4) (v := .ref mp) (C := zR_N) (T := zT_N) (N := 26) hx hb hts (fun w h => kz_c (zi_N w h)) hown hK hdy.1 0 rfl rfl 8 (by decide) (hts _ (kz_c mw_599)) (fun _ h9 => h9) rfl zd_N_isGood_58 ?_
            refine lv_iload_n hx hb zd_N_isGood_61 rfl (lv_at hl 0 rfl) ?_
            refine va_iald hx hb hK hdy.1 1 0 rfl rfl (vp_in_nI (by omega) (by omega)) zd_N_isGood_62 ?_
            refine lv_topi (fun x42 h9 => ?_)
            obtain rfl : x42 = nI (d1 k47) := h9.trans (kz_dgl d1 (by omega))
            have hbx42 := hd_d1 k47
            refine lv_if_le (tgt := 70) hx hb zd_N_isGood_63 (by decide) (fun hc63 => ?_) (fun hc63 => ?_)
            · have hc63 : (d1 k47) ≤ 0 := (nI_leI (by omega) (by omega)).mp (by rw [nI_0]; exact hc63)
              refine lv_iconst (v := (nI (0))) hx hb zd_N_isGood_70 (by decide) ?_
              refine lv_istore_n (lv' := [(1, .int (nI (0))), (2, .int (nI (k47))), (0, .ref o)]) hx hb zd_N_isGood_71 rfl hl (by decide) rfl (fun ls hl => ?_)
              refine lv_iinc (v := (nI (k47 + 1))) (lv' := [(2, .int (nI (k47 + 1))), (1, .int (nI (0))), (0, .ref o)]) hx hb zd_N_isGood_72 hl (k := 1) rfl (nI_1 _) (by decide) rfl (fun ls hl => ?_)
              refine lv_goto (tgt := 47) hx hb zd_N_isGood_75 (by decide) ?_
              have hi9_hg143 : 0 ≤ 1 := by omega
              have hi9_hgr44 : kv_flag (0) (5 ≤ kv_val d1 16) := by first | exact hgr | exact Or.inl rfl | exact Or.inr (kv_flag_of hgr (by omega)) | (have h8 := kv_bigF (d := d1) (k := k47) (by omega) (by omega) (by omega); exact Or.inr (by omega))
              have hi9_hsm45 : 0 = 0 → d1 0 ≤ 4 := by first | exact hsm | (intro h; first | (exfalso; omega) | exact hsm (by omega))
              have hi9_hzz46 : 0 = 0 → ∀ j, 0 < j → j < k47 + 1 → d1 j = 0 := by intro h j a b; first | (exfalso; omega) | (rcases (by omega : j = k47 ∨ j < k47) with h8 | h8; (rw [h8]; omega); exact hzz (by omega) j a h8)
              exact ih47 (k47 + 1) (0) _ _ _ (by omega) (by omega) (by omega) hi9_hg143 hi9_hgr44 hi9_hsm45 hi9_hzz46 hdy (lv_sub hl [0, 1, 2] rfl)
            · have hc63 : ¬ (d1 k47) ≤ 0 := fun h9 => hc63 (by have h8 := (nI_leI (by omega) (by omega)).mpr h9; rw [nI_0] at h8; exact h8)
              refine lv_iconst (v := (nI (1))) hx hb zd_N_isGood_66 (by decide) ?_
              refine lv_goto (tgt := 71) hx hb zd_N_isGood_67 (by decide) ?_
              refine lv_istore_n (lv' := [(1, .int (nI (1))), (2, .int (nI (k47))), (0, .ref o)]) hx hb zd_N_isGood_71 rfl hl (by decide) rfl (fun ls hl => ?_)
              refine lv_iinc (v := (nI (k47 + 1))) (lv' := [(2, .int (nI (k47 + 1))), (1, .int (nI (1))), (0, .ref o)]) hx hb zd_N_isGood_72 hl (k := 1) rfl (nI_1 _) (by decide) rfl (fun ls hl => ?_)
              refine lv_goto (tgt := 47) hx hb zd_N_isGood_75 (by decide) ?_
              have hi9_hg147 : 1 ≤ 1 := by omega
              have hi9_hgr48 : kv_flag (1) (5 ≤ kv_val d1 16) := by first | exact hgr | exact Or.inl rfl | exact Or.inr (kv_flag_of hgr (by omega)) | (have h8 := kv_bigF (d := d1) (k := k47) (by omega) (by omega) (by omega); exact Or.inr (by omega))
              have hi9_hsm49 : 1 = 0 → d1 0 ≤ 4 := by first | exact hsm | (intro h; first | (exfalso; omega) | exact hsm (by omega))
              have hi9_hzz50 : 1 = 0 → ∀ j, 0 < j → j < k47 + 1 → d1 j = 0 := by intro h j a b; first | (exfalso; omega) | (rcases (by omega : j = k47 ∨ j < k47) with h8 | h8; (rw [h8]; omega); exact hzz (by omega) j a h8)
              exact ih47 (k47 + 1) (1) _ _ _ (by omega) (by omega) (by omega) hi9_hg147 hi9_hgr48 hi9_hsm49 hi9_hzz50 hdy (lv_sub hl [0, 1, 2] rfl)
    have hi9_hg151 : 1 ≤ 1 := by omega
    have hi9_hgr52 : kv_flag (1) (5 ≤ kv_val d1 16) := by first | exact Or.inl rfl | (have h8 := kv_ge0 d1; exact Or.inr (by omega))
    have hi9_hsm53 : 1 = 0 → d1 0 ≤ 4 := by intro h; omega
    have hi9_hzz54 : 1 = 0 → ∀ j, 0 < j → j < 1 → d1 j = 0 := by intro h j a b; omega
    exact lp47 (16 - 1 + 1) 1 (1) _ _ _ (by omega) (by omega) (by omega) hi9_hg151 hi9_hgr52 hi9_hsm53 hi9_hzz54 hdy (lv_sub hl [0, 1, 2] rfl)

set_option maxHeartbeats 4000000 in
set_option maxRecDepth 100000 in
/-- KeyMeetingModel.offer()I -/
theorem c_F_offer (l : Launch) (dC : Nat → ClassId) (dI : Nat → Nat → Nat) (cI cAA cB cL : ClassId) (o mt mn ml mc mh mk mp mm mb mw mr mx me mP mQ ms mo mW mD mB mR mS : Nat) (th : Int32) (sta : Int32) (hs : Int32) (sz_ : Nat) (gmp : Nat → Nat) (gmb : Nat → Nat) (gmP : Nat → Nat) (gmQ : Nat → Nat) (gms : Nat → Nat) (gmx : Nat → Nat) (gme : Nat → Nat) (gmw : Nat → Int32) (gmm : Nat → Nat) (gmr : Nat → Nat) (gmn : Nat → Int32) (gml : Nat → Int32) (gmt : Nat → Int32) (sz : Nat) (hd_gmp : ∀ j, gmp j < 65536) (hd_gmb : ∀ j, gmb j < 65536) (hd_gmP : ∀ j, gmP j < 65536) (hd_gmQ : ∀ j, gmQ j < 65536) (hd_gms : ∀ j, gms j < 4294967296) (hd_gmx : ∀ j, gmx j < 65536) (hd_gme : ∀ j, gme j < 65536) (hd_gmm : ∀ j, gmm j < 65536) (hd_gmr : ∀ j, gmr j < 65536) : Met l zy_N_offer zw_N_offer { frames := 4, cells := 0, slots := 0, locals := 101 } (kz_Pc (dC, dI) vwCl [(cI, .int), (cAA, .array .int), (cB, .byte), (cL, .long)] [] [] [.ref o] [(o, .inr (4, [.int th, .int sta, .ref mt, .ref mn, .ref ml, .ref mc, .ref mh, .ref mk, .ref mp, .ref mm, .ref mb, .ref mw, .ref mr, .ref mx, .ref me, .ref mP, .ref mQ, .ref ms, .int hs, .int (nI (sz_)), .ref mo, .ref mW, .ref mD, .ref mB, .ref mR, .ref mS])), (mp, .inl (cI, 16, .inl (kz_dg gmp))), (mb, .inl (cI, 16, .inl (kz_dg gmb))), (mP, .inl (cI, 16, .inl (kz_dg gmP))), (mQ, .inl (cI, 16, .inl (kz_dg gmQ))), (ms, .inl (cI, 18, .inl (kz_dg gms))), (mx, .inl (cI, 32, .inl (kz_dg gmx))), (me, .inl (cI, 18, .inl (kz_dg gme))), (mw, .inl (cI, 16, .inl gmw)), (mm, .inl (cI, 16, .inl (kz_dg gmm))), (mr, .inl (cI, 16, .inl (kz_dg gmr))), (mn, .inl (cI, 32, .inl gmn)), (ml, .inl (cI, 8, .inl gml))] [(mt, .inl (cI, 56, .inl gmt))] sz) (va_Qi (fun (r : Int32) (u : Int32 × Int32 × Int32 × (Nat → Nat) × (Nat → Nat) × (Nat → Nat) × (Nat → Nat) × (Nat → Nat) × (Nat → Nat) × (Nat → Nat) × (Nat → Int32) × (Nat → Nat) × (Nat → Nat) × (Nat → Int32) × (Nat → Int32)) => (∀ j, u.2.2.2.1 j < 65536) ∧ (∀ j, u.2.2.2.2.1 j < 65536) ∧ (∀ j, u.2.2.2.2.2.1 j < 65536) ∧ (∀ j, u.2.2.2.2.2.2.1 j < 65536) ∧ (∀ j, u.2.2.2.2.2.2.2.1 j < 4294967296) ∧ (∀ j, u.2.2.2.2.2.2.2.2.1 j < 65536) ∧ (∀ j, u.2.2.2.2.2.2.2.2.2.1 j < 65536) ∧ (∀ j, u.2.2.2.2.2.2.2.2.2.2.2.1 j < 65536) ∧ (∀ j, u.2.2.2.2.2.2.2.2.2.2.2.2.1 j < 65536) ∧ (kx_off (sta = 0) (kx_ok (kv_val (kv_fig gmt 0) 16) (kv_val (kv_fig gmt 8) 16) (kv_val (kv_fig gmt 16) 8) (kv_val (kv_fig gmt 24) 8)) r (u.2.1 = 0)) ∧ True) (kz_B (dC, dI) vwCl (va_A [(o, .inr (4, [.int th, .int sta, .ref mt, .ref mn, .ref ml, .ref mc, .ref mh, .ref mk, .ref mp, .ref mm, .ref mb, .ref mw, .ref mr, .ref mx, .ref me, .ref mP, .ref mQ, .ref ms, .int hs, .int (nI (sz_)), .ref mo, .ref mW, .ref mD, .ref mB, .ref mR, .ref mS])), (mp, .inl (cI, 16, .inl (kz_dg gmp))), (mb, .inl (cI, 16, .inl (kz_dg gmb))), (mP, .inl (cI, 16, .inl (kz_dg gmP))), (mQ, .inl (cI, 16, .inl (kz_dg gmQ))), (ms, .inl (cI, 18, .inl (kz_dg gms))), (mx, .inl (cI, 32, .inl (kz_dg gmx))), (me, .inl (cI, 18, .inl (kz_dg gme))), (mw, .inl (cI, 16, .inl gmw)), (mm, .inl (cI, 16, .inl (kz_dg gmm))), (mr, .inl (cI, 16, .inl (kz_dg gmr))), (mn, .inl (cI, 32, .inl gmn)), (ml, .inl (cI, 8, .inl gml))] sz) (fun u : Int32 × Int32 × Int32 × (Nat → Nat) × (Nat → Nat) × (Nat → Nat) × (Nat → Nat) × (Nat → Nat) × (Nat → Nat) × (Nat → Nat) × (Nat → Int32) × (Nat → Nat) × (Nat → Nat) × (Nat → Int32) × (Nat → Int32) => [(o, .inr (4, [.int u.1, .int u.2.1, .ref mt, .ref mn, .ref ml, .ref mc, .ref mh, .ref mk, .ref mp, .ref mm, .ref mb, .ref mw, .ref mr, .ref mx, .ref me, .ref mP, .ref mQ, .ref ms, .int u.2.2.1, .int (nI (sz_)), .ref mo, .ref mW, .ref mD, .ref mB, .ref mR, .ref mS])), (mp, .inl (cI, 16, .inl (kz_dg u.2.2.2.1))), (mb, .inl (cI, 16, .inl (kz_dg u.2.2.2.2.1))), (mP, .inl (cI, 16, .inl (kz_dg u.2.2.2.2.2.1))), (mQ, .inl (cI, 16, .inl (kz_dg u.2.2.2.2.2.2.1))), (ms, .inl (cI, 18, .inl (kz_dg u.2.2.2.2.2.2.2.1))), (mx, .inl (cI, 32, .inl (kz_dg u.2.2.2.2.2.2.2.2.1))), (me, .inl (cI, 18, .inl (kz_dg u.2.2.2.2.2.2.2.2.2.1))), (mw, .inl (cI, 16, .inl u.2.2.2.2.2.2.2.2.2.2.1)), (mm, .inl (cI, 16, .inl (kz_dg u.2.2.2.2.2.2.2.2.2.2.2.1))), (mr, .inl (cI, 16, .inl (kz_dg u.2.2.2.2.2.2.2.2.2.2.2.2.1))), (mn, .inl (cI, 32, .inl u.2.2.2.2.2.2.2.2.2.2.2.2.2.1)), (ml, .inl (cI, 8, .inl u.2.2.2.2.2.2.2.2.2.2.2.2.2.2))])) (va_A [(o, .inr (4, [.int th, .int sta, .ref mt, .ref mn, .ref ml, .ref mc, .ref mh, .ref mk, .ref mp, .ref mm, .ref mb, .ref mw, .ref mr, .ref mx, .ref me, .ref mP, .ref mQ, .ref ms, .int hs, .int (nI (sz_)), .ref mo, .ref mW, .ref mD, .ref mB, .ref mR, .ref mS])), (mp, .inl (cI, 16, .inl (kz_dg gmp))), (mb, .inl (cI, 16, .inl (kz_dg gmb))), (mP, .inl (cI, 16, .inl (kz_dg gmP))), (mQ, .inl (cI, 16, .inl (kz_dg gmQ))), (ms, .inl (cI, 18, .inl (kz_dg gms))), (mx, .inl (cI, 32, .inl (kz_dg gmx))), (me, .inl (cI, 18, .inl (kz_dg gme))), (mw, .inl (cI, 16, .inl gmw)), (mm, .inl (cI, 16, .inl (kz_dg gmm))), (mr, .inl (cI, 16, .inl (kz_dg gmr))), (mn, .inl (cI, 32, .inl gmn)), (ml, .inl (cI, 8, .inl gml))] sz)) 0 0 (va_A [(o, .inr (4, [.int th, .int sta, .ref mt, .ref mn, .ref ml, .ref mc, .ref mh, .ref mk, .ref mp, .ref mm, .ref mb, .ref mw, .ref mr, .ref mx, .ref me, .ref mP, .ref mQ, .ref ms, .int hs, .int (nI (sz_)), .ref mo, .ref mW, .ref mD, .ref mB, .ref mR, .ref mS])), (mp, .inl (cI, 16, .inl (kz_dg gmp))), (mb, .inl (cI, 16, .inl (kz_dg gmb))), (mP, .inl (cI, 16, .inl (kz_dg gmP))), (mQ, .inl (cI, 16, .inl (kz_dg gmQ))), (ms, .inl (cI, 18, .inl (kz_dg gms))), (mx, .inl (cI, 32, .inl (kz_dg gmx))), (me, .inl (cI, 18, .inl (kz_dg gme))), (mw, .inl (cI, 16, .inl gmw)), (mm, .inl (cI, 16, .inl (kz_dg gmm))), (mr, .inl (cI, 16, .inl (kz_dg gmr))), (mn, .inl (cI, 32, .inl gmn)), (ml, .inl (cI, 8, .inl gml))] sz) := by
  refine kz_met (y := zy_N_offer) (ws := zw_N_offer) (av := [.ref o]) (sz := sz) (Qc := fun A => va_Qi (fun (r : Int32) (u : Int32 × Int32 × Int32 × (Nat → Nat) × (Nat → Nat) × (Nat → Nat) × (Nat → Nat) × (Nat → Nat) × (Nat → Nat) × (Nat → Nat) × (Nat → Int32) × (Nat → Nat) × (Nat → Nat) × (Nat → Int32) × (Nat → Int32)) => (∀ j, u.2.2.2.1 j < 65536) ∧ (∀ j, u.2.2.2.2.1 j < 65536) ∧ (∀ j, u.2.2.2.2.2.1 j < 65536) ∧ (∀ j, u.2.2.2.2.2.2.1 j < 65536) ∧ (∀ j, u.2.2.2.2.2.2.2.1 j < 4294967296) ∧ (∀ j, u.2.2.2.2.2.2.2.2.1 j < 65536) ∧ (∀ j, u.2.2.2.2.2.2.2.2.2.1 j < 65536) ∧ (∀ j, u.2.2.2.2.2.2.2.2.2.2.2.1 j < 65536) ∧ (∀ j, u.2.2.2.2.2.2.2.2.2.2.2.2.1 j < 65536) ∧ (kx_off (sta = 0) (kx_ok (kv_val (kv_fig gmt 0) 16) (kv_val (kv_fig gmt 8) 16) (kv_val (kv_fig gmt 16) 8) (kv_val (kv_fig gmt 24) 8)) r (u.2.1 = 0)) ∧ True) (kz_B (dC, dI) vwCl A (fun u : Int32 × Int32 × Int32 × (Nat → Nat) × (Nat → Nat) × (Nat → Nat) × (Nat → Nat) × (Nat → Nat) × (Nat → Nat) × (Nat → Nat) × (Nat → Int32) × (Nat → Nat) × (Nat → Nat) × (Nat → Int32) × (Nat → Int32) => [(o, .inr (4, [.int u.1, .int u.2.1, .ref mt, .ref mn, .ref ml, .ref mc, .ref mh, .ref mk, .ref mp, .ref mm, .ref mb, .ref mw, .ref mr, .ref mx, .ref me, .ref mP, .ref mQ, .ref ms, .int u.2.2.1, .int (nI (sz_)), .ref mo, .ref mW, .ref mD, .ref mB, .ref mR, .ref mS])), (mp, .inl (cI, 16, .inl (kz_dg u.2.2.2.1))), (mb, .inl (cI, 16, .inl (kz_dg u.2.2.2.2.1))), (mP, .inl (cI, 16, .inl (kz_dg u.2.2.2.2.2.1))), (mQ, .inl (cI, 16, .inl (kz_dg u.2.2.2.2.2.2.1))), (ms, .inl (cI, 18, .inl (kz_dg u.2.2.2.2.2.2.2.1))), (mx, .inl (cI, 32, .inl (kz_dg u.2.2.2.2.2.2.2.2.1))), (me, .inl (cI, 18, .inl (kz_dg u.2.2.2.2.2.2.2.2.2.1))), (mw, .inl (cI, 16, .inl u.2.2.2.2.2.2.2.2.2.2.1)), (mm, .inl (cI, 16, .inl (kz_dg u.2.2.2.2.2.2.2.2.2.2.2.1))), (mr, .inl (cI, 16, .inl (kz_dg u.2.2.2.2.2.2.2.2.2.2.2.2.1))), (mn, .inl (cI, 32, .inl u.2.2.2.2.2.2.2.2.2.2.2.2.2.1)), (ml, .inl (cI, 8, .inl u.2.2.2.2.2.2.2.2.2.2.2.2.2.2))])) A) (cc := zc_N_offer) (maxL := 2) (ret := some .int) (by decide) rfl (Nat.le_of_ble_eq_true rfl) ?_
  intro p e s m below meth c A ls F hA hdy hK hro hZ hN hl
  obtain ⟨hx, hb, hml, hr, hown, hlocks, hts, hnm⟩ := id F
  have hl : lv_has ls 2 [(0, .ref o)] := hl
  refine lv_aload_n hx hb zd_N_offer_0 rfl (lv_at hl 0 rfl) ?_
  refine lv_iconst (v := (nI (0))) hx hb zd_N_offer_1 (by decide) ?_
  refine va_put (D := (dC, dI)) (ci := 4) (v := .int (nI (0))) (ty := .int) (C := zR_N) (T := zT_N) (N := 26) hx hb hts (fun w h => kz_c (zi_N w h)) zt_N zo_N zn_N hown hK hdy.1 hdy.2.1 hdy.2.2 0 rfl rfl 0 (by decide) (hts _ (kz_c mw_591)) (fun _ h9 => h9) rfl (by decide +kernel) rfl rfl (Nat.le_of_ble_eq_true rfl) zd_N_offer_2 (fun H locs hP hD hS => ?_)
  have hdy : kz_dy (dC, dI) vwCl A s.heap H locs [(o, .inr (4, [.int (nI (0)), .int sta, .ref mt, .ref mn, .ref ml, .ref mc, .ref mh, .ref mk, .ref mp, .ref mm, .ref mb, .ref mw, .ref mr, .ref mx, .ref me, .ref mP, .ref mQ, .ref ms, .int hs, .int (nI (sz_)), .ref mo, .ref mW, .ref mD, .ref mB, .ref mR, .ref mS])), (mp, .inl (cI, 16, .inl (kz_dg gmp))), (mb, .inl (cI, 16, .inl (kz_dg gmb))), (mP, .inl (cI, 16, .inl (kz_dg gmP))), (mQ, .inl (cI, 16, .inl (kz_dg gmQ))), (ms, .inl (cI, 18, .inl (kz_dg gms))), (mx, .inl (cI, 32, .inl (kz_dg gmx))), (me, .inl (cI, 18, .inl (kz_dg gme))), (mw, .inl (cI, 16, .inl gmw)), (mm, .inl (cI, 16, .inl (kz_dg gmm))), (mr, .inl (cI, 16, .inl (kz_dg gmr))), (mn, .inl (cI, 32, .inl gmn)), (ml, .inl (cI, 8, .inl gml))] := ⟨hP, hD, hS⟩
  refine lv_aload_n hx hb zd_N_offer_5 rfl (lv_at hl 0 rfl) ?_
  refine va_get (D := (dC, dI)) (ci := 4) (v := .int sta) (C := zR_N) (T := zT_N) (N := 26) hx hb hts (fun w h => kz_c (zi_N w h)) hown hK hdy.1 0 rfl rfl 1 (by decide) (hts _ (kz_c mw_592)) (fun _ h9 => h9) rfl zd_N_offer_6 ?_
  refine lv_if_eq (tgt := 15) hx hb zd_N_offer_9 (by decide) (fun hc9 => ?_) (fun hc9 => ?_)
  · refine lv_aload_n hx hb zd_N_offer_15 rfl (lv_at hl 0 rfl) ?_
    refine kz_calli (wk := [(mw, .inl (cI, 16, .inl gmw)), (mm, .inl (cI, 16, .inl (kz_dg gmm))), (mr, .inl (cI, 16, .inl (kz_dg gmr))), (mn, .inl (cI, 32, .inl gmn)), (ml, .inl (cI, 8, .inl gml))]) (va_runV (As := []) (rest := []) ⟨hx, hb, hml, hown, hts⟩ (c_F_isGood l dC dI cI cAA cB cL o mt mn ml mc mh mk mp mm mb mw mr mx me mP mQ ms mo mW mD mB mR mS ((nI (0))) (sta) (hs) sz_ gmp gmb gmP gmQ gms gmx gme gmt _ hd_gmp hd_gmb hd_gmP hd_gmQ hd_gms hd_gmx hd_gme) (cwV 0 hts (kz_g (kz_mc mw_686 (kz_mc mw_688 (kz_mc mw_21 (kz_mc mw_43 kz_mn)))) mw_689) rfl rfl rfl (by decide +kernel) ⟨Nat.le_of_ble_eq_true rfl, Nat.le_of_ble_eq_true rfl⟩) (kz_preV hdy hA hK hro hZ hN [0, 1, 2, 3, 4, 5, 6, 7] (by decide) rfl [(true, 0)] rfl (by decide) [0, 1, 2, 3] rfl (fun _ h => by cases h) (fun _ h => by cases h) rfl (ci := 4) (q0 := 0) rfl rfl rfl) rfl rfl hl.1 rfl (lv_room (Nat.le_of_ble_eq_true rfl)) zd_N_offer_16 ⟨Nat.le_of_ble_eq_true rfl, Nat.le_of_ble_eq_true rfl⟩) hdy hA [0, 1, 2, 3, 4, 5, 6, 7] [8, 9, 10, 11, 12] rfl rfl (by decide) (by decide) (fun r u H locs hw hdy => ?_)
    obtain ⟨r9, rfl⟩ : ∃ z, z = r := ⟨_, rfl⟩
    obtain ⟨x1, d2, d3, d4, d5, d6, d7, d8⟩ := u
    try dsimp only at hw
    obtain ⟨hd_d2, hd_d3, hd_d4, hd_d5, hd_d6, hd_d7, hd_d8, hzr9, q10, q11, -⟩ := hw
    have hdy : kz_dy (dC, dI) vwCl A s.heap H locs [(o, .inr (4, [.int (nI (0)), .int sta, .ref mt, .ref mn, .ref ml, .ref mc, .ref mh, .ref mk, .ref mp, .ref mm, .ref mb, .ref mw, .ref mr, .ref mx, .ref me, .ref mP, .ref mQ, .ref ms, .int x1, .int (nI (sz_)), .ref mo, .ref mW, .ref mD, .ref mB, .ref mR, .ref mS])), (mp, .inl (cI, 16, .inl (kz_dg d2))), (mb, .inl (cI, 16, .inl (kz_dg d3))), (mP, .inl (cI, 16, .inl (kz_dg d4))), (mQ, .inl (cI, 16, .inl (kz_dg d5))), (ms, .inl (cI, 18, .inl (kz_dg d6))), (mx, .inl (cI, 32, .inl (kz_dg d7))), (me, .inl (cI, 18, .inl (kz_dg d8))), (mw, .inl (cI, 16, .inl gmw)), (mm, .inl (cI, 16, .inl (kz_dg gmm))), (mr, .inl (cI, 16, .inl (kz_dg gmr))), (mn, .inl (cI, 32, .inl gmn)), (ml, .inl (cI, 8, .inl gml))] := hdy.sub [5, 6, 7, 8, 9, 10, 11, 12, 0, 1, 2, 3, 4] (by decide) rfl
    refine lv_if_ne (tgt := 25) hx hb zd_N_offer_19 (by decide) (fun hc19 => ?_) (fun hc19 => ?_)
    · have hok := (q10.resolve_right (fun h => hc19 h.1)).2
      have hnv := kv_ext 16 q11
      have hnp : kv_some d2 0 16 := kv_some_of (by have h9 := hok.1; omega)
      refine lv_aload_n hx hb zd_N_offer_25 rfl (lv_at hl 0 rfl) ?_
      refine lv_aload_n hx hb zd_N_offer_26 rfl (lv_at hl 0 rfl) ?_
      refine va_get (D := (dC, dI)) (ci := 4) (v := .ref mt) (C := zR_N) (T := zT_N) (N := 26) hx hb hts (fun w h => kz_c (zi_N w h)) hown hK hdy.1 0 rfl rfl 2 (by decide) (hts _ (kz_c mw_593)) (fun _ h9 => h9) rfl zd_N_offer_27 ?_
      refine lv_bipush (v := (nI (8))) hx hb zd_N_offer_30 (by decide) ?_
      refine lv_iconst (v := (nI (4))) hx hb zd_N_offer_32 (by decide) ?_
      refine lv_aload_n hx hb zd_N_offer_33 rfl (lv_at hl 0 rfl) ?_
      refine va_get (D := (dC, dI)) (ci := 4) (v := .ref mn) (C := zR_N) (T := zT_N) (N := 26) hx hb hts (fun w h => kz_c (zi_N w h)) hown hK hdy.1 0 rfl rfl 3 (by decide) (hts _ (kz_c mw_594)) (fun _ h9 => h9) rfl zd_N_offer_34 ?_
      refine lv_iconst (v := (nI (0))) hx hb zd_N_offer_37 (by decide) ?_
      refine kz_callv (wk := [(o, .inr (4, [.int (nI (0)), .int sta, .ref mt, .ref mn, .ref ml, .ref mc, .ref mh, .ref mk, .ref mp, .ref mm, .ref mb, .ref mw, .ref mr, .ref mx, .ref me, .ref mP, .ref mQ, .ref ms, .int x1, .int (nI (sz_)), .ref mo, .ref mW, .ref mD, .ref mB, .ref mR, .ref mS])), (mp, .inl (cI, 16, .inl (kz_dg d2))), (mP, .inl (cI, 16, .inl (kz_dg d4))), (mQ, .inl (cI, 16, .inl (kz_dg d5))), (ms, .inl (cI, 18, .inl (kz_dg d6))), (ml, .inl (cI, 8, .inl gml))]) (va_runV (As := [.ref mt, .int (nI (8)), .int (nI (4)), .ref mn, .int (nI (0))]) (rest := []) ⟨hx, hb, hml, hown, hts⟩ (c_U_raiseA l dC dI cI cAA cB cL mb mw mm mx me mr mn o mt ml mc mh mk mp mP mQ ms mo mW mD mB mR mS d3 gmw gmm d7 d8 gmr gmn ((nI (0))) (sta) (x1) sz_ gmt d2 8 4 0 _ hd_d3 hd_gmm hd_d7 hd_d8 hd_gmr hd_d2 (by first | omega | assumption) (by first | omega | assumption) (by first | omega | assumption) (by first | omega | assumption)) (cwV 5 hts (kz_g (kz_mc mw_718 (kz_mc mw_720 (kz_mc mw_25 (kz_mc mw_43 kz_mn)))) mw_721) rfl rfl rfl (by decide +kernel) ⟨Nat.le_of_ble_eq_true rfl, Nat.le_of_ble_eq_true rfl⟩) (kz_preV hdy hA hK hro hZ hN [2, 8, 9, 6, 7, 10, 11] (by decide) rfl [(false, 0), (true, 0), (false, 1)] rfl (by decide) [0, 1, 2, 3] rfl (fun _ h => by cases h) (fun _ h => by cases h) rfl (ci := 4) (q0 := 0) rfl rfl rfl) rfl rfl hl.1 rfl (lv_room (Nat.le_of_ble_eq_true rfl)) zd_N_offer_38 ⟨Nat.le_of_ble_eq_true rfl, Nat.le_of_ble_eq_true rfl⟩) hdy hA [2, 8, 9, 6, 7, 10, 11] [0, 1, 3, 4, 5, 12] rfl rfl (by decide) (by decide) (fun u H locs hw hdy => ?_)
      obtain ⟨d12, f13, d14, d15, d16, d17, f18⟩ := u
      try dsimp only at hw
      obtain ⟨hd_d12, hd_d14, hd_d15, hd_d16, hd_d17, q19, -⟩ := hw
      have hdy : kz_dy (dC, dI) vwCl A s.heap H locs [(o, .inr (4, [.int (nI (0)), .int sta, .ref mt, .ref mn, .ref ml, .ref mc, .ref mh, .ref mk, .ref mp, .ref mm, .ref mb, .ref mw, .ref mr, .ref mx, .ref me, .ref mP, .ref mQ, .ref ms, .int x1, .int (nI (sz_)), .ref mo, .ref mW, .ref mD, .ref mB, .ref mR, .ref mS])), (mp, .inl (cI, 16, .inl (kz_dg d2))), (mb, .inl (cI, 16, .inl (kz_dg d12))), (mP, .inl (cI, 16, .inl (kz_dg d4))), (mQ, .inl (cI, 16, .inl (kz_dg d5))), (ms, .inl (cI, 18, .inl (kz_dg d6))), (mx, .inl (cI, 32, .inl (kz_dg d15))), (me, .inl (cI, 18, .inl (kz_dg d16))), (mw, .inl (cI, 16, .inl f13)), (mm, .inl (cI, 16, .inl (kz_dg d14))), (mr, .inl (cI, 16, .inl (kz_dg d17))), (mn, .inl (cI, 32, .inl f18)), (ml, .inl (cI, 8, .inl gml))] := hdy.sub [0, 1, 6, 2, 3, 4, 9, 10, 7, 8, 11, 12, 5] (by decide) rfl
      refine lv_iconst (v := (nI (0))) hx hb zd_N_offer_41 (by decide) ?_
      refine lv_istore_n (lv' := [(1, .int (nI (0))), (0, .ref o)]) hx hb zd_N_offer_42 rfl hl (by decide) rfl (fun ls hl => ?_)
      have lp43 : ∀ (n43 k43 : Nat) (f20 : Nat → Int32) (H : Heap) (locs : List Loc) (ls : Array Slot), k43 ≤ 8 → 8 - k43 < n43 → kz_dy (dC, dI) vwCl A s.heap H locs [(o, .inr (4, [.int (nI (0)), .int sta, .ref mt, .ref mn, .ref ml, .ref mc, .ref mh, .ref mk, .ref mp, .ref mm, .ref mb, .ref mw, .ref mr, .ref mx, .ref me, .ref mP, .ref mQ, .ref ms, .int x1, .int (nI (sz_)), .ref mo, .ref mW, .ref mD, .ref mB, .ref mR, .ref mS])), (mp, .inl (cI, 16, .inl (kz_dg d2))), (mb, .inl (cI, 16, .inl (kz_dg d12))), (mP, .inl (cI, 16, .inl (kz_dg d4))), (mQ, .inl (cI, 16, .inl (kz_dg d5))), (ms, .inl (cI, 18, .inl (kz_dg d6))), (mx, .inl (cI, 32, .inl (kz_dg d15))), (me, .inl (cI, 18, .inl (kz_dg d16))), (mw, .inl (cI, 16, .inl f13)), (mm, .inl (cI, 16, .inl (kz_dg d14))), (mr, .inl (cI, 16, .inl (kz_dg d17))), (mn, .inl (cI, 32, .inl f18)), (ml, .inl (cI, 8, .inl f20))] → lv_has ls 2 [(1, .int (nI (k43))), (0, .ref o)] → W p l e { frames := 4, cells := 0, slots := 0, locals := 101 } s m ([.ref o] : List Value).toArray below meth c H locs 0 0 (MQ below (va_Qi (fun (r : Int32) (u : Int32 × Int32 × Int32 × (Nat → Nat) × (Nat → Nat) × (Nat → Nat) × (Nat → Nat) × (Nat → Nat) × (Nat → Nat) × (Nat → Nat) × (Nat → Int32) × (Nat → Nat) × (Nat → Nat) × (Nat → Int32) × (Nat → Int32)) => (∀ j, u.2.2.2.1 j < 65536) ∧ (∀ j, u.2.2.2.2.1 j < 65536) ∧ (∀ j, u.2.2.2.2.2.1 j < 65536) ∧ (∀ j, u.2.2.2.2.2.2.1 j < 65536) ∧ (∀ j, u.2.2.2.2.2.2.2.1 j < 4294967296) ∧ (∀ j, u.2.2.2.2.2.2.2.2.1 j < 65536) ∧ (∀ j, u.2.2.2.2.2.2.2.2.2.1 j < 65536) ∧ (∀ j, u.2.2.2.2.2.2.2.2.2.2.2.1 j < 65536) ∧ (∀ j, u.2.2.2.2.2.2.2.2.2.2.2.2.1 j < 65536) ∧ (kx_off (sta = 0) (kx_ok (kv_val (kv_fig gmt 0) 16) (kv_val (kv_fig gmt 8) 16) (kv_val (kv_fig gmt 16) 8) (kv_val (kv_fig gmt 24) 8)) r (u.2.1 = 0)) ∧ True) (kz_B (dC, dI) vwCl A (fun u : Int32 × Int32 × Int32 × (Nat → Nat) × (Nat → Nat) × (Nat → Nat) × (Nat → Nat) × (Nat → Nat) × (Nat → Nat) × (Nat → Nat) × (Nat → Int32) × (Nat → Nat) × (Nat → Nat) × (Nat → Int32) × (Nat → Int32) => [(o, .inr (4, [.int u.1, .int u.2.1, .ref mt, .ref mn, .ref ml, .ref mc, .ref mh, .ref mk, .ref mp, .ref mm, .ref mb, .ref mw, .ref mr, .ref mx, .ref me, .ref mP, .ref mQ, .ref ms, .int u.2.2.1, .int (nI (sz_)), .ref mo, .ref mW, .ref mD, .ref mB, .ref mR, .ref mS])), (mp, .inl (cI, 16, .inl (kz_dg u.2.2.2.1))), (mb, .inl (cI, 16, .inl (kz_dg u.2.2.2.2.1))), (mP, .inl (cI, 16, .inl (kz_dg u.2.2.2.2.2.1))), (mQ, .inl (cI, 16, .inl (kz_dg u.2.2.2.2.2.2.1))), (ms, .inl (cI, 18, .inl (kz_dg u.2.2.2.2.2.2.2.1))), (mx, .inl (cI, 32, .inl (kz_dg u.2.2.2.2.2.2.2.2.1))), (me, .inl (cI, 18, .inl (kz_dg u.2.2.2.2.2.2.2.2.2.1))), (mw, .inl (cI, 16, .inl u.2.2.2.2.2.2.2.2.2.2.1)), (mm, .inl (cI, 16, .inl (kz_dg u.2.2.2.2.2.2.2.2.2.2.2.1))), (mr, .inl (cI, 16, .inl (kz_dg u.2.2.2.2.2.2.2.2.2.2.2.2.1))), (mn, .inl (cI, 32, .inl u.2.2.2.2.2.2.2.2.2.2.2.2.2.1)), (ml, .inl (cI, 8, .inl u.2.2.2.2.2.2.2.2.2.2.2.2.2.2))])) A) ([.ref o] : List Value).toArray s 0 0 A) (F0 m 43 ls []) := by
        intro n43
        induction n43 with
        | zero => intro k43; intros; omega
        | succ n43 ih43 =>
          intro k43 f20 H locs ls hi43 hn43 hdy hl
          refine lv_iload_n hx hb zd_N_offer_43 rfl (lv_at hl 0 rfl) ?_
          refine lv_bipush (v := (nI (8))) hx hb zd_N_offer_44 (by decide) ?_
          refine lv_icmp_ge (tgt := 67) hx hb zd_N_offer_46 (by decide) (fun hc46 => ?_) (fun hc46 => ?_)
          · have hc46 : 8 ≤ k43 := (nI_leI (by omega) (by omega)).mp hc46
            refine lv_aload_n hx hb zd_N_offer_67 rfl (lv_at hl 1 rfl) ?_
            refine lv_iconst (v := (nI (1))) hx hb zd_N_offer_68 (by decide) ?_
            refine va_put (D := (dC, dI)) (ci := 4) (v := .int (nI (1))) (ty := .int) (C := zR_N) (T := zT_N) (N := 26) hx hb hts (fun w h => kz_c (zi_N w h)) zt_N zo_N zn_N hown hK hdy.1 hdy.2.1 hdy.2.2 0 rfl rfl 1 (by decide) (hts _ (kz_c mw_592)) (fun _ h9 => h9) rfl (by decide +kernel) rfl rfl (Nat.le_of_ble_eq_true rfl) zd_N_offer_69 (fun H locs hP hD hS => ?_)
            have hdy : kz_dy (dC, dI) vwCl A s.heap H locs [(o, .inr (4, [.int (nI (0)), .int (nI (1)), .ref mt, .ref mn, .ref ml, .ref mc, .ref mh, .ref mk, .ref mp, .ref mm, .ref mb, .ref mw, .ref mr, .ref mx, .ref me, .ref mP, .ref mQ, .ref ms, .int x1, .int (nI (sz_)), .ref mo, .ref mW, .ref mD, .ref mB, .ref mR, .ref mS])), (mp, .inl (cI, 16, .inl (kz_dg d2))), (mb, .inl (cI, 16, .inl (kz_dg d12))), (mP, .inl (cI, 16, .inl (kz_dg d4))), (mQ, .inl (cI, 16, .inl (kz_dg d5))), (ms, .inl (cI, 18, .inl (kz_dg d6))), (mx, .inl (cI, 32, .inl (kz_dg d15))), (me, .inl (cI, 18, .inl (kz_dg d16))), (mw, .inl (cI, 16, .inl f13)), (mm, .inl (cI, 16, .inl (kz_dg d14))), (mr, .inl (cI, 16, .inl (kz_dg d17))), (mn, .inl (cI, 32, .inl f18)), (ml, .inl (cI, 8, .inl f20))] := ⟨hP, hD, hS⟩
            refine lv_iconst (v := (nI (1))) hx hb zd_N_offer_72 (by decide) ?_
            exact kz_iret F ((nI (0)), (nI (1)), x1, d2, d12, d4, d5, d6, d15, d16, f13, d14, d17, f18, f20) hdy (⟨hd_d2, hd_d12, hd_d4, hd_d5, hd_d6, hd_d15, hd_d16, hd_d14, hd_d17, by exact Or.inr (Or.inr ⟨hc9, hok, rfl, show ¬ nI (1) = 0 by decide⟩), trivial⟩) zd_N_offer_73
          · have hc46 : ¬ 8 ≤ k43 := fun h9 => hc46 ((nI_leI (by omega) (by omega)).mpr h9)
            refine lv_aload_n hx hb zd_N_offer_49 rfl (lv_at hl 1 rfl) ?_
            refine va_get (D := (dC, dI)) (ci := 4) (v := .ref ml) (C := zR_N) (T := zT_N) (N := 26) hx hb hts (fun w h => kz_c (zi_N w h)) hown hK hdy.1 0 rfl rfl 4 (by decide) (hts _ (kz_c mw_595)) (fun _ h9 => h9) rfl zd_N_offer_50 ?_
            refine lv_iload_n hx hb zd_N_offer_53 rfl (lv_at hl 0 rfl) ?_
            refine lv_aload_n hx hb zd_N_offer_54 rfl (lv_at hl 1 rfl) ?_
            refine va_get (D := (dC, dI)) (ci := 4) (v := .ref mn) (C := zR_N) (T := zT_N) (N := 26) hx hb hts (fun w h => kz_c (zi_N w h)) hown hK hdy.1 0 rfl rfl 3 (by decide) (hts _ (kz_c mw_594)) (fun _ h9 => h9) rfl zd_N_offer_55 ?_
            refine lv_iload_n hx hb zd_N_offer_58 rfl (lv_at hl 0 rfl) ?_
            refine va_iald hx hb hK hdy.1 11 0 rfl rfl (vp_in_nI (by omega) (by omega)) zd_N_offer_59 ?_
            refine lv_topi (fun x21 h9 => ?_)
            obtain rfl : x21 = f18 k43 := h9.trans (by rw [nI_clamp (by omega)])
            refine va_iast hx hb hK hdy.1 hdy.2.1 hdy.2.2 12 0 rfl rfl (vp_in_nI (by omega) (by omega)) zd_N_offer_60 (fun H locs hP hD hS => ?_)
            rw [nI_clamp (by omega)] at hP hD
            obtain ⟨f22, ef22, hdy⟩ : ∃ f22 : Nat → Int32, f22 = upd f20 k43 ((f18 k43)) ∧ kz_dy (dC, dI) vwCl A s.heap H locs [(o, .inr (4, [.int (nI (0)), .int sta, .ref mt, .ref mn, .ref ml, .ref mc, .ref mh, .ref mk, .ref mp, .ref mm, .ref mb, .ref mw, .ref mr, .ref mx, .ref me, .ref mP, .ref mQ, .ref ms, .int x1, .int (nI (sz_)), .ref mo, .ref mW, .ref mD, .ref mB, .ref mR, .ref mS])), (mp, .inl (cI, 16, .inl (kz_dg d2))), (mb, .inl (cI, 16, .inl (kz_dg d12))), (mP, .inl (cI, 16, .inl (kz_dg d4))), (mQ, .inl (cI, 16, .inl (kz_dg d5))), (ms, .inl (cI, 18, .inl (kz_dg d6))), (mx, .inl (cI, 32, .inl (kz_dg d15))), (me, .inl (cI, 18, .inl (kz_dg d16))), (mw, .inl (cI, 16, .inl f13)), (mm, .inl (cI, 16, .inl (kz_dg d14))), (mr, .inl (cI, 16, .inl (kz_dg d17))), (mn, .inl (cI, 32, .inl f18)), (ml, .inl (cI, 8, .inl f22))] := ⟨_, rfl, hP, hD, hS⟩
            refine lv_iinc (v := (nI (k43 + 1))) (lv' := [(1, .int (nI (k43 + 1))), (0, .ref o)]) hx hb zd_N_offer_61 hl (k := 0) rfl (nI_1 _) (by decide) rfl (fun ls hl => ?_)
            refine lv_goto (tgt := 43) hx hb zd_N_offer_64 (by decide) ?_
            exact ih43 (k43 + 1) f22 _ _ _ (by omega) (by omega) hdy (lv_sub hl [0, 1] rfl)
      exact lp43 (8 - 0 + 1) 0 gml _ _ _ (by omega) (by omega) hdy (lv_sub hl [0, 1] rfl)
    · refine lv_bipush (v := (-10)) hx hb zd_N_offer_22 (by decide) ?_
      exact kz_iret F ((nI (0)), sta, x1, d2, d3, d4, d5, d6, d7, d8, gmw, gmm, gmr, gmn, gml) hdy (⟨hd_d2, hd_d3, hd_d4, hd_d5, hd_d6, hd_d7, hd_d8, hd_gmm, hd_gmr, by exact Or.inr (Or.inl ⟨hc9, (q10.resolve_left (fun h => absurd (h.1.symm.trans hc19) (by decide))).2, rfl, hc9⟩), trivial⟩) zd_N_offer_24
  · refine lv_bipush (v := (-11)) hx hb zd_N_offer_12 (by decide) ?_
    exact kz_iret F ((nI (0)), sta, hs, gmp, gmb, gmP, gmQ, gms, gmx, gme, gmw, gmm, gmr, gmn, gml) hdy (⟨hd_gmp, hd_gmb, hd_gmP, hd_gmQ, hd_gms, hd_gmx, hd_gme, hd_gmm, hd_gmr, by exact Or.inl ⟨hc9, rfl, hc9⟩, trivial⟩) zd_N_offer_14

