set_option maxHeartbeats 4000000 in
set_option maxRecDepth 100000 in
/-- KeyMeetingModel.isLess(I)Z -/
theorem c_F_isLess (l : Launch) (dC : Nat → ClassId) (dI : Nat → Nat → Nat) (cI cAA cB cL : ClassId) (o mt mn ml mc mh mk mp mm mb mw mr mx me mP mQ ms mo mW mD mB mR mS : Nat) (th : Int32) (sta : Int32) (hs : Int32) (sz_ : Nat) (gmm : Nat → Nat) (gme : Nat → Nat) (tp : Int32) (sz : Nat) (hd_gmm : ∀ j, gmm j < 65536) (hd_gme : ∀ j, gme j < 65536) : Met l zy_N_isLess zw_N_isLess { frames := 0, cells := 0, slots := 0, locals := 0 } (kz_Pc (dC, dI) vwCl [(cI, .int), (cAA, .array .int), (cB, .byte), (cL, .long)] [] [] [.ref o, .int tp] [] [(o, .inr (4, [.int th, .int sta, .ref mt, .ref mn, .ref ml, .ref mc, .ref mh, .ref mk, .ref mp, .ref mm, .ref mb, .ref mw, .ref mr, .ref mx, .ref me, .ref mP, .ref mQ, .ref ms, .int hs, .int (nI (sz_)), .ref mo, .ref mW, .ref mD, .ref mB, .ref mR, .ref mS])), (mm, .inl (cI, 16, .inl (kz_dg gmm))), (me, .inl (cI, 18, .inl (kz_dg gme)))] sz) (va_Qi (fun (r : Int32) (u : Unit) => (r = 0 ∨ r = 1) ∧ ((r = 1 ∧ kv_val gme 18 < kv_val (kv_m18 gmm) 18) ∨ (r = 0 ∧ kv_val (kv_m18 gmm) 18 ≤ kv_val gme 18)) ∧ True) (kz_B (dC, dI) vwCl (va_A [] sz) (fun u : Unit => [])) (va_A [] sz)) 0 0 (va_A [] sz) := by
  refine kz_met (y := zy_N_isLess) (ws := zw_N_isLess) (av := [.ref o, .int tp]) (sz := sz) (Qc := fun A => va_Qi (fun (r : Int32) (u : Unit) => (r = 0 ∨ r = 1) ∧ ((r = 1 ∧ kv_val gme 18 < kv_val (kv_m18 gmm) 18) ∨ (r = 0 ∧ kv_val (kv_m18 gmm) 18 ≤ kv_val gme 18)) ∧ True) (kz_B (dC, dI) vwCl A (fun u : Unit => [])) A) (cc := zc_N_isLess) (maxL := 4) (ret := some .boolean) (by decide) rfl (Nat.le_of_ble_eq_true rfl) ?_
  intro p e s m below meth c A ls F hA hdy hK hro hZ hN hl
  obtain ⟨hx, hb, hml, hr, hown, hlocks, hts, hnm⟩ := id F
  have hl : lv_has ls 4 [(0, .ref o), (1, .int tp)] := hl
  refine lv_bipush (v := (nI (17))) hx hb zd_N_isLess_0 (by decide) ?_
  refine lv_istore_n (lv' := [(2, .int (nI (17))), (0, .ref o), (1, .int tp)]) hx hb zd_N_isLess_2 rfl hl (by decide) rfl (fun ls hl => ?_)
  have lp3 : ∀ (k3 : Nat) (H : Heap) (locs : List Loc) (ls : Array Slot), k3 ≤ 18 → (∀ j, k3 ≤ j → j < 18 → gme j = kv_m18 gmm j) → kz_dy (dC, dI) vwCl A s.heap H locs [] → lv_has ls 4 [(2, .int (nI k3 - 1)), (0, .ref o), (1, .int tp)] → W p l e { frames := 0, cells := 0, slots := 0, locals := 0 } s m ([.ref o, .int tp] : List Value).toArray below meth c H locs 0 0 (MQ below (va_Qi (fun (r : Int32) (u : Unit) => (r = 0 ∨ r = 1) ∧ ((r = 1 ∧ kv_val gme 18 < kv_val (kv_m18 gmm) 18) ∨ (r = 0 ∧ kv_val (kv_m18 gmm) 18 ≤ kv_val gme 18)) ∧ True) (kz_B (dC, dI) vwCl A (fun u : Unit => [])) A) ([.ref o, .int tp] : List Value).toArray s 0 0 A) (F0 m 3 ls []) := by
    intro k3
    induction k3 with
    | zero =>
      intro H locs ls hi3 heq hdy hl
      refine lv_iload_n hx hb zd_N_isLess_3 rfl (lv_at hl 0 rfl) ?_
      refine lv_if_lt (tgt := 56) hx hb zd_N_isLess_4 (by decide) (fun hc4 => ?_) (fun hc4 => ?_)
      · refine lv_iconst (v := (nI (0))) hx hb zd_N_isLess_56 (by decide) ?_
        exact kz_zret F () hdy (by first | exact Or.inl rfl | exact Or.inr rfl | assumption) (⟨by first | exact Or.inl rfl | exact Or.inr rfl | assumption, by first | exact Or.inl ⟨rfl, kv_cmp hd_gme (k := k3) (by unfold kv_m18; first | (rw [if_pos (by omega)]; omega) | (rw [if_neg (by omega)]; omega)) 18 (by omega) (fun j a b => (heq j (by omega) b).symm)⟩ | exact Or.inr ⟨rfl, Nat.le_of_lt (kv_cmp (kv_m18_lt hd_gmm) (k := k3) (by unfold kv_m18; first | (rw [if_pos (by omega)]; omega) | (rw [if_neg (by omega)]; omega)) 18 (by omega) (fun j a b => heq j (by omega) b))⟩ | exact Or.inr ⟨rfl, Nat.le_of_eq (kv_ext 18 (fun j hj => (heq j (by omega) hj).symm))⟩, trivial⟩) zd_N_isLess_57
      · exact absurd (by decide) hc4
    | succ k3 ih3 =>
      intro H locs ls hi3 heq hdy hl
      rw [nI_pred] at hl
      refine lv_iload_n hx hb zd_N_isLess_3 rfl (lv_at hl 0 rfl) ?_
      refine lv_if_lt (tgt := 56) hx hb zd_N_isLess_4 (by decide) (fun hc4 => ?_) (fun hc4 => ?_)
      · exact absurd hc4 (nI_pos (by omega))
      · refine lv_iload_n hx hb zd_N_isLess_7 rfl (lv_at hl 0 rfl) ?_
        refine lv_bipush (v := (nI (16))) hx hb zd_N_isLess_8 (by decide) ?_
        refine lv_icmp_ge (tgt := 22) hx hb zd_N_isLess_10 (by decide) (fun hc10 => ?_) (fun hc10 => ?_)
        · have hc10 : 16 ≤ k3 := (nI_leI (by omega) (by omega)).mp hc10
          refine lv_iconst (v := (nI (0))) hx hb zd_N_isLess_22 (by decide) ?_
          refine lv_istore_n (lv' := [(3, .int (nI (0))), (2, .int (nI (k3))), (0, .ref o), (1, .int tp)]) hx hb zd_N_isLess_23 rfl hl (by decide) rfl (fun ls hl => ?_)
          refine lv_aload_n hx hb zd_N_isLess_24 rfl (lv_at hl 2 rfl) ?_
          refine va_get (D := (dC, dI)) (ci := 4) (v := .ref me) (C := zR_N) (T := zT_N) (N := 26) hx hb hts (fun w h => kz_c (zi_N w h)) hown hK (hro.ob hdy.2.2 (k := 0) rfl) 0 rfl rfl 14 (by decide) (hts _ (kz_c mw_605)) (fun _ h9 => h9) rfl zd_N_isLess_25 ?_
          refine lv_iload_n hx hb zd_N_isLess_28 rfl (lv_at hl 1 rfl) ?_
          refine kz_riald hx hb hK hro hdy.2.2 2 0 rfl rfl (vp_in_nI (by omega) (by omega)) zd_N_isLess_29 ?_
          refine lv_topi (fun x1 h9 => ?_)
          obtain rfl : x1 = nI (gme k3) := h9.trans (kz_dgl gme (by omega))
          have hbx1 := hd_gme k3
          refine lv_iload_n hx hb zd_N_isLess_30 rfl (lv_at hl 0 rfl) ?_
          refine lv_icmp_eq (tgt := 50) hx hb zd_N_isLess_31 (by decide) (fun hc31 => ?_) (fun hc31 => ?_)
          · have hc31 : (gme k3) = 0 := (nI_eq (by omega) (by omega)).mp hc31
            refine lv_iinc (v := (nI (k3) - 1)) (lv' := [(2, .int (nI (k3) - 1)), (3, .int (nI (0))), (0, .ref o), (1, .int tp)]) hx hb zd_N_isLess_50 hl (k := 1) rfl (kz_m1 _) (by decide) rfl (fun ls hl => ?_)
            refine lv_goto (tgt := 3) hx hb zd_N_isLess_53 (by decide) ?_
            have hi9_heq2 : ∀ j, k3 ≤ j → j < 18 → gme j = kv_m18 gmm j := by intro j a b; rcases Nat.lt_or_eq_of_le a with h8 | h8; exact heq j h8 b; subst h8; unfold kv_m18; first | (rw [if_pos (by omega)]; omega) | (rw [if_neg (by omega)]; omega)
            exact ih3 _ _ _ (by omega) hi9_heq2 hdy (lv_sub hl [0, 2, 3] rfl)
          · have hc31 : ¬ (gme k3) = 0 := fun h9 => hc31 ((nI_eq (by omega) (by omega)).mpr h9)
            refine lv_aload_n hx hb zd_N_isLess_34 rfl (lv_at hl 2 rfl) ?_
            refine va_get (D := (dC, dI)) (ci := 4) (v := .ref me) (C := zR_N) (T := zT_N) (N := 26) hx hb hts (fun w h => kz_c (zi_N w h)) hown hK (hro.ob hdy.2.2 (k := 0) rfl) 0 rfl rfl 14 (by decide) (hts _ (kz_c mw_605)) (fun _ h9 => h9) rfl zd_N_isLess_35 ?_
            refine lv_iload_n hx hb zd_N_isLess_38 rfl (lv_at hl 1 rfl) ?_
            refine kz_riald hx hb hK hro hdy.2.2 2 0 rfl rfl (vp_in_nI (by omega) (by omega)) zd_N_isLess_39 ?_
            refine lv_topi (fun x3 h9 => ?_)
            obtain rfl : x3 = nI (gme k3) := h9.trans (kz_dgl gme (by omega))
            have hbx3 := hd_gme k3
            refine lv_iload_n hx hb zd_N_isLess_40 rfl (lv_at hl 0 rfl) ?_
            refine lv_icmp_ge (tgt := 48) hx hb zd_N_isLess_41 (by decide) (fun hc41 => ?_) (fun hc41 => ?_)
            · have hc41 : 0 ≤ (gme k3) := (nI_leI (by omega) (by omega)).mp hc41
              refine lv_iconst (v := (nI (0))) hx hb zd_N_isLess_48 (by decide) ?_
              exact kz_zret F () hdy (by first | exact Or.inl rfl | exact Or.inr rfl | assumption) (⟨by first | exact Or.inl rfl | exact Or.inr rfl | assumption, by first | exact Or.inl ⟨rfl, kv_cmp hd_gme (k := k3) (by unfold kv_m18; first | (rw [if_pos (by omega)]; omega) | (rw [if_neg (by omega)]; omega)) 18 (by omega) (fun j a b => (heq j (by omega) b).symm)⟩ | exact Or.inr ⟨rfl, Nat.le_of_lt (kv_cmp (kv_m18_lt hd_gmm) (k := k3) (by unfold kv_m18; first | (rw [if_pos (by omega)]; omega) | (rw [if_neg (by omega)]; omega)) 18 (by omega) (fun j a b => heq j (by omega) b))⟩ | exact Or.inr ⟨rfl, Nat.le_of_eq (kv_ext 18 (fun j hj => (heq j (by omega) hj).symm))⟩, trivial⟩) zd_N_isLess_49
            · have hc41 : ¬ 0 ≤ (gme k3) := fun h9 => hc41 ((nI_leI (by omega) (by omega)).mpr h9)
              refine lv_iconst (v := (nI (1))) hx hb zd_N_isLess_44 (by decide) ?_
              refine lv_goto (tgt := 49) hx hb zd_N_isLess_45 (by decide) ?_
              exact kz_zret F () hdy (by first | exact Or.inl rfl | exact Or.inr rfl | assumption) (⟨by first | exact Or.inl rfl | exact Or.inr rfl | assumption, by first | exact Or.inl ⟨rfl, kv_cmp hd_gme (k := k3) (by unfold kv_m18; first | (rw [if_pos (by omega)]; omega) | (rw [if_neg (by omega)]; omega)) 18 (by omega) (fun j a b => (heq j (by omega) b).symm)⟩ | exact Or.inr ⟨rfl, Nat.le_of_lt (kv_cmp (kv_m18_lt hd_gmm) (k := k3) (by unfold kv_m18; first | (rw [if_pos (by omega)]; omega) | (rw [if_neg (by omega)]; omega)) 18 (by omega) (fun j a b => heq j (by omega) b))⟩ | exact Or.inr ⟨rfl, Nat.le_of_eq (kv_ext 18 (fun j hj => (heq j (by omega) hj).symm))⟩, trivial⟩) zd_N_isLess_49
        · have hc10 : ¬ 16 ≤ k3 := fun h9 => hc10 ((nI_leI (by omega) (by omega)).mpr h9)
          refine lv_aload_n hx hb zd_N_isLess_13 rfl (lv_at hl 1 rfl) ?_
          refine va_get (D := (dC, dI)) (ci := 4) (v := .ref mm) (C := zR_N) (T := zT_N) (N := 26) hx hb hts (fun w h => kz_c (zi_N w h)) hown hK (hro.ob hdy.2.2 (k := 0) rfl) 0 rfl rfl 9 (by decide) (hts _ (kz_c mw_600)) (fun _ h9 => h9) rfl zd_N_isLess_14 ?_
          refine lv_iload_n hx hb zd_N_isLess_17 rfl (lv_at hl 0 rfl) ?_
          refine kz_riald hx hb hK hro hdy.2.2 1 0 rfl rfl (vp_in_nI (by omega) (by omega)) zd_N_isLess_18 ?_
          refine lv_topi (fun x4 h9 => ?_)
          obtain rfl : x4 = nI (gmm k3) := h9.trans (kz_dgl gmm (by omega))
          have hbx4 := hd_gmm k3
          refine lv_goto (tgt := 23) hx hb zd_N_isLess_19 (by decide) ?_
          refine lv_istore_n (lv' := [(3, .int (nI (gmm k3))), (2, .int (nI (k3))), (0, .ref o), (1, .int tp)]) hx hb zd_N_isLess_23 rfl hl (by decide) rfl (fun ls hl => ?_)
          refine lv_aload_n hx hb zd_N_isLess_24 rfl (lv_at hl 2 rfl) ?_
          refine va_get (D := (dC, dI)) (ci := 4) (v := .ref me) (C := zR_N) (T := zT_N) (N := 26) hx hb hts (fun w h => kz_c (zi_N w h)) hown hK (hro.ob hdy.2.2 (k := 0) rfl) 0 rfl rfl 14 (by decide) (hts _ (kz_c mw_605)) (fun _ h9 => h9) rfl zd_N_isLess_25 ?_
          refine lv_iload_n hx hb zd_N_isLess_28 rfl (lv_at hl 1 rfl) ?_
          refine kz_riald hx hb hK hro hdy.2.2 2 0 rfl rfl (vp_in_nI (by omega) (by omega)) zd_N_isLess_29 ?_
          refine lv_topi (fun x5 h9 => ?_)
          obtain rfl : x5 = nI (gme k3) := h9.trans (kz_dgl gme (by omega))
          have hbx5 := hd_gme k3
          refine lv_iload_n hx hb zd_N_isLess_30 rfl (lv_at hl 0 rfl) ?_
          refine lv_icmp_eq (tgt := 50) hx hb zd_N_isLess_31 (by decide) (fun hc31 => ?_) (fun hc31 => ?_)
          · have hc31 : (gme k3) = (gmm k3) := (nI_eq (by omega) (by omega)).mp hc31
            refine lv_iinc (v := (nI (k3) - 1)) (lv' := [(2, .int (nI (k3) - 1)), (3, .int (nI (gmm k3))), (0, .ref o), (1, .int tp)]) hx hb zd_N_isLess_50 hl (k := 1) rfl (kz_m1 _) (by decide) rfl (fun ls hl => ?_)
            refine lv_goto (tgt := 3) hx hb zd_N_isLess_53 (by decide) ?_
            have hi9_heq6 : ∀ j, k3 ≤ j → j < 18 → gme j = kv_m18 gmm j := by intro j a b; rcases Nat.lt_or_eq_of_le a with h8 | h8; exact heq j h8 b; subst h8; unfold kv_m18; first | (rw [if_pos (by omega)]; omega) | (rw [if_neg (by omega)]; omega)
            exact ih3 _ _ _ (by omega) hi9_heq6 hdy (lv_sub hl [0, 2, 3] rfl)
          · have hc31 : ¬ (gme k3) = (gmm k3) := fun h9 => hc31 ((nI_eq (by omega) (by omega)).mpr h9)
            refine lv_aload_n hx hb zd_N_isLess_34 rfl (lv_at hl 2 rfl) ?_
            refine va_get (D := (dC, dI)) (ci := 4) (v := .ref me) (C := zR_N) (T := zT_N) (N := 26) hx hb hts (fun w h => kz_c (zi_N w h)) hown hK (hro.ob hdy.2.2 (k := 0) rfl) 0 rfl rfl 14 (by decide) (hts _ (kz_c mw_605)) (fun _ h9 => h9) rfl zd_N_isLess_35 ?_
            refine lv_iload_n hx hb zd_N_isLess_38 rfl (lv_at hl 1 rfl) ?_
            refine kz_riald hx hb hK hro hdy.2.2 2 0 rfl rfl (vp_in_nI (by omega) (by omega)) zd_N_isLess_39 ?_
            refine lv_topi (fun x7 h9 => ?_)
            obtain rfl : x7 = nI (gme k3) := h9.trans (kz_dgl gme (by omega))
            have hbx7 := hd_gme k3
            refine lv_iload_n hx hb zd_N_isLess_40 rfl (lv_at hl 0 rfl) ?_
            refine lv_icmp_ge (tgt := 48) hx hb zd_N_isLess_41 (by decide) (fun hc41 => ?_) (fun hc41 => ?_)
            · have hc41 : (gmm k3) ≤ (gme k3) := (nI_leI (by omega) (by omega)).mp hc41
              refine lv_iconst (v := (nI (0))) hx hb zd_N_isLess_48 (by decide) ?_
              exact kz_zret F () hdy (by first | exact Or.inl rfl | exact Or.inr rfl | assumption) (⟨by first | exact Or.inl rfl | exact Or.inr rfl | assumption, by first | exact Or.inl ⟨rfl, kv_cmp hd_gme (k := k3) (by unfold kv_m18; first | (rw [if_pos (by omega)]; omega) | (rw [if_neg (by omega)]; omega)) 18 (by omega) (fun j a b => (heq j (by omega) b).symm)⟩ | exact Or.inr ⟨rfl, Nat.le_of_lt (kv_cmp (kv_m18_lt hd_gmm) (k := k3) (by unfold kv_m18; first | (rw [if_pos (by omega)]; omega) | (rw [if_neg (by omega)]; omega)) 18 (by omega) (fun j a b => heq j (by omega) b))⟩ | exact Or.inr ⟨rfl, Nat.le_of_eq (kv_ext 18 (fun j hj => (heq j (by omega) hj).symm))⟩, trivial⟩) zd_N_isLess_49
            · have hc41 : ¬ (gmm k3) ≤ (gme k3) := fun h9 => hc41 ((nI_leI (by omega) (by omega)).mpr h9)
              refine lv_iconst (v := (nI (1))) hx hb zd_N_isLess_44 (by decide) ?_
              refine lv_goto (tgt := 49) hx hb zd_N_isLess_45 (by decide) ?_
              exact kz_zret F () hdy (by first | exact Or.inl rfl | exact Or.inr rfl | assumption) (⟨by first | exact Or.inl rfl | exact Or.inr rfl | assumption, by first | exact Or.inl ⟨rfl, kv_cmp hd_gme (k := k3) (by unfold kv_m18; first | (rw [if_pos (by omega)]; omega) | (rw [if_neg (by omega)]; omega)) 18 (by omega) (fun j a b => (heq j (by omega) b).symm)⟩ | exact Or.inr ⟨rfl, Nat.le_of_lt (kv_cmp (kv_m18_lt hd_gmm) (k := k3) (by unfold kv_m18; first | (rw [if_pos (by omega)]; omega) | (rw [if_neg (by omega)]; omega)) 18 (by omega) (fun j a b => heq j (by omega) b))⟩ | exact Or.inr ⟨rfl, Nat.le_of_eq (kv_ext 18 (fun j hj => (heq j (by omega) hj).symm))⟩, trivial⟩) zd_N_isLess_49
  have hi9_heq8 : ∀ j, 18 ≤ j → j < 18 → gme j = kv_m18 gmm j := by intro j a b; omega
  exact lp3 18 _ _ _ (by omega) hi9_heq8 hdy (lv_sub hl [0, 1, 2] rfl)

set_option maxHeartbeats 4000000 in
set_option maxRecDepth 100000 in
/-- KeyMeetingModel.remain([I)V -/
theorem c_F_remain (l : Launch) (dC : Nat → ClassId) (dI : Nat → Nat → Nat) (cI cAA cB cL : ClassId) (me t o mt mn ml mc mh mk mp mm mb mw mr mx mP mQ ms mo mW mD mB mR mS : Nat) (gme : Nat → Nat) (gt : Nat → Nat) (th : Int32) (sta : Int32) (hs : Int32) (sz_ : Nat) (gmm : Nat → Nat) (gmx : Nat → Nat) (sz : Nat) (hd_gme : ∀ j, gme j < 65536) (hd_gt : ∀ j, gt j < 65536) (hd_gmm : ∀ j, gmm j < 65536) (hd_gmx : ∀ j, gmx j < 65536) (hnz : kv_some gmm 0 16) : Met l zy_N_remain zw_N_remain { frames := 1, cells := 0, slots := 0, locals := 23 } (kz_Pc (dC, dI) vwCl [(cI, .int), (cAA, .array .int), (cB, .byte), (cL, .long)] [] [] [.ref o, .ref t] [(me, .inl (cI, 18, .inl (kz_dg gme))), (t, .inl (cI, 16, .inl (kz_dg gt)))] [(o, .inr (4, [.int th, .int sta, .ref mt, .ref mn, .ref ml, .ref mc, .ref mh, .ref mk, .ref mp, .ref mm, .ref mb, .ref mw, .ref mr, .ref mx, .ref me, .ref mP, .ref mQ, .ref ms, .int hs, .int (nI (sz_)), .ref mo, .ref mW, .ref mD, .ref mB, .ref mR, .ref mS])), (mm, .inl (cI, 16, .inl (kz_dg gmm))), (mx, .inl (cI, 32, .inl (kz_dg gmx)))] sz) (va_Qv (fun (u : (Nat → Nat) × (Nat → Nat)) => (∀ j, u.1 j < 65536) ∧ (∀ j, u.2 j < 65536) ∧ (kv_val u.2 16 = kv_val gmx 32 % kv_val gmm 16) ∧ True) (kz_B (dC, dI) vwCl (va_A [(me, .inl (cI, 18, .inl (kz_dg gme))), (t, .inl (cI, 16, .inl (kz_dg gt)))] sz) (fun u : (Nat → Nat) × (Nat → Nat) => [(me, .inl (cI, 18, .inl (kz_dg u.1))), (t, .inl (cI, 16, .inl (kz_dg u.2)))])) (va_A [(me, .inl (cI, 18, .inl (kz_dg gme))), (t, .inl (cI, 16, .inl (kz_dg gt)))] sz)) 0 0 (va_A [(me, .inl (cI, 18, .inl (kz_dg gme))), (t, .inl (cI, 16, .inl (kz_dg gt)))] sz) := by
  refine kz_met (y := zy_N_remain) (ws := zw_N_remain) (av := [.ref o, .ref t]) (sz := sz) (Qc := fun A => va_Qv (fun (u : (Nat → Nat) × (Nat → Nat)) => (∀ j, u.1 j < 65536) ∧ (∀ j, u.2 j < 65536) ∧ (kv_val u.2 16 = kv_val gmx 32 % kv_val gmm 16) ∧ True) (kz_B (dC, dI) vwCl A (fun u : (Nat → Nat) × (Nat → Nat) => [(me, .inl (cI, 18, .inl (kz_dg u.1))), (t, .inl (cI, 16, .inl (kz_dg u.2)))])) A) (cc := zc_N_remain) (maxL := 13) (ret := none) (by decide) rfl (Nat.le_of_ble_eq_true rfl) ?_
  intro p e s m below meth c A ls F hA hdy hK hro hZ hN hl
  obtain ⟨hx, hb, hml, hr, hown, hlocks, hts, hnm⟩ := id F
  have hl : lv_has ls 13 [(0, .ref o), (1, .ref t)] := hl
  have hmv : 0 < kv_val (kv_m18 gmm) 18 := by rw [kv_m18_val]; exact kv_some_val hnz
  have hMv : 0 < kv_val gmm 16 := kv_some_val hnz
  have hMl := kv_lt hd_gmm 16
  have hm18 := kv_m18_val gmm
  refine lv_bipush (v := (nI (15))) hx hb zd_N_remain_0 (by decide) ?_
  refine lv_istore_n (lv' := [(2, .int (nI (15))), (0, .ref o), (1, .ref t)]) hx hb zd_N_remain_2 rfl hl (by decide) rfl (fun ls hl => ?_)
  have lp3 : ∀ (n3 k3 : Nat) (H : Heap) (locs : List Loc) (ls : Array Slot), k3 ≤ 15 → k3 < n3 → (kv_some gmm 0 (k3 + 1)) → (∀ j, k3 < j → j < 16 → gmm j = 0) → kz_dy (dC, dI) vwCl A s.heap H locs [(me, .inl (cI, 18, .inl (kz_dg gme))), (t, .inl (cI, 16, .inl (kz_dg gt)))] → lv_has ls 13 [(2, .int (nI (k3))), (0, .ref o), (1, .ref t)] → W p l e { frames := 1, cells := 0, slots := 0, locals := 23 } s m ([.ref o, .ref t] : List Value).toArray below meth c H locs 0 0 (MQ below (va_Qv (fun (u : (Nat → Nat) × (Nat → Nat)) => (∀ j, u.1 j < 65536) ∧ (∀ j, u.2 j < 65536) ∧ (kv_val u.2 16 = kv_val gmx 32 % kv_val gmm 16) ∧ True) (kz_B (dC, dI) vwCl A (fun u : (Nat → Nat) × (Nat → Nat) => [(me, .inl (cI, 18, .inl (kz_dg u.1))), (t, .inl (cI, 16, .inl (kz_dg u.2)))])) A) ([.ref o, .ref t] : List Value).toArray s 0 0 A) (F0 m 3 ls []) := by
    intro n3
    induction n3 with
    | zero => intro k3 H locs ls hi3 hn3; exact absurd hn3 (Nat.not_lt_zero _)
    | succ n3 ih3 =>
      intro k3 H locs ls hi3 hn3 hsm htz hdy hl
      refine lv_aload_n hx hb zd_N_remain_3 rfl (lv_at hl 1 rfl) ?_
      refine va_get (D := (dC, dI)) (ci := 4) (v := .ref mm) (C := zR_N) (T := zT_N) (N := 26) hx hb hts (fun w h => kz_c (zi_N w h)) hown hK (hro.ob hdy.2.2 (k := 0) rfl) 0 rfl rfl 9 (by decide) (hts _ (kz_c mw_600)) (fun _ h9 => h9) rfl zd_N_remain_4 ?_
      refine lv_iload_n hx hb zd_N_remain_7 rfl (lv_at hl 0 rfl) ?_
      refine kz_riald hx hb hK hro hdy.2.2 1 0 rfl rfl (vp_in_nI (by omega) (by omega)) zd_N_remain_8 ?_
      refine lv_topi (fun x1 h9 => ?_)
      obtain rfl : x1 = nI (gmm k3) := h9.trans (kz_dgl gmm (by omega))
      have hbx1 := hd_gmm k3
      refine lv_if_ne (tgt := 18) hx hb zd_N_remain_9 (by decide) (fun hc9 => ?_) (fun hc9 => ?_)
      · have hc9 : ¬ (gmm k3) = 0 := fun h9 => hc9 (by have h8 := (nI_eq (by omega) (by omega)).mpr h9; rw [nI_0] at h8; exact h8)
        refine lv_ldc2 (v := (65536)) hx hb hown (hts _ (kz_c mw_709)) zd_N_remain_18 ?_
        refine lv_topl (fun yl2 h9 => ?_)
        obtain rfl : yl2 = kz_lz (65536) := h9.trans (kz_lz_c65536)
        refine lv_aload_n hx hb zd_N_remain_21 rfl (lv_at hl 1 rfl) ?_
        refine va_get (D := (dC, dI)) (ci := 4) (v := .ref mm) (C := zR_N) (T := zT_N) (N := 26) hx hb hts (fun w h => kz_c (zi_N w h)) hown hK (hro.ob hdy.2.2 (k := 0) rfl) 0 rfl rfl 9 (by decide) (hts _ (kz_c mw_600)) (fun _ h9 => h9) rfl zd_N_remain_22 ?_
        refine lv_iload_n hx hb zd_N_remain_25 rfl (lv_at hl 0 rfl) ?_
        refine kz_riald hx hb hK hro hdy.2.2 1 0 rfl rfl (vp_in_nI (by omega) (by omega)) zd_N_remain_26 ?_
        refine lv_topi (fun x3 h9 => ?_)
        obtain rfl : x3 = nI (gmm k3) := h9.trans (kz_dgl gmm (by omega))
        have hbx3 := hd_gmm k3
        refine lv_i2l hx hb zd_N_remain_27 (kz_lz_i (n := gmm k3) (by omega)) ?_
        refine lv_lmul hx hb zd_N_remain_28 ?_
        refine lv_topl (fun yl4 h9 => ?_)
        obtain rfl : yl4 = kz_lz (65536 * (((gmm k3 : Nat) : Int))) := h9.trans (kz_lz_mul _ _)
        refine lv_iload_n hx hb zd_N_remain_29 rfl (lv_at hl 0 rfl) ?_
        refine lv_if_le (tgt := 44) hx hb zd_N_remain_30 (by decide) (fun hc30 => ?_) (fun hc30 => ?_)
        · have hc30 : k3 ≤ 0 := (nI_leI (by omega) (by omega)).mp (by rw [nI_0]; exact hc30)
          refine lv_iconst (v := (nI (0))) hx hb zd_N_remain_44 (by decide) ?_
          refine lv_i2l hx hb zd_N_remain_45 (kz_lz_i (n := 0) (by omega)) ?_
          refine lv_ladd hx hb zd_N_remain_46 ?_
          refine lv_topl (fun yl5 h9 => ?_)
          obtain rfl : yl5 = kz_lz ((65536 * (((gmm k3 : Nat) : Int))) + (((0 : Nat) : Int))) := h9.trans (kz_lz_add _ _)
          refine lv_lconst (v := 1) hx hb zd_N_remain_47 (by decide) ?_
          refine lv_topl (fun yl6 h9 => ?_)
          obtain rfl : yl6 = kz_lz (1) := h9.trans (kz_lz_c1)
          refine lv_ladd hx hb zd_N_remain_48 ?_
          refine lv_topl (fun yl7 h9 => ?_)
          obtain rfl : yl7 = kz_lz (((65536 * (((gmm k3 : Nat) : Int))) + (((0 : Nat) : Int))) + 1) := h9.trans (kz_lz_add _ _)
          refine lv_topl (fun yl9 h9 => ?_)
          obtain ⟨z8, ez8, rfl⟩ : ∃ z : Int, z = ((65536 * (((gmm k3 : Nat) : Int))) + (((0 : Nat) : Int))) + 1 ∧ yl9 = kz_lz z := ⟨_, rfl, h9⟩
          refine lv_lstore_n (lv' := [(3, .long (kz_lz (z8))), (2, .int (nI (k3))), (0, .ref o), (1, .ref t)]) hx hb zd_N_remain_49 rfl hl (by decide) rfl (fun ls hl => ?_)
          refine lv_iconst (v := (nI (0))) hx hb zd_N_remain_50 (by decide) ?_
          refine lv_istore (lv' := [(5, .int (nI (0))), (3, .long (kz_lz (z8))), (2, .int (nI (k3))), (0, .ref o), (1, .ref t)]) hx hb zd_N_remain_51 hl (by decide) rfl (fun ls hl => ?_)
          have lp53 : ∀ (n53 k53 : Nat) (d10 : Nat → Nat) (H : Heap) (locs : List Loc) (ls : Array Slot), k53 ≤ 18 → 18 - k53 < n53 → (∀ j, d10 j < 65536) → (∀ j, j < k53 → d10 j = 0) → kz_dy (dC, dI) vwCl A s.heap H locs [(me, .inl (cI, 18, .inl (kz_dg d10))), (t, .inl (cI, 16, .inl (kz_dg gt)))] → lv_has ls 13 [(5, .int (nI (k53))), (3, .long (kz_lz (z8))), (2, .int (nI (k3))), (0, .ref o), (1, .ref t)] → W p l e { frames := 1, cells := 0, slots := 0, locals := 23 } s m ([.ref o, .ref t] : List Value).toArray below meth c H locs 0 0 (MQ below (va_Qv (fun (u : (Nat → Nat) × (Nat → Nat)) => (∀ j, u.1 j < 65536) ∧ (∀ j, u.2 j < 65536) ∧ (kv_val u.2 16 = kv_val gmx 32 % kv_val gmm 16) ∧ True) (kz_B (dC, dI) vwCl A (fun u : (Nat → Nat) × (Nat → Nat) => [(me, .inl (cI, 18, .inl (kz_dg u.1))), (t, .inl (cI, 16, .inl (kz_dg u.2)))])) A) ([.ref o, .ref t] : List Value).toArray s 0 0 A) (F0 m 53 ls []) := by
            intro n53
            induction n53 with
            | zero => intro k53; intros; omega
            | succ n53 ih53 =>
              intro k53 d10 H locs ls hi53 hn53 hd_d10 hz0 hdy hl
              refine lv_iload hx hb zd_N_remain_53 (lv_at hl 0 rfl) ?_
              refine lv_bipush (v := (nI (18))) hx hb zd_N_remain_55 (by decide) ?_
              refine lv_icmp_ge (tgt := 74) hx hb zd_N_remain_57 (by decide) (fun hc57 => ?_) (fun hc57 => ?_)
              · have hc57 : 18 ≤ k53 := (nI_leI (by omega) (by omega)).mp hc57
                refine lv_bipush (v := (nI (31))) hx hb zd_N_remain_74 (by decide) ?_
                refine lv_istore (lv' := [(5, .int (nI (31))), (3, .long (kz_lz (z8))), (2, .int (nI (k3))), (0, .ref o), (1, .ref t)]) hx hb zd_N_remain_76 hl (by decide) rfl (fun ls hl => ?_)
                have lp78 : ∀ (n78 k78 : Nat) (d11 : Nat → Nat) (H : Heap) (locs : List Loc) (ls : Array Slot), k78 ≤ 32 → k78 < n78 → (∀ j, d11 j < 65536) → (kv_val d11 18 = kv_hiN 32 gmx (k78) % kv_val gmm 16) → kz_dy (dC, dI) vwCl A s.heap H locs [(me, .inl (cI, 18, .inl (kz_dg d11))), (t, .inl (cI, 16, .inl (kz_dg gt)))] → lv_has ls 13 [(5, .int (nI (k78) - 1)), (3, .long (kz_lz (z8))), (2, .int (nI (k3))), (0, .ref o), (1, .ref t)] → W p l e { frames := 1, cells := 0, slots := 0, locals := 23 } s m ([.ref o, .ref t] : List Value).toArray below meth c H locs 0 0 (MQ below (va_Qv (fun (u : (Nat → Nat) × (Nat → Nat)) => (∀ j, u.1 j < 65536) ∧ (∀ j, u.2 j < 65536) ∧ (kv_val u.2 16 = kv_val gmx 32 % kv_val gmm 16) ∧ True) (kz_B (dC, dI) vwCl A (fun u : (Nat → Nat) × (Nat → Nat) => [(me, .inl (cI, 18, .inl (kz_dg u.1))), (t, .inl (cI, 16, .inl (kz_dg u.2)))])) A) ([.ref o, .ref t] : List Value).toArray s 0 0 A) (F0 m 78 ls []) := by
                  intro n78
                  induction n78 with
                  | zero => intro k78 d11 H locs ls hi78 hn78; exact absurd hn78 (Nat.not_lt_zero _)
                  | succ n78 ih78 =>
                    intro k78 d11 H locs ls hi78 hn78 hd_d11 hR hdy hl
                    refine lv_iload hx hb zd_N_remain_78 (lv_at hl 0 rfl) ?_
                    refine lv_if_lt (tgt := 286) hx hb zd_N_remain_80 (by decide) (fun hc80 => ?_) (fun hc80 => ?_)
                    · have hc80 : k78 = 0 := (kz_neg (by omega)).mp hc80
                      rw [hc80] at hR
                      refine lv_iconst (v := (nI (0))) hx hb zd_N_remain_286 (by decide) ?_
                      refine lv_istore (lv' := [(5, .int (nI (0))), (3, .long (kz_lz (z8))), (2, .int (nI (k3))), (0, .ref o), (1, .ref t)]) hx hb zd_N_remain_287 hl (by decide) rfl (fun ls hl => ?_)
                      have lp289 : ∀ (n289 k289 : Nat) (d12 : Nat → Nat) (H : Heap) (locs : List Loc) (ls : Array Slot), k289 ≤ 16 → 16 - k289 < n289 → (∀ j, d12 j < 65536) → (∀ j, j < k289 → d12 j = d11 j) → kz_dy (dC, dI) vwCl A s.heap H locs [(me, .inl (cI, 18, .inl (kz_dg d11))), (t, .inl (cI, 16, .inl (kz_dg d12)))] → lv_has ls 13 [(5, .int (nI (k289))), (3, .long (kz_lz (z8))), (2, .int (nI (k3))), (0, .ref o), (1, .ref t)] → W p l e { frames := 1, cells := 0, slots := 0, locals := 23 } s m ([.ref o, .ref t] : List Value).toArray below meth c H locs 0 0 (MQ below (va_Qv (fun (u : (Nat → Nat) × (Nat → Nat)) => (∀ j, u.1 j < 65536) ∧ (∀ j, u.2 j < 65536) ∧ (kv_val u.2 16 = kv_val gmx 32 % kv_val gmm 16) ∧ True) (kz_B (dC, dI) vwCl A (fun u : (Nat → Nat) × (Nat → Nat) => [(me, .inl (cI, 18, .inl (kz_dg u.1))), (t, .inl (cI, 16, .inl (kz_dg u.2)))])) A) ([.ref o, .ref t] : List Value).toArray s 0 0 A) (F0 m 289 ls []) := by
                        intro n289
                        induction n289 with
                        | zero => intro k289; intros; omega
                        | succ n289 ih289 =>
                          intro k289 d12 H locs ls hi289 hn289 hd_d12 hcp hdy hl
                          refine lv_iload hx hb zd_N_remain_289 (lv_at hl 0 rfl) ?_
                          refine lv_bipush (v := (nI (16))) hx hb zd_N_remain_291 (by decide) ?_
                          refine lv_icmp_ge (tgt := 313) hx hb zd_N_remain_293 (by decide) (fun hc293 => ?_) (fun hc293 => ?_)
                          · have hc293 : 16 ≤ k289 := (nI_leI (by omega) (by omega)).mp hc293
                            exact kz_vret F (d11, d12) hdy (⟨hd_d11, hd_d12, by exact kv_remEnd hMv hMl hR (fun j hj => hcp j (by omega)), trivial⟩) zd_N_remain_313
                          · have hc293 : ¬ 16 ≤ k289 := fun h9 => hc293 ((nI_leI (by omega) (by omega)).mpr h9)
                            refine lv_aload_n hx hb zd_N_remain_296 rfl (lv_at hl 4 rfl) ?_
                            refine lv_iload hx hb zd_N_remain_297 (lv_at hl 0 rfl) ?_
                            refine lv_aload_n hx hb zd_N_remain_299 rfl (lv_at hl 3 rfl) ?_
                            refine va_get (D := (dC, dI)) (ci := 4) (v := .ref me) (C := zR_N) (T := zT_N) (N := 26) hx hb hts (fun w h => kz_c (zi_N w h)) hown hK (hro.ob hdy.2.2 (k := 0) rfl) 0 rfl rfl 14 (by decide) (hts _ (kz_c mw_605)) (fun _ h9 => h9) rfl zd_N_remain_300 ?_
                            refine lv_iload hx hb zd_N_remain_303 (lv_at hl 0 rfl) ?_
                            refine va_iald hx hb hK hdy.1 0 0 rfl rfl (vp_in_nI (by omega) (by omega)) zd_N_remain_305 ?_
                            refine lv_topi (fun x13 h9 => ?_)
                            obtain rfl : x13 = nI (d11 k289) := h9.trans (kz_dgl d11 (by omega))
                            have hbx13 := hd_d11 k289
                            refine va_iast hx hb hK hdy.1 hdy.2.1 hdy.2.2 1 0 rfl rfl (vp_in_nI (by omega) (by omega)) zd_N_remain_306 (fun H locs hP hD hS => ?_)
                            have h9 := kz_dgu d12 (k := k289) (d11 k289) (by omega)
                            rw [h9] at hP hD
                            obtain ⟨f14, ef14, hd_f14, hdy⟩ : ∃ f14 : Nat → Nat, f14 = kv_up d12 k289 (d11 k289) ∧ (∀ j, f14 j < 65536) ∧ kz_dy (dC, dI) vwCl A s.heap H locs [(me, .inl (cI, 18, .inl (kz_dg d11))), (t, .inl (cI, 16, .inl (kz_dg f14)))] := ⟨_, rfl, kv_up_lt hd_d12 (by omega), hP, hD, hS⟩
                            refine lv_iinc (v := (nI (k289 + 1))) (lv' := [(5, .int (nI (k289 + 1))), (3, .long (kz_lz (z8))), (2, .int (nI (k3))), (0, .ref o), (1, .ref t)]) hx hb zd_N_remain_307 hl (k := 0) rfl (nI_1 _) (by decide) rfl (fun ls hl => ?_)
                            refine lv_goto (tgt := 289) hx hb zd_N_remain_310 (by decide) ?_
                            have hi9_hcp15 : ∀ j, j < k289 + 1 → f14 j = d11 j := by rw [ef14]; exact kv_fill hcp rfl
                            exact ih289 (k289 + 1) f14 _ _ _ (by omega) (by omega) hd_f14 hi9_hcp15 hdy (lv_sub hl [0, 1, 2, 3, 4] rfl)
                      have hi9_hcp16 : ∀ j, j < 0 → gt j = d11 j := by intro j hj; omega
                      exact lp289 (16 - 0 + 1) 0 gt _ _ _ (by omega) (by omega) hd_gt hi9_hcp16 hdy (lv_sub hl [0, 1, 2, 3, 4] rfl)
                    · have hc80 : ¬ k78 = 0 := fun h9 => hc80 ((kz_neg (by omega)).mpr h9)
                      obtain ⟨k78p, rfl⟩ : ∃ j, k78 = j + 1 := ⟨k78 - 1, by omega⟩
                      rw [nI_pred] at hl
                      refine lv_bipush (v := (nI (17))) hx hb zd_N_remain_83 (by decide) ?_
                      refine lv_istore (lv' := [(6, .int (nI (17))), (5, .int (nI (k78p))), (3, .long (kz_lz (z8))), (2, .int (nI (k3))), (0, .ref o), (1, .ref t)]) hx hb zd_N_remain_85 hl (by decide) rfl (fun ls hl => ?_)
                      have lp87 : ∀ (n87 k87 : Nat) (d17 : Nat → Nat) (H : Heap) (locs : List Loc) (ls : Array Slot), k87 ≤ 17 → k87 < n87 → (∀ j, d17 j < 65536) → (∀ j, k87 < j → j < 18 → d17 j = d11 (j - 1)) → (∀ j, j ≤ k87 → d17 j = d11 j) → kz_dy (dC, dI) vwCl A s.heap H locs [(me, .inl (cI, 18, .inl (kz_dg d17))), (t, .inl (cI, 16, .inl (kz_dg gt)))] → lv_has ls 13 [(6, .int (nI (k87))), (5, .int (nI (k78p))), (3, .long (kz_lz (z8))), (2, .int (nI (k3))), (0, .ref o), (1, .ref t)] → W p l e { frames := 1, cells := 0, slots := 0, locals := 23 } s m ([.ref o, .ref t] : List Value).toArray below meth c H locs 0 0 (MQ below (va_Qv (fun (u : (Nat → Nat) × (Nat → Nat)) => (∀ j, u.1 j < 65536) ∧ (∀ j, u.2 j < 65536) ∧ (kv_val u.2 16 = kv_val gmx 32 % kv_val gmm 16) ∧ True) (kz_B (dC, dI) vwCl A (fun u : (Nat → Nat) × (Nat → Nat) => [(me, .inl (cI, 18, .inl (kz_dg u.1))), (t, .inl (cI, 16, .inl (kz_dg u.2)))])) A) ([.ref o, .ref t] : List Value).toArray s 0 0 A) (F0 m 87 ls []) := by
                        intro n87
                        induction n87 with
                        | zero => intro k87 d17 H locs ls hi87 hn87; exact absurd hn87 (Nat.not_lt_zero _)
                        | succ n87 ih87 =>
                          intro k87 d17 H locs ls hi87 hn87 hd_d17 hsh hkp hdy hl
                          refine lv_iload hx hb zd_N_remain_87 (lv_at hl 0 rfl) ?_
                          refine lv_if_le (tgt := 114) hx hb zd_N_remain_89 (by decide) (fun hc89 => ?_) (fun hc89 => ?_)
                          · have hc89 : k87 ≤ 0 := (nI_leI (by omega) (by omega)).mp (by rw [nI_0]; exact hc89)
                            refine lv_aload_n hx hb zd_N_remain_114 rfl (lv_at hl 4 rfl) ?_
                            refine va_get (D := (dC, dI)) (ci := 4) (v := .ref me) (C := zR_N) (T := zT_N) (N := 26) hx hb hts (fun w h => kz_c (zi_N w h)) hown hK (hro.ob hdy.2.2 (k := 0) rfl) 0 rfl rfl 14 (by decide) (hts _ (kz_c mw_605)) (fun _ h9 => h9) rfl zd_N_remain_115 ?_
                            refine lv_iconst (v := (nI (0))) hx hb zd_N_remain_118 (by decide) ?_
                            refine lv_aload_n hx hb zd_N_remain_119 rfl (lv_at hl 4 rfl) ?_
                            refine va_get (D := (dC, dI)) (ci := 4) (v := .ref mx) (C := zR_N) (T := zT_N) (N := 26) hx hb hts (fun w h => kz_c (zi_N w h)) hown hK (hro.ob hdy.2.2 (k := 0) rfl) 0 rfl rfl 13 (by decide) (hts _ (kz_c mw_604)) (fun _ h9 => h9) rfl zd_N_remain_120 ?_
                            refine lv_iload hx hb zd_N_remain_123 (lv_at hl 1 rfl) ?_
                            refine kz_riald hx hb hK hro hdy.2.2 2 0 rfl rfl (vp_in_nI (by omega) (by omega)) zd_N_remain_125 ?_
                            refine lv_topi (fun x18 h9 => ?_)
                            obtain rfl : x18 = nI (gmx k78p) := h9.trans (kz_dgl gmx (by omega))
                            have hbx18 := hd_gmx k78p
                            refine va_iast hx hb hK hdy.1 hdy.2.1 hdy.2.2 0 0 rfl rfl (vp_in_nI (by omega) (by omega)) zd_N_remain_126 (fun H locs hP hD hS => ?_)
                            have h9 := kz_dgu d17 (k := 0) (gmx k78p) (by omega)
                            rw [h9] at hP hD
                            obtain ⟨f19, ef19, hd_f19, hdy⟩ : ∃ f19 : Nat → Nat, f19 = kv_up d17 0 (gmx k78p) ∧ (∀ j, f19 j < 65536) ∧ kz_dy (dC, dI) vwCl A s.heap H locs [(me, .inl (cI, 18, .inl (kz_dg f19))), (t, .inl (cI, 16, .inl (kz_dg gt)))] := ⟨_, rfl, kv_up_lt hd_d17 (by omega), hP, hD, hS⟩
                            have lp127 : ∀ (n127 : Nat) (d20 : Nat → Nat) (H : Heap) (locs : List Loc) (ls : Array Slot), kv_val d20 18 < n127 → (∀ j, d20 j < 65536) → (kv_val d20 18 % kv_val gmm 16 = kv_hiN 32 gmx k78p % kv_val gmm 16) → kz_dy (dC, dI) vwCl A s.heap H locs [(me, .inl (cI, 18, .inl (kz_dg d20))), (t, .inl (cI, 16, .inl (kz_dg gt)))] → lv_has ls 13 [(5, .int (nI (k78p))), (3, .long (kz_lz (z8))), (2, .int (nI (k3))), (0, .ref o), (1, .ref t)] → W p l e { frames := 1, cells := 0, slots := 0, locals := 23 } s m ([.ref o, .ref t] : List Value).toArray below meth c H locs 0 0 (MQ below (va_Qv (fun (u : (Nat → Nat) × (Nat → Nat)) => (∀ j, u.1 j < 65536) ∧ (∀ j, u.2 j < 65536) ∧ (kv_val u.2 16 = kv_val gmx 32 % kv_val gmm 16) ∧ True) (kz_B (dC, dI) vwCl A (fun u : (Nat → Nat) × (Nat → Nat) => [(me, .inl (cI, 18, .inl (kz_dg u.1))), (t, .inl (cI, 16, .inl (kz_dg u.2)))])) A) ([.ref o, .ref t] : List Value).toArray s 0 0 A) (F0 m 127 ls []) := by
                              intro n127
                              induction n127 with
                              | zero => intro d20 H locs ls hn127; exact absurd hn127 (Nat.not_lt_zero _)
                              | succ n127 ih127 =>
                                intro d20 H locs ls hn127 hd_d20 hV hdy hl
                                refine lv_aload_n hx hb zd_N_remain_127 rfl (lv_at hl 3 rfl) ?_
                                refine lv_iload_n hx hb zd_N_remain_128 rfl (lv_at hl 2 rfl) ?_
                                refine kz_calli (wk := [(me, .inl (cI, 18, .inl (kz_dg d20))), (t, .inl (cI, 16, .inl (kz_dg gt)))]) (va_runV (As := [.int (nI (k3))]) (rest := []) ⟨hx, hb, hml, hown, hts⟩ (c_F_isLess l dC dI cI cAA cB cL o mt mn ml mc mh mk mp mm mb mw mr mx me mP mQ ms mo mW mD mB mR mS (th) (sta) (hs) sz_ gmm d20 ((nI (k3))) _ hd_gmm hd_d20) (cwV 1 hts (kz_g (kz_mc mw_733 (kz_mc mw_735 (kz_mc mw_28 (kz_mc mw_43 kz_mn)))) mw_736) rfl rfl rfl (by decide +kernel) ⟨Nat.le_of_ble_eq_true rfl, Nat.le_of_ble_eq_true rfl⟩) (kz_preVr hdy hA hK hro hZ hN [] (by decide) rfl [(true, 0), (true, 1), (false, 0)] rfl (by decide) [0, 1, 2, 3] rfl (fun _ h => by cases h) (fun _ h => by cases h) rfl (ci := 4) (q0 := 0) rfl rfl rfl) rfl rfl hl.1 rfl (lv_room (Nat.le_of_ble_eq_true rfl)) zd_N_remain_129 ⟨Nat.le_of_ble_eq_true rfl, Nat.le_of_ble_eq_true rfl⟩) hdy hA [] [0, 1] rfl rfl (by decide) (by decide) (fun r u H locs hw hdy => ?_)
                                obtain ⟨r21, rfl⟩ : ∃ z, z = r := ⟨_, rfl⟩
                                try dsimp only at hw
                                obtain ⟨hzr21, q22, -⟩ := hw
                                have hdy : kz_dy (dC, dI) vwCl A s.heap H locs [(me, .inl (cI, 18, .inl (kz_dg d20))), (t, .inl (cI, 16, .inl (kz_dg gt)))] := hdy.sub [0, 1] (by decide) rfl
                                refine lv_if_ne (tgt := 280) hx hb zd_N_remain_132 (by decide) (fun hc132 => ?_) (fun hc132 => ?_)
                                · have hlt9 : kv_val d20 18 < kv_val gmm 16 := (by have h9 := (q22.resolve_right (fun h => hc132 h.1)).2; rw [hm18] at h9; exact h9)
                                  refine lv_iinc (v := (nI (k78p) - 1)) (lv' := [(5, .int (nI (k78p) - 1)), (3, .long (kz_lz (z8))), (2, .int (nI (k3))), (0, .ref o), (1, .ref t)]) hx hb zd_N_remain_280 hl (k := 0) rfl (kz_m1 _) (by decide) rfl (fun ls hl => ?_)
                                  refine lv_goto (tgt := 78) hx hb zd_N_remain_283 (by decide) ?_
                                  have hi9_hR23 : kv_val d20 18 = kv_hiN 32 gmx (k78p) % kv_val gmm 16 := by exact kv_lessMod hlt9 hV
                                  exact ih78 k78p d20 _ _ _ (by omega) (by omega) hd_d20 hi9_hR23 hdy (lv_sub hl [0, 1, 2, 3, 4] rfl)
                                · have hless : kv_val (kv_m18 gmm) 18 ≤ kv_val d20 18 := (q22.resolve_left (fun h => absurd (hc132.symm.trans h.1) (by decide))).2
                                  refine lv_ldc2 (v := (65536)) hx hb hown (hts _ (kz_c mw_709)) zd_N_remain_135 ?_
                                  refine lv_topl (fun yl24 h9 => ?_)
                                  obtain rfl : yl24 = kz_lz (65536) := h9.trans (kz_lz_c65536)
                                  refine lv_ldc2 (v := (65536)) hx hb hown (hts _ (kz_c mw_709)) zd_N_remain_138 ?_
                                  refine lv_topl (fun yl25 h9 => ?_)
                                  obtain rfl : yl25 = kz_lz (65536) := h9.trans (kz_lz_c65536)
                                  refine lv_aload_n hx hb zd_N_remain_141 rfl (lv_at hl 3 rfl) ?_
                                  refine va_get (D := (dC, dI)) (ci := 4) (v := .ref me) (C := zR_N) (T := zT_N) (N := 26) hx hb hts (fun w h => kz_c (zi_N w h)) hown hK (hro.ob hdy.2.2 (k := 0) rfl) 0 rfl rfl 14 (by decide) (hts _ (kz_c mw_605)) (fun _ h9 => h9) rfl zd_N_remain_142 ?_
                                  refine lv_iload_n hx hb zd_N_remain_145 rfl (lv_at hl 2 rfl) ?_
                                  refine lv_iconst (v := (nI (1))) hx hb zd_N_remain_146 (by decide) ?_
                                  refine kz_iadd hx hb zd_N_remain_147 (nI_add _ _) ?_
                                  refine va_iald hx hb hK hdy.1 0 0 rfl rfl (vp_in_nI (by omega) (by omega)) zd_N_remain_148 ?_
                                  refine lv_topi (fun x26 h9 => ?_)
                                  obtain rfl : x26 = nI (d20 (k3 + 1)) := h9.trans (kz_dgl d20 (by omega))
                                  have hbx26 := hd_d20 (k3 + 1)
                                  refine lv_i2l hx hb zd_N_remain_149 (kz_lz_i (n := d20 (k3 + 1)) (by omega)) ?_
                                  refine lv_lmul hx hb zd_N_remain_150 ?_
                                  refine lv_topl (fun yl27 h9 => ?_)
                                  obtain rfl : yl27 = kz_lz (65536 * (((d20 (k3 + 1) : Nat) : Int))) := h9.trans (kz_lz_mul _ _)
                                  refine lv_aload_n hx hb zd_N_remain_151 rfl (lv_at hl 3 rfl) ?_
                                  refine va_get (D := (dC, dI)) (ci := 4) (v := .ref me) (C := zR_N) (T := zT_N) (N := 26) hx hb hts (fun w h => kz_c (zi_N w h)) hown hK (hro.ob hdy.2.2 (k := 0) rfl) 0 rfl rfl 14 (by decide) (hts _ (kz_c mw_605)) (fun _ h9 => h9) rfl zd_N_remain_152 ?_
                                  refine lv_iload_n hx hb zd_N_remain_155 rfl (lv_at hl 2 rfl) ?_
                                  refine va_iald hx hb hK hdy.1 0 0 rfl rfl (vp_in_nI (by omega) (by omega)) zd_N_remain_156 ?_
                                  refine lv_topi (fun x28 h9 => ?_)
                                  obtain rfl : x28 = nI (d20 k3) := h9.trans (kz_dgl d20 (by omega))
                                  have hbx28 := hd_d20 k3
                                  refine lv_i2l hx hb zd_N_remain_157 (kz_lz_i (n := d20 k3) (by omega)) ?_
                                  refine lv_ladd hx hb zd_N_remain_158 ?_
                                  refine lv_topl (fun yl29 h9 => ?_)
                                  obtain rfl : yl29 = kz_lz ((65536 * (((d20 (k3 + 1) : Nat) : Int))) + (((d20 k3 : Nat) : Int))) := h9.trans (kz_lz_add _ _)
                                  refine lv_lmul hx hb zd_N_remain_159 ?_
                                  refine lv_topl (fun yl30 h9 => ?_)
                                  obtain rfl : yl30 = kz_lz (65536 * ((65536 * (((d20 (k3 + 1) : Nat) : Int))) + (((d20 k3 : Nat) : Int)))) := h9.trans (kz_lz_mul _ _)
                                  refine lv_iload_n hx hb zd_N_remain_160 rfl (lv_at hl 2 rfl) ?_
                                  refine lv_if_le (tgt := 175) hx hb zd_N_remain_161 (by decide) (fun hc161 => ?_) (fun hc161 => ?_)
                                  · have hc161 : k3 ≤ 0 := (nI_leI (by omega) (by omega)).mp (by rw [nI_0]; exact hc161)
                                    refine lv_iconst (v := (nI (0))) hx hb zd_N_remain_175 (by decide) ?_
                                    refine lv_i2l hx hb zd_N_remain_176 (kz_lz_i (n := 0) (by omega)) ?_
                                    refine lv_ladd hx hb zd_N_remain_177 ?_
                                    refine lv_topl (fun yl31 h9 => ?_)
                                    obtain rfl : yl31 = kz_lz ((65536 * ((65536 * (((d20 (k3 + 1) : Nat) : Int))) + (((d20 k3 : Nat) : Int)))) + (((0 : Nat) : Int))) := h9.trans (kz_lz_add _ _)
                                    refine lv_topl (fun yl33 h9 => ?_)
                                    obtain ⟨z32, ez32, rfl⟩ : ∃ z : Int, z = (65536 * ((65536 * (((d20 (k3 + 1) : Nat) : Int))) + (((d20 k3 : Nat) : Int)))) + (((0 : Nat) : Int)) ∧ yl33 = kz_lz z := ⟨_, rfl, h9⟩
                                    refine lv_lstore (lv' := [(6, .long (kz_lz (z32))), (5, .int (nI (k78p))), (3, .long (kz_lz (z8))), (2, .int (nI (k3))), (0, .ref o), (1, .ref t)]) hx hb zd_N_remain_178 hl (by decide) rfl (fun ls hl => ?_)
                                    refine lv_lload hx hb zd_N_remain_180 (lv_at hl 0 rfl) ?_
                                    refine lv_lload_n hx hb zd_N_remain_182 rfl (lv_at hl 2 rfl) ?_
                                    refine lv_ldiv hx hb zd_N_remain_183 (kz_lz_ne0 (by omega) (by omega)) ?_
                                    refine lv_topl (fun yl34 h9 => ?_)
                                    obtain rfl : yl34 = kz_lz (z32 / z8) := h9.trans (kz_lz_divz (by omega) (by omega) (by omega) (by omega))
                                    refine lv_topl (fun yl36 h9 => ?_)
                                    obtain ⟨z35, ez35, rfl⟩ : ∃ z : Int, z = z32 / z8 ∧ yl36 = kz_lz z := ⟨_, rfl, h9⟩
                                    refine lv_lstore (lv' := [(8, .long (kz_lz (z35))), (6, .long (kz_lz (z32))), (5, .int (nI (k78p))), (3, .long (kz_lz (z8))), (2, .int (nI (k3))), (0, .ref o), (1, .ref t)]) hx hb zd_N_remain_184 hl (by decide) rfl (fun ls hl => ?_)
                                    have hqz : 0 ≤ z35 ∧ z35 < 4294967296 ∧ z35.toNat * kv_val (kv_m18 gmm) 18 ≤ kv_val d20 18 := by first | exact kv_qZ1 hd_gmm hd_d20 (by omega) (by omega) (by omega) htz ez8 ez32 ez35 | (exfalso; omega) | (obtain rfl : k3 = 0 := (by omega); exact kv_qZ0 hd_gmm hd_d20 (by omega) htz ez8 ez32 ez35)
                                    obtain ⟨hq0, hq1, hq2⟩ := hqz
                                    refine lv_lload hx hb zd_N_remain_186 (lv_at hl 0 rfl) ?_
                                    refine lv_lconst (v := 1) hx hb zd_N_remain_188 (by decide) ?_
                                    refine lv_topl (fun yl37 h9 => ?_)
                                    obtain rfl : yl37 = kz_lz (1) := h9.trans (kz_lz_c1)
                                    refine kz_lge (tgt := 197) hx hb zd_N_remain_189 zd_N_remain_190 (by decide) (fun hc190 => ?_) (fun hc190 => ?_)
                                    · have hc190 : ¬ z35 < 1 := fun h9 => hc190 ((kz_lz_lt (by omega) (by omega) (by omega) (by omega)).mpr h9)
                                      refine lv_lload hx hb zd_N_remain_197 (lv_at hl 0 rfl) ?_
                                      refine lv_lstore (lv' := [(8, .long (kz_lz (z35))), (6, .long (kz_lz (z32))), (5, .int (nI (k78p))), (3, .long (kz_lz (z8))), (2, .int (nI (k3))), (0, .ref o), (1, .ref t)]) hx hb zd_N_remain_199 hl (by decide) rfl (fun ls hl => ?_)
                                      have hQ0 : 1 ≤ z35 := by omega
                                      have hQ1 : z35 < 4294967296 := by omega
                                      have hQ2 : z35.toNat * kv_val (kv_m18 gmm) 18 ≤ kv_val d20 18 := hq2
                                      refine lv_lconst (v := 0) hx hb zd_N_remain_201 (by decide) ?_
                                      refine lv_topl (fun yl38 h9 => ?_)
                                      obtain rfl : yl38 = kz_lz (0) := h9.trans (kz_lz_c0)
                                      refine lv_topl (fun yl40 h9 => ?_)
                                      obtain ⟨z39, ez39, rfl⟩ : ∃ z : Int, z = 0 ∧ yl40 = kz_lz z := ⟨_, rfl, h9⟩
                                      refine lv_lstore (lv' := [(10, .long (kz_lz (z39))), (8, .long (kz_lz (z35))), (6, .long (kz_lz (z32))), (5, .int (nI (k78p))), (3, .long (kz_lz (z8))), (2, .int (nI (k3))), (0, .ref o), (1, .ref t)]) hx hb zd_N_remain_202 hl (by decide) rfl (fun ls hl => ?_)
                                      refine lv_iconst (v := (nI (0))) hx hb zd_N_remain_204 (by decide) ?_
                                      refine lv_istore (lv' := [(12, .int (nI (0))), (10, .long (kz_lz (z39))), (8, .long (kz_lz (z35))), (6, .long (kz_lz (z32))), (5, .int (nI (k78p))), (3, .long (kz_lz (z8))), (2, .int (nI (k3))), (0, .ref o), (1, .ref t)]) hx hb zd_N_remain_205 hl (by decide) rfl (fun ls hl => ?_)
                                      have lp207 : ∀ (n207 k207 : Nat) (z41 : Int) (d42 : Nat → Nat) (H : Heap) (locs : List Loc) (ls : Array Slot), k207 ≤ 18 → 18 - k207 < n207 → (∀ j, d42 j < 65536) → (-8589934592 ≤ z41) → (z41 ≤ 1) → (((kv_val d42 (k207) : Nat) : Int) + z41 * (65536 : Int) ^ (k207) = ((kv_val d20 (k207) : Nat) : Int) - z35 * ((kv_val (kv_m18 gmm) (k207) : Nat) : Int)) → (∀ j, k207 ≤ j → d42 j = d20 j) → kz_dy (dC, dI) vwCl A s.heap H locs [(me, .inl (cI, 18, .inl (kz_dg d42))), (t, .inl (cI, 16, .inl (kz_dg gt)))] → lv_has ls 13 [(12, .int (nI (k207))), (10, .long (kz_lz (z41))), (8, .long (kz_lz (z35))), (6, .long (kz_lz (z32))), (5, .int (nI (k78p))), (3, .long (kz_lz (z8))), (2, .int (nI (k3))), (0, .ref o), (1, .ref t)] → W p l e { frames := 1, cells := 0, slots := 0, locals := 23 } s m ([.ref o, .ref t] : List Value).toArray below meth c H locs 0 0 (MQ below (va_Qv (fun (u : (Nat → Nat) × (Nat → Nat)) => (∀ j, u.1 j < 65536) ∧ (∀ j, u.2 j < 65536) ∧ (kv_val u.2 16 = kv_val gmx 32 % kv_val gmm 16) ∧ True) (kz_B (dC, dI) vwCl A (fun u : (Nat → Nat) × (Nat → Nat) => [(me, .inl (cI, 18, .inl (kz_dg u.1))), (t, .inl (cI, 16, .inl (kz_dg u.2)))])) A) ([.ref o, .ref t] : List Value).toArray s 0 0 A) (F0 m 207 ls []) := by
                                        intro n207
                                        induction n207 with
                                        | zero => intro k207; intros; omega
                                        | succ n207 ih207 =>
                                          intro k207 z41 d42 H locs ls hi207 hn207 hd_d42 hlo hhi hI hge hdy hl
                                          refine lv_iload hx hb zd_N_remain_207 (lv_at hl 0 rfl) ?_
                                          refine lv_bipush (v := (nI (18))) hx hb zd_N_remain_209 (by decide) ?_
                                          refine lv_icmp_ge (tgt := 277) hx hb zd_N_remain_211 (by decide) (fun hc211 => ?_) (fun hc211 => ?_)
                                          · have hc211 : 18 ≤ k207 := (nI_leI (by omega) (by omega)).mp hc211
                                            refine lv_goto (tgt := 127) hx hb zd_N_remain_277 (by decide) ?_
                                            have hi9_hV43 : kv_val d42 18 % kv_val gmm 16 = kv_hiN 32 gmx k78p % kv_val gmm 16 := by have h18 : k207 = 18 := (by omega); subst h18; have h8 := kv_subExact (q := z35.toNat) hd_d42 hd_d20 hQ2 (by have h7 : ((z35.toNat : Nat) : Int) = z35 := (by omega); rw [h7]; exact hI); rw [hm18] at h8; exact kv_takeMod h8 hV
                                            have hms127 : kv_val d42 18 < n127 := by have h18 : k207 = 18 := (by omega); subst h18; have h8 := kv_subEnd (q := z35.toNat) hd_d42 hd_d20 (by omega) hmv hQ2 (by have h7 : ((z35.toNat : Nat) : Int) = z35 := (by omega); rw [h7]; exact hI); omega
                                            exact ih127 d42 _ _ _ hms127 hd_d42 hi9_hV43 hdy (lv_sub hl [4, 5, 6, 7, 8] rfl)
                                          · have hc211 : ¬ 18 ≤ k207 := fun h9 => hc211 ((nI_leI (by omega) (by omega)).mpr h9)
                                            refine lv_lload hx hb zd_N_remain_214 (lv_at hl 1 rfl) ?_
                                            refine lv_aload_n hx hb zd_N_remain_216 rfl (lv_at hl 7 rfl) ?_
                                            refine va_get (D := (dC, dI)) (ci := 4) (v := .ref me) (C := zR_N) (T := zT_N) (N := 26) hx hb hts (fun w h => kz_c (zi_N w h)) hown hK (hro.ob hdy.2.2 (k := 0) rfl) 0 rfl rfl 14 (by decide) (hts _ (kz_c mw_605)) (fun _ h9 => h9) rfl zd_N_remain_217 ?_
                                            refine lv_iload hx hb zd_N_remain_220 (lv_at hl 0 rfl) ?_
                                            refine va_iald hx hb hK hdy.1 0 0 rfl rfl (vp_in_nI (by omega) (by omega)) zd_N_remain_222 ?_
                                            refine lv_topi (fun x44 h9 => ?_)
                                            obtain rfl : x44 = nI (d42 k207) := h9.trans (kz_dgl d42 (by omega))
                                            have hbx44 := hd_d42 k207
                                            refine lv_i2l hx hb zd_N_remain_223 (kz_lz_i (n := d42 k207) (by omega)) ?_
                                            refine lv_ladd hx hb zd_N_remain_224 ?_
                                            refine lv_topl (fun yl45 h9 => ?_)
                                            obtain rfl : yl45 = kz_lz (z41 + (((d42 k207 : Nat) : Int))) := h9.trans (kz_lz_add _ _)
                                            refine lv_iload hx hb zd_N_remain_225 (lv_at hl 0 rfl) ?_
                                            refine lv_bipush (v := (nI (16))) hx hb zd_N_remain_227 (by decide) ?_
                                            refine lv_icmp_ge (tgt := 246) hx hb zd_N_remain_229 (by decide) (fun hc229 => ?_) (fun hc229 => ?_)
                                            · have hc229 : 16 ≤ k207 := (nI_leI (by omega) (by omega)).mp hc229
                                              refine lv_lconst (v := 0) hx hb zd_N_remain_246 (by decide) ?_
                                              refine lv_topl (fun yl46 h9 => ?_)
                                              obtain rfl : yl46 = kz_lz (0) := h9.trans (kz_lz_c0)
                                              refine lv_lsub hx hb zd_N_remain_247 ?_
                                              refine lv_topl (fun yl47 h9 => ?_)
                                              obtain rfl : yl47 = kz_lz ((z41 + (((d42 k207 : Nat) : Int))) - 0) := h9.trans (kz_lz_sub _ _)
                                              refine lv_topl (fun yl49 h9 => ?_)
                                              obtain ⟨z48, ez48, rfl⟩ : ∃ z : Int, z = (z41 + (((d42 k207 : Nat) : Int))) - 0 ∧ yl49 = kz_lz z := ⟨_, rfl, h9⟩
                                              refine lv_lstore (lv' := [(10, .long (kz_lz (z48))), (12, .int (nI (k207))), (8, .long (kz_lz (z35))), (6, .long (kz_lz (z32))), (5, .int (nI (k78p))), (3, .long (kz_lz (z8))), (2, .int (nI (k3))), (0, .ref o), (1, .ref t)]) hx hb zd_N_remain_248 hl (by decide) rfl (fun ls hl => ?_)
                                              have hm9 := kv_qm (q := z35) (by omega) hQ1 (hd_gmm k207)
                                              have ht9 : z48 = z41 + ((d20 k207 : Nat) : Int) - z35 * ((kv_m18 gmm k207 : Nat) : Int) := by rw [ez48, ← hge k207 (Nat.le_refl _)]; unfold kv_m18; first | (rw [if_pos (by omega)]; done) | (rw [if_neg (by omega)]; show _ = _ - z35 * 0; omega)
                                              refine lv_aload_n hx hb zd_N_remain_250 rfl (lv_at hl 7 rfl) ?_
                                              refine va_get (D := (dC, dI)) (ci := 4) (v := .ref me) (C := zR_N) (T := zT_N) (N := 26) hx hb hts (fun w h => kz_c (zi_N w h)) hown hK (hro.ob hdy.2.2 (k := 0) rfl) 0 rfl rfl 14 (by decide) (hts _ (kz_c mw_605)) (fun _ h9 => h9) rfl zd_N_remain_251 ?_
                                              refine lv_iload hx hb zd_N_remain_254 (lv_at hl 1 rfl) ?_
                                              refine lv_lload hx hb zd_N_remain_256 (lv_at hl 0 rfl) ?_
                                              refine lv_ldc2 (v := (65535)) hx hb hown (hts _ (kz_c mw_708)) zd_N_remain_258 ?_
                                              refine lv_topl (fun yl50 h9 => ?_)
                                              obtain rfl : yl50 = kz_lz (65535) := h9.trans (kz_lz_c65535)
                                              refine lv_land hx hb zd_N_remain_261 ?_
                                              refine lv_topl (fun yl51 h9 => ?_)
                                              obtain rfl : yl51 = kz_lz (z48 % 65536) := h9.trans (kz_lz_andz _)
                                              refine lv_l2i hx hb zd_N_remain_262 (kz_lz_i16 (z48)) ?_
                                              refine va_iast hx hb hK hdy.1 hdy.2.1 hdy.2.2 0 0 rfl rfl (vp_in_nI (by omega) (by omega)) zd_N_remain_263 (fun H locs hP hD hS => ?_)
                                              have h9 := kz_dgu d42 (k := k207) ((z48 % 65536).toNat) (by omega)
                                              rw [h9] at hP hD
                                              obtain ⟨f52, ef52, hd_f52, hdy⟩ : ∃ f52 : Nat → Nat, f52 = kv_up d42 k207 ((z48 % 65536).toNat) ∧ (∀ j, f52 j < 65536) ∧ kz_dy (dC, dI) vwCl A s.heap H locs [(me, .inl (cI, 18, .inl (kz_dg f52))), (t, .inl (cI, 16, .inl (kz_dg gt)))] := ⟨_, rfl, kv_up_lt hd_d42 (by omega), hP, hD, hS⟩
                                              refine lv_lload hx hb zd_N_remain_264 (lv_at hl 0 rfl) ?_
                                              refine lv_bipush (v := (nI (16))) hx hb zd_N_remain_266 (by decide) ?_
                                              refine lv_lshr hx hb zd_N_remain_268 (kz_lz_shr (z := z48) (by omega) (by omega)) ?_
                                              refine lv_topl (fun yl54 h9 => ?_)
                                              obtain ⟨z53, ez53, rfl⟩ : ∃ z : Int, z = z48 / 65536 ∧ yl54 = kz_lz z := ⟨_, rfl, h9⟩
                                              refine lv_lstore (lv' := [(10, .long (kz_lz (z53))), (12, .int (nI (k207))), (8, .long (kz_lz (z35))), (6, .long (kz_lz (z32))), (5, .int (nI (k78p))), (3, .long (kz_lz (z8))), (2, .int (nI (k3))), (0, .ref o), (1, .ref t)]) hx hb zd_N_remain_269 hl (by decide) rfl (fun ls hl => ?_)
                                              refine lv_iinc (v := (nI (k207 + 1))) (lv' := [(12, .int (nI (k207 + 1))), (10, .long (kz_lz (z53))), (8, .long (kz_lz (z35))), (6, .long (kz_lz (z32))), (5, .int (nI (k78p))), (3, .long (kz_lz (z8))), (2, .int (nI (k3))), (0, .ref o), (1, .ref t)]) hx hb zd_N_remain_271 hl (k := 1) rfl (nI_1 _) (by decide) rfl (fun ls hl => ?_)
                                              refine lv_goto (tgt := 207) hx hb zd_N_remain_274 (by decide) ?_
                                              have hi9_hlo55 : -8589934592 ≤ z53 := by omega
                                              have hi9_hhi56 : z53 ≤ 1 := by omega
                                              have hi9_hI57 : ((kv_val f52 (k207 + 1) : Nat) : Int) + z53 * (65536 : Int) ^ (k207 + 1) = ((kv_val d20 (k207 + 1) : Nat) : Int) - z35 * ((kv_val (kv_m18 gmm) (k207 + 1) : Nat) : Int) := by rw [ef52, ez53]; exact kv_subStep hI ht9
                                              have hi9_hge58 : ∀ j, k207 + 1 ≤ j → f52 j = d20 j := by intro j hj; rw [ef52, kv_up_ne _ _ (by omega)]; exact hge j (by omega)
                                              exact ih207 (k207 + 1) (z53) f52 _ _ _ (by omega) (by omega) hd_f52 hi9_hlo55 hi9_hhi56 hi9_hI57 hi9_hge58 hdy (lv_sub hl [0, 1, 2, 3, 4, 5, 6, 7, 8] rfl)
                                            · have hc229 : ¬ 16 ≤ k207 := fun h9 => hc229 ((nI_leI (by omega) (by omega)).mpr h9)
                                              refine lv_lload hx hb zd_N_remain_232 (lv_at hl 2 rfl) ?_
                                              refine lv_aload_n hx hb zd_N_remain_234 rfl (lv_at hl 7 rfl) ?_
                                              refine va_get (D := (dC, dI)) (ci := 4) (v := .ref mm) (C := zR_N) (T := zT_N) (N := 26) hx hb hts (fun w h => kz_c (zi_N w h)) hown hK (hro.ob hdy.2.2 (k := 0) rfl) 0 rfl rfl 9 (by decide) (hts _ (kz_c mw_600)) (fun _ h9 => h9) rfl zd_N_remain_235 ?_
                                              refine lv_iload hx hb zd_N_remain_238 (lv_at hl 0 rfl) ?_
                                              refine kz_riald hx hb hK hro hdy.2.2 1 0 rfl rfl (vp_in_nI (by omega) (by omega)) zd_N_remain_240 ?_
                                              refine lv_topi (fun x59 h9 => ?_)
                                              obtain rfl : x59 = nI (gmm k207) := h9.trans (kz_dgl gmm (by omega))
                                              have hbx59 := hd_gmm k207
                                              refine lv_i2l hx hb zd_N_remain_241 (kz_lz_i (n := gmm k207) (by omega)) ?_
                                              refine lv_lmul hx hb zd_N_remain_242 ?_
                                              refine lv_topl (fun yl60 h9 => ?_)
                                              obtain rfl : yl60 = kz_lz (z35 * (((gmm k207 : Nat) : Int))) := h9.trans (kz_lz_mul _ _)
                                              refine lv_goto (tgt := 247) hx hb zd_N_remain_243 (by decide) ?_
                                              refine lv_lsub hx hb zd_N_remain_247 ?_
                                              refine lv_topl (fun yl61 h9 => ?_)
                                              obtain rfl : yl61 = kz_lz ((z41 + (((d42 k207 : Nat) : Int))) - (z35 * (((gmm k207 : Nat) : Int)))) := h9.trans (kz_lz_sub _ _)
                                              refine lv_topl (fun yl63 h9 => ?_)
                                              obtain ⟨z62, ez62, rfl⟩ : ∃ z : Int, z = (z41 + (((d42 k207 : Nat) : Int))) - (z35 * (((gmm k207 : Nat) : Int))) ∧ yl63 = kz_lz z := ⟨_, rfl, h9⟩
                                              refine lv_lstore (lv' := [(10, .long (kz_lz (z62))), (12, .int (nI (k207))), (8, .long (kz_lz (z35))), (6, .long (kz_lz (z32))), (5, .int (nI (k78p))), (3, .long (kz_lz (z8))), (2, .int (nI (k3))), (0, .ref o), (1, .ref t)]) hx hb zd_N_remain_248 hl (by decide) rfl (fun ls hl => ?_)
                                              have hm9 := kv_qm (q := z35) (by omega) hQ1 (hd_gmm k207)
                                              have ht9 : z62 = z41 + ((d20 k207 : Nat) : Int) - z35 * ((kv_m18 gmm k207 : Nat) : Int) := by rw [ez62, ← hge k207 (Nat.le_refl _)]; unfold kv_m18; first | (rw [if_pos (by omega)]; done) | (rw [if_neg (by omega)]; show _ = _ - z35 * 0; omega)
                                              refine lv_aload_n hx hb zd_N_remain_250 rfl (lv_at hl 7 rfl) ?_
                                              refine va_get (D := (dC, dI)) (ci := 4) (v := .ref me) (C := zR_N) (T := zT_N) (N := 26) hx hb hts (fun w h => kz_c (zi_N w h)) hown hK (hro.ob hdy.2.2 (k := 0) rfl) 0 rfl rfl 14 (by decide) (hts _ (kz_c mw_605)) (fun _ h9 => h9) rfl zd_N_remain_251 ?_
                                              refine lv_iload hx hb zd_N_remain_254 (lv_at hl 1 rfl) ?_
                                              refine lv_lload hx hb zd_N_remain_256 (lv_at hl 0 rfl) ?_
                                              refine lv_ldc2 (v := (65535)) hx hb hown (hts _ (kz_c mw_708)) zd_N_remain_258 ?_
                                              refine lv_topl (fun yl64 h9 => ?_)
                                              obtain rfl : yl64 = kz_lz (65535) := h9.trans (kz_lz_c65535)
                                              refine lv_land hx hb zd_N_remain_261 ?_
                                              refine lv_topl (fun yl65 h9 => ?_)
                                              obtain rfl : yl65 = kz_lz (z62 % 65536) := h9.trans (kz_lz_andz _)
                                              refine lv_l2i hx hb zd_N_remain_262 (kz_lz_i16 (z62)) ?_
                                              refine va_iast hx hb hK hdy.1 hdy.2.1 hdy.2.2 0 0 rfl rfl (vp_in_nI (by omega) (by omega)) zd_N_remain_263 (fun H locs hP hD hS => ?_)
                                              have h9 := kz_dgu d42 (k := k207) ((z62 % 65536).toNat) (by omega)
                                              rw [h9] at hP hD
                                              obtain ⟨f66, ef66, hd_f66, hdy⟩ : ∃ f66 : Nat → Nat, f66 = kv_up d42 k207 ((z62 % 65536).toNat) ∧ (∀ j, f66 j < 65536) ∧ kz_dy (dC, dI) vwCl A s.heap H locs [(me, .inl (cI, 18, .inl (kz_dg f66))), (t, .inl (cI, 16, .inl (kz_dg gt)))] := ⟨_, rfl, kv_up_lt hd_d42 (by omega), hP, hD, hS⟩
                                              refine lv_lload hx hb zd_N_remain_264 (lv_at hl 0 rfl) ?_
                                              refine lv_bipush (v := (nI (16))) hx hb zd_N_remain_266 (by decide) ?_
                                              refine lv_lshr hx hb zd_N_remain_268 (kz_lz_shr (z := z62) (by omega) (by omega)) ?_
                                              refine lv_topl (fun yl68 h9 => ?_)
                                              obtain ⟨z67, ez67, rfl⟩ : ∃ z : Int, z = z62 / 65536 ∧ yl68 = kz_lz z := ⟨_, rfl, h9⟩
                                              refine lv_lstore (lv' := [(10, .long (kz_lz (z67))), (12, .int (nI (k207))), (8, .long (kz_lz (z35))), (6, .long (kz_lz (z32))), (5, .int (nI (k78p))), (3, .long (kz_lz (z8))), (2, .int (nI (k3))), (0, .ref o), (1, .ref t)]) hx hb zd_N_remain_269 hl (by decide) rfl (fun ls hl => ?_)
                                              refine lv_iinc (v := (nI (k207 + 1))) (lv' := [(12, .int (nI (k207 + 1))), (10, .long (kz_lz (z67))), (8, .long (kz_lz (z35))), (6, .long (kz_lz (z32))), (5, .int (nI (k78p))), (3, .long (kz_lz (z8))), (2, .int (nI (k3))), (0, .ref o), (1, .ref t)]) hx hb zd_N_remain_271 hl (k := 1) rfl (nI_1 _) (by decide) rfl (fun ls hl => ?_)
                                              refine lv_goto (tgt := 207) hx hb zd_N_remain_274 (by decide) ?_
                                              have hi9_hlo69 : -8589934592 ≤ z67 := by omega
                                              have hi9_hhi70 : z67 ≤ 1 := by omega
                                              have hi9_hI71 : ((kv_val f66 (k207 + 1) : Nat) : Int) + z67 * (65536 : Int) ^ (k207 + 1) = ((kv_val d20 (k207 + 1) : Nat) : Int) - z35 * ((kv_val (kv_m18 gmm) (k207 + 1) : Nat) : Int) := by rw [ef66, ez67]; exact kv_subStep hI ht9
                                              have hi9_hge72 : ∀ j, k207 + 1 ≤ j → f66 j = d20 j := by intro j hj; rw [ef66, kv_up_ne _ _ (by omega)]; exact hge j (by omega)
                                              exact ih207 (k207 + 1) (z67) f66 _ _ _ (by omega) (by omega) hd_f66 hi9_hlo69 hi9_hhi70 hi9_hI71 hi9_hge72 hdy (lv_sub hl [0, 1, 2, 3, 4, 5, 6, 7, 8] rfl)
                                      have hi9_hlo73 : -8589934592 ≤ z39 := by omega
                                      have hi9_hhi74 : z39 ≤ 1 := by omega
                                      have hi9_hI75 : ((kv_val d20 (0) : Nat) : Int) + z39 * (65536 : Int) ^ (0) = ((kv_val d20 (0) : Nat) : Int) - z35 * ((kv_val (kv_m18 gmm) (0) : Nat) : Int) := by rw [ez39]; show (0 : Int) + 0 * _ = 0 - z35 * 0; omega
                                      have hi9_hge76 : ∀ j, 0 ≤ j → d20 j = d20 j := by exact fun _ _ => rfl
                                      exact lp207 (18 - 0 + 1) 0 (z39) d20 _ _ _ (by omega) (by omega) hd_d20 hi9_hlo73 hi9_hhi74 hi9_hI75 hi9_hge76 hdy (lv_sub hl [0, 1, 2, 3, 4, 5, 6, 7, 8] rfl)
                                    · have hc190 : z35 < 1 := (kz_lz_lt (by omega) (by omega) (by omega) (by omega)).mp hc190
                                      refine lv_lconst (v := 1) hx hb zd_N_remain_193 (by decide) ?_
                                      refine lv_topl (fun yl77 h9 => ?_)
                                      obtain rfl : yl77 = kz_lz (1) := h9.trans (kz_lz_c1)
                                      refine lv_goto (tgt := 199) hx hb zd_N_remain_194 (by decide) ?_
                                      refine lv_topl (fun yl79 h9 => ?_)
                                      obtain ⟨z78, ez78, rfl⟩ : ∃ z : Int, z = 1 ∧ yl79 = kz_lz z := ⟨_, rfl, h9⟩
                                      refine lv_lstore (lv' := [(8, .long (kz_lz (z78))), (6, .long (kz_lz (z32))), (5, .int (nI (k78p))), (3, .long (kz_lz (z8))), (2, .int (nI (k3))), (0, .ref o), (1, .ref t)]) hx hb zd_N_remain_199 hl (by decide) rfl (fun ls hl => ?_)
                                      have hQ0 : 1 ≤ z78 := by omega
                                      have hQ1 : z78 < 4294967296 := by omega
                                      have hQ2 : z78.toNat * kv_val (kv_m18 gmm) 18 ≤ kv_val d20 18 := by have h8 : z78.toNat = 1 := (by omega); rw [h8, Nat.one_mul]; exact hless
                                      refine lv_lconst (v := 0) hx hb zd_N_remain_201 (by decide) ?_
                                      refine lv_topl (fun yl80 h9 => ?_)
                                      obtain rfl : yl80 = kz_lz (0) := h9.trans (kz_lz_c0)
                                      refine lv_topl (fun yl82 h9 => ?_)
                                      obtain ⟨z81, ez81, rfl⟩ : ∃ z : Int, z = 0 ∧ yl82 = kz_lz z := ⟨_, rfl, h9⟩
                                      refine lv_lstore (lv' := [(10, .long (kz_lz (z81))), (8, .long (kz_lz (z78))), (6, .long (kz_lz (z32))), (5, .int (nI (k78p))), (3, .long (kz_lz (z8))), (2, .int (nI (k3))), (0, .ref o), (1, .ref t)]) hx hb zd_N_remain_202 hl (by decide) rfl (fun ls hl => ?_)
                                      refine lv_iconst (v := (nI (0))) hx hb zd_N_remain_204 (by decide) ?_
                                      refine lv_istore (lv' := [(12, .int (nI (0))), (10, .long (kz_lz (z81))), (8, .long (kz_lz (z78))), (6, .long (kz_lz (z32))), (5, .int (nI (k78p))), (3, .long (kz_lz (z8))), (2, .int (nI (k3))), (0, .ref o), (1, .ref t)]) hx hb zd_N_remain_205 hl (by decide) rfl (fun ls hl => ?_)
                                      have lp207 : ∀ (n207 k207 : Nat) (z83 : Int) (d84 : Nat → Nat) (H : Heap) (locs : List Loc) (ls : Array Slot), k207 ≤ 18 → 18 - k207 < n207 → (∀ j, d84 j < 65536) → (-8589934592 ≤ z83) → (z83 ≤ 1) → (((kv_val d84 (k207) : Nat) : Int) + z83 * (65536 : Int) ^ (k207) = ((kv_val d20 (k207) : Nat) : Int) - z78 * ((kv_val (kv_m18 gmm) (k207) : Nat) : Int)) → (∀ j, k207 ≤ j → d84 j = d20 j) → kz_dy (dC, dI) vwCl A s.heap H locs [(me, .inl (cI, 18, .inl (kz_dg d84))), (t, .inl (cI, 16, .inl (kz_dg gt)))] → lv_has ls 13 [(12, .int (nI (k207))), (10, .long (kz_lz (z83))), (8, .long (kz_lz (z78))), (6, .long (kz_lz (z32))), (5, .int (nI (k78p))), (3, .long (kz_lz (z8))), (2, .int (nI (k3))), (0, .ref o), (1, .ref t)] → W p l e { frames := 1, cells := 0, slots := 0, locals := 23 } s m ([.ref o, .ref t] : List Value).toArray below meth c H locs 0 0 (MQ below (va_Qv (fun (u : (Nat → Nat) × (Nat → Nat)) => (∀ j, u.1 j < 65536) ∧ (∀ j, u.2 j < 65536) ∧ (kv_val u.2 16 = kv_val gmx 32 % kv_val gmm 16) ∧ True) (kz_B (dC, dI) vwCl A (fun u : (Nat → Nat) × (Nat → Nat) => [(me, .inl (cI, 18, .inl (kz_dg u.1))), (t, .inl (cI, 16, .inl (kz_dg u.2)))])) A) ([.ref o, .ref t] : List Value).toArray s 0 0 A) (F0 m 207 ls []) := by
                                        intro n207
                                        induction n207 with
                                        | zero => intro k207; intros; omega
                                        | succ n207 ih207 =>
                                          intro k207 z83 d84 H locs ls hi207 hn207 hd_d84 hlo hhi hI hge hdy hl
                                          refine lv_iload hx hb zd_N_remain_207 (lv_at hl 0 rfl) ?_
                                          refine lv_bipush (v := (nI (18))) hx hb zd_N_remain_209 (by decide) ?_
                                          refine lv_icmp_ge (tgt := 277) hx hb zd_N_remain_211 (by decide) (fun hc211 => ?_) (fun hc211 => ?_)
                                          · have hc211 : 18 ≤ k207 := (nI_leI (by omega) (by omega)).mp hc211
                                            refine lv_goto (tgt := 127) hx hb zd_N_remain_277 (by decide) ?_
                                            have hi9_hV85 : kv_val d84 18 % kv_val gmm 16 = kv_hiN 32 gmx k78p % kv_val gmm 16 := by have h18 : k207 = 18 := (by omega); subst h18; have h8 := kv_subExact (q := z78.toNat) hd_d84 hd_d20 hQ2 (by have h7 : ((z78.toNat : Nat) : Int) = z78 := (by omega); rw [h7]; exact hI); rw [hm18] at h8; exact kv_takeMod h8 hV
                                            have hms127 : kv_val d84 18 < n127 := by have h18 : k207 = 18 := (by omega); subst h18; have h8 := kv_subEnd (q := z78.toNat) hd_d84 hd_d20 (by omega) hmv hQ2 (by have h7 : ((z78.toNat : Nat) : Int) = z78 := (by omega); rw [h7]; exact hI); omega
                                            exact ih127 d84 _ _ _ hms127 hd_d84 hi9_hV85 hdy (lv_sub hl [4, 5, 6, 7, 8] rfl)
                                          · have hc211 : ¬ 18 ≤ k207 := fun h9 => hc211 ((nI_leI (by omega) (by omega)).mpr h9)
                                            refine lv_lload hx hb zd_N_remain_214 (lv_at hl 1 rfl) ?_
                                            refine lv_aload_n hx hb zd_N_remain_216 rfl (lv_at hl 7 rfl) ?_
                                            refine va_get (D := (dC, dI)) (ci := 4) (v := .ref me) (C := zR_N) (T := zT_N) (N := 26) hx hb hts (fun w h => kz_c (zi_N w h)) hown hK (hro.ob hdy.2.2 (k := 0) rfl) 0 rfl rfl 14 (by decide) (hts _ (kz_c mw_605)) (fun _ h9 => h9) rfl zd_N_remain_217 ?_
                                            refine lv_iload hx hb zd_N_remain_220 (lv_at hl 0 rfl) ?_
                                            refine va_iald hx hb hK hdy.1 0 0 rfl rfl (vp_in_nI (by omega) (by omega)) zd_N_remain_222 ?_
                                            refine lv_topi (fun x86 h9 => ?_)
                                            obtain rfl : x86 = nI (d84 k207) := h9.trans (kz_dgl d84 (by omega))
                                            have hbx86 := hd_d84 k207
                                            refine lv_i2l hx hb zd_N_remain_223 (kz_lz_i (n := d84 k207) (by omega)) ?_
                                            refine lv_ladd hx hb zd_N_remain_224 ?_
                                            refine lv_topl (fun yl87 h9 => ?_)
                                            obtain rfl : yl87 = kz_lz (z83 + (((d84 k207 : Nat) : Int))) := h9.trans (kz_lz_add _ _)
                                            refine lv_iload hx hb zd_N_remain_225 (lv_at hl 0 rfl) ?_
                                            refine lv_bipush (v := (nI (16))) hx hb zd_N_remain_227 (by decide) ?_
                                            refine lv_icmp_ge (tgt := 246) hx hb zd_N_remain_229 (by decide) (fun hc229 => ?_) (fun hc229 => ?_)
                                            · have hc229 : 16 ≤ k207 := (nI_leI (by omega) (by omega)).mp hc229
                                              refine lv_lconst (v := 0) hx hb zd_N_remain_246 (by decide) ?_
                                              refine lv_topl (fun yl88 h9 => ?_)
                                              obtain rfl : yl88 = kz_lz (0) := h9.trans (kz_lz_c0)
                                              refine lv_lsub hx hb zd_N_remain_247 ?_
                                              refine lv_topl (fun yl89 h9 => ?_)
                                              obtain rfl : yl89 = kz_lz ((z83 + (((d84 k207 : Nat) : Int))) - 0) := h9.trans (kz_lz_sub _ _)
                                              refine lv_topl (fun yl91 h9 => ?_)
                                              obtain ⟨z90, ez90, rfl⟩ : ∃ z : Int, z = (z83 + (((d84 k207 : Nat) : Int))) - 0 ∧ yl91 = kz_lz z := ⟨_, rfl, h9⟩
                                              refine lv_lstore (lv' := [(10, .long (kz_lz (z90))), (12, .int (nI (k207))), (8, .long (kz_lz (z78))), (6, .long (kz_lz (z32))), (5, .int (nI (k78p))), (3, .long (kz_lz (z8))), (2, .int (nI (k3))), (0, .ref o), (1, .ref t)]) hx hb zd_N_remain_248 hl (by decide) rfl (fun ls hl => ?_)
                                              have hm9 := kv_qm (q := z78) (by omega) hQ1 (hd_gmm k207)
                                              have ht9 : z90 = z83 + ((d20 k207 : Nat) : Int) - z78 * ((kv_m18 gmm k207 : Nat) : Int) := by rw [ez90, ← hge k207 (Nat.le_refl _)]; unfold kv_m18; first | (rw [if_pos (by omega)]; done) | (rw [if_neg (by omega)]; show _ = _ - z78 * 0; omega)
                                              refine lv_aload_n hx hb zd_N_remain_250 rfl (lv_at hl 7 rfl) ?_
                                              refine va_get (D := (dC, dI)) (ci := 4) (v := .ref me) (C := zR_N) (T := zT_N) (N := 26) hx hb hts (fun w h => kz_c (zi_N w h)) hown hK (hro.ob hdy.2.2 (k := 0) rfl) 0 rfl rfl 14 (by decide) (hts _ (kz_c mw_605)) (fun _ h9 => h9) rfl zd_N_remain_251 ?_
                                              refine lv_iload hx hb zd_N_remain_254 (lv_at hl 1 rfl) ?_
                                              refine lv_lload hx hb zd_N_remain_256 (lv_at hl 0 rfl) ?_
                                              refine lv_ldc2 (v := (65535)) hx hb hown (hts _ (kz_c mw_708)) zd_N_remain_258 ?_
                                              refine lv_topl (fun yl92 h9 => ?_)
                                              obtain rfl : yl92 = kz_lz (65535) := h9.trans (kz_lz_c65535)
                                              refine lv_land hx hb zd_N_remain_261 ?_
                                              refine lv_topl (fun yl93 h9 => ?_)
                                              obtain rfl : yl93 = kz_lz (z90 % 65536) := h9.trans (kz_lz_andz _)
                                              refine lv_l2i hx hb zd_N_remain_262 (kz_lz_i16 (z90)) ?_
                                              refine va_iast hx hb hK hdy.1 hdy.2.1 hdy.2.2 0 0 rfl rfl (vp_in_nI (by omega) (by omega)) zd_N_remain_263 (fun H locs hP hD hS => ?_)
                                              have h9 := kz_dgu d84 (k := k207) ((z90 % 65536).toNat) (by omega)
                                              rw [h9] at hP hD
                                              obtain ⟨f94, ef94, hd_f94, hdy⟩ : ∃ f94 : Nat → Nat, f94 = kv_up d84 k207 ((z90 % 65536).toNat) ∧ (∀ j, f94 j < 65536) ∧ kz_dy (dC, dI) vwCl A s.heap H locs [(me, .inl (cI, 18, .inl (kz_dg f94))), (t, .inl (cI, 16, .inl (kz_dg gt)))] := ⟨_, rfl, kv_up_lt hd_d84 (by omega), hP, hD, hS⟩
                                              refine lv_lload hx hb zd_N_remain_264 (lv_at hl 0 rfl) ?_
                                              refine lv_bipush (v := (nI (16))) hx hb zd_N_remain_266 (by decide) ?_
                                              refine lv_lshr hx hb zd_N_remain_268 (kz_lz_shr (z := z90) (by omega) (by omega)) ?_
                                              refine lv_topl (fun yl96 h9 => ?_)
                                              obtain ⟨z95, ez95, rfl⟩ : ∃ z : Int, z = z90 / 65536 ∧ yl96 = kz_lz z := ⟨_, rfl, h9⟩
                                              refine lv_lstore (lv' := [(10, .long (kz_lz (z95))), (12, .int (nI (k207))), (8, .long (kz_lz (z78))), (6, .long (kz_lz (z32))), (5, .int (nI (k78p))), (3, .long (kz_lz (z8))), (2, .int (nI (k3))), (0, .ref o), (1, .ref t)]) hx hb zd_N_remain_269 hl (by decide) rfl (fun ls hl => ?_)
                                              refine lv_iinc (v := (nI (k207 + 1))) (lv' := [(12, .int (nI (k207 + 1))), (10, .long (kz_lz (z95))), (8, .long (kz_lz (z78))), (6, .long (kz_lz (z32))), (5, .int (nI (k78p))), (3, .long (kz_lz (z8))), (2, .int (nI (k3))), (0, .ref o), (1, .ref t)]) hx hb zd_N_remain_271 hl (k := 1) rfl (nI_1 _) (by decide) rfl (fun ls hl => ?_)
                                              refine lv_goto (tgt := 207) hx hb zd_N_remain_274 (by decide) ?_
                                              have hi9_hlo97 : -8589934592 ≤ z95 := by omega
                                              have hi9_hhi98 : z95 ≤ 1 := by omega
                                              have hi9_hI99 : ((kv_val f94 (k207 + 1) : Nat) : Int) + z95 * (65536 : Int) ^ (k207 + 1) = ((kv_val d20 (k207 + 1) : Nat) : Int) - z78 * ((kv_val (kv_m18 gmm) (k207 + 1) : Nat) : Int) := by rw [ef94, ez95]; exact kv_subStep hI ht9
                                              have hi9_hge100 : ∀ j, k207 + 1 ≤ j → f94 j = d20 j := by intro j hj; rw [ef94, kv_up_ne _ _ (by omega)]; exact hge j (by omega)
                                              exact ih207 (k207 + 1) (z95) f94 _ _ _ (by omega) (by omega) hd_f94 hi9_hlo97 hi9_hhi98 hi9_hI99 hi9_hge100 hdy (lv_sub hl [0, 1, 2, 3, 4, 5, 6, 7, 8] rfl)
                                            · have hc229 : ¬ 16 ≤ k207 := fun h9 => hc229 ((nI_leI (by omega) (by omega)).mpr h9)
                                              refine lv_lload hx hb zd_N_remain_232 (lv_at hl 2 rfl) ?_
                                              refine lv_aload_n hx hb zd_N_remain_234 rfl (lv_at hl 7 rfl) ?_
                                              refine va_get (D := (dC, dI)) (ci := 4) (v := .ref mm) (C := zR_N) (T := zT_N) (N := 26) hx hb hts (fun w h => kz_c (zi_N w h)) hown hK (hro.ob hdy.2.2 (k := 0) rfl) 0 rfl rfl 9 (by decide) (hts _ (kz_c mw_600)) (fun _ h9 => h9) rfl zd_N_remain_235 ?_
                                              refine lv_iload hx hb zd_N_remain_238 (lv_at hl 0 rfl) ?_
                                              refine kz_riald hx hb hK hro hdy.2.2 1 0 rfl rfl (vp_in_nI (by omega) (by omega)) zd_N_remain_240 ?_
                                              refine lv_topi (fun x101 h9 => ?_)
                                              obtain rfl : x101 = nI (gmm k207) := h9.trans (kz_dgl gmm (by omega))
                                              have hbx101 := hd_gmm k207
                                              refine lv_i2l hx hb zd_N_remain_241 (kz_lz_i (n := gmm k207) (by omega)) ?_
                                              refine lv_lmul hx hb zd_N_remain_242 ?_
                                              refine lv_topl (fun yl102 h9 => ?_)
                                              obtain rfl : yl102 = kz_lz (z78 * (((gmm k207 : Nat) : Int))) := h9.trans (kz_lz_mul _ _)
                                              refine lv_goto (tgt := 247) hx hb zd_N_remain_243 (by decide) ?_
                                              refine lv_lsub hx hb zd_N_remain_247 ?_
                                              refine lv_topl (fun yl103 h9 => ?_)
                                              obtain rfl : yl103 = kz_lz ((z83 + (((d84 k207 : Nat) : Int))) - (z78 * (((gmm k207 : Nat) : Int)))) := h9.trans (kz_lz_sub _ _)
                                              refine lv_topl (fun yl105 h9 => ?_)
                                              obtain ⟨z104, ez104, rfl⟩ : ∃ z : Int, z = (z83 + (((d84 k207 : Nat) : Int))) - (z78 * (((gmm k207 : Nat) : Int))) ∧ yl105 = kz_lz z := ⟨_, rfl, h9⟩
                                              refine lv_lstore (lv' := [(10, .long (kz_lz (z104))), (12, .int (nI (k207))), (8, .long (kz_lz (z78))), (6, .long (kz_lz (z32))), (5, .int (nI (k78p))), (3, .long (kz_lz (z8))), (2, .int (nI (k3))), (0, .ref o), (1, .ref t)]) hx hb zd_N_remain_248 hl (by decide) rfl (fun ls hl => ?_)
                                              have hm9 := kv_qm (q := z78) (by omega) hQ1 (hd_gmm k207)
                                              have ht9 : z104 = z83 + ((d20 k207 : Nat) : Int) - z78 * ((kv_m18 gmm k207 : Nat) : Int) := by rw [ez104, ← hge k207 (Nat.le_refl _)]; unfold kv_m18; first | (rw [if_pos (by omega)]; done) | (rw [if_neg (by omega)]; show _ = _ - z78 * 0; omega)
                                              refine lv_aload_n hx hb zd_N_remain_250 rfl (lv_at hl 7 rfl) ?_
                                              refine va_get (D := (dC, dI)) (ci := 4) (v := .ref me) (C := zR_N) (T := zT_N) (N := 26) hx hb hts (fun w h => kz_c (zi_N w h)) hown hK (hro.ob hdy.2.2 (k := 0) rfl) 0 rfl rfl 14 (by decide) (hts _ (kz_c mw_605)) (fun _ h9 => h9) rfl zd_N_remain_251 ?_
                                              refine lv_iload hx hb zd_N_remain_254 (lv_at hl 1 rfl) ?_
                                              refine lv_lload hx hb zd_N_remain_256 (lv_at hl 0 rfl) ?_
                                              refine lv_ldc2 (v := (65535)) hx hb hown (hts _ (kz_c mw_708)) zd_N_remain_258 ?_
                                              refine lv_topl (fun yl106 h9 => ?_)
                                              obtain rfl : yl106 = kz_lz (65535) := h9.trans (kz_lz_c65535)
                                              refine lv_land hx hb zd_N_remain_261 ?_
                                              refine lv_topl (fun yl107 h9 => ?_)
                                              obtain rfl : yl107 = kz_lz (z104 % 65536) := h9.trans (kz_lz_andz _)
                                              refine lv_l2i hx hb zd_N_remain_262 (kz_lz_i16 (z104)) ?_
                                              refine va_iast hx hb hK hdy.1 hdy.2.1 hdy.2.2 0 0 rfl rfl (vp_in_nI (by omega) (by omega)) zd_N_remain_263 (fun H locs hP hD hS => ?_)
                                              have h9 := kz_dgu d84 (k := k207) ((z104 % 65536).toNat) (by omega)
                                              rw [h9] at hP hD
                                              obtain ⟨f108, ef108, hd_f108, hdy⟩ : ∃ f108 : Nat → Nat, f108 = kv_up d84 k207 ((z104 % 65536).toNat) ∧ (∀ j, f108 j < 65536) ∧ kz_dy (dC, dI) vwCl A s.heap H locs [(me, .inl (cI, 18, .inl (kz_dg f108))), (t, .inl (cI, 16, .inl (kz_dg gt)))] := ⟨_, rfl, kv_up_lt hd_d84 (by omega), hP, hD, hS⟩
                                              refine lv_lload hx hb zd_N_remain_264 (lv_at hl 0 rfl) ?_
                                              refine lv_bipush (v := (nI (16))) hx hb zd_N_remain_266 (by decide) ?_
                                              refine lv_lshr hx hb zd_N_remain_268 (kz_lz_shr (z := z104) (by omega) (by omega)) ?_
                                              refine lv_topl (fun yl110 h9 => ?_)
                                              obtain ⟨z109, ez109, rfl⟩ : ∃ z : Int, z = z104 / 65536 ∧ yl110 = kz_lz z := ⟨_, rfl, h9⟩
                                              refine lv_lstore (lv' := [(10, .long (kz_lz (z109))), (12, .int (nI (k207))), (8, .long (kz_lz (z78))), (6, .long (kz_lz (z32))), (5, .int (nI (k78p))), (3, .long (kz_lz (z8))), (2, .int (nI (k3))), (0, .ref o), (1, .ref t)]) hx hb zd_N_remain_269 hl (by decide) rfl (fun ls hl => ?_)
                                              refine lv_iinc (v := (nI (k207 + 1))) (lv' := [(12, .int (nI (k207 + 1))), (10, .long (kz_lz (z109))), (8, .long (kz_lz (z78))), (6, .long (kz_lz (z32))), (5, .int (nI (k78p))), (3, .long (kz_lz (z8))), (2, .int (nI (k3))), (0, .ref o), (1, .ref t)]) hx hb zd_N_remain_271 hl (k := 1) rfl (nI_1 _) (by decide) rfl (fun ls hl => ?_)
                                              refine lv_goto (tgt := 207) hx hb zd_N_remain_274 (by decide) ?_
                                              have hi9_hlo111 : -8589934592 ≤ z109 := by omega
                                              have hi9_hhi112 : z109 ≤ 1 := by omega
                                              have hi9_hI113 : ((kv_val f108 (k207 + 1) : Nat) : Int) + z109 * (65536 : Int) ^ (k207 + 1) = ((kv_val d20 (k207 + 1) : Nat) : Int) - z78 * ((kv_val (kv_m18 gmm) (k207 + 1) : Nat) : Int) := by rw [ef108, ez109]; exact kv_subStep hI ht9
                                              have hi9_hge114 : ∀ j, k207 + 1 ≤ j → f108 j = d20 j := by intro j hj; rw [ef108, kv_up_ne _ _ (by omega)]; exact hge j (by omega)
                                              exact ih207 (k207 + 1) (z109) f108 _ _ _ (by omega) (by omega) hd_f108 hi9_hlo111 hi9_hhi112 hi9_hI113 hi9_hge114 hdy (lv_sub hl [0, 1, 2, 3, 4, 5, 6, 7, 8] rfl)
                                      have hi9_hlo115 : -8589934592 ≤ z81 := by omega
                                      have hi9_hhi116 : z81 ≤ 1 := by omega
                                      have hi9_hI117 : ((kv_val d20 (0) : Nat) : Int) + z81 * (65536 : Int) ^ (0) = ((kv_val d20 (0) : Nat) : Int) - z78 * ((kv_val (kv_m18 gmm) (0) : Nat) : Int) := by rw [ez81]; show (0 : Int) + 0 * _ = 0 - z78 * 0; omega
                                      have hi9_hge118 : ∀ j, 0 ≤ j → d20 j = d20 j := by exact fun _ _ => rfl
                                      exact lp207 (18 - 0 + 1) 0 (z81) d20 _ _ _ (by omega) (by omega) hd_d20 hi9_hlo115 hi9_hhi116 hi9_hI117 hi9_hge118 hdy (lv_sub hl [0, 1, 2, 3, 4, 5, 6, 7, 8] rfl)
                                  · have hc161 : ¬ k3 ≤ 0 := fun h9 => hc161 (by have h8 := (nI_leI (by omega) (by omega)).mpr h9; rw [nI_0] at h8; exact h8)
                                    refine lv_aload_n hx hb zd_N_remain_164 rfl (lv_at hl 3 rfl) ?_
                                    refine va_get (D := (dC, dI)) (ci := 4) (v := .ref me) (C := zR_N) (T := zT_N) (N := 26) hx hb hts (fun w h => kz_c (zi_N w h)) hown hK (hro.ob hdy.2.2 (k := 0) rfl) 0 rfl rfl 14 (by decide) (hts _ (kz_c mw_605)) (fun _ h9 => h9) rfl zd_N_remain_165 ?_
                                    refine lv_iload_n hx hb zd_N_remain_168 rfl (lv_at hl 2 rfl) ?_
                                    refine lv_iconst (v := (nI (1))) hx hb zd_N_remain_169 (by decide) ?_
                                    refine kz_isub hx hb zd_N_remain_170 (pk_sub (by omega)) ?_
                                    refine va_iald hx hb hK hdy.1 0 0 rfl rfl (vp_in_nI (by omega) (by omega)) zd_N_remain_171 ?_
                                    refine lv_topi (fun x119 h9 => ?_)
                                    obtain rfl : x119 = nI (d20 (k3 - 1)) := h9.trans (kz_dgl d20 (by omega))
                                    have hbx119 := hd_d20 (k3 - 1)
                                    refine lv_goto (tgt := 176) hx hb zd_N_remain_172 (by decide) ?_
                                    refine lv_i2l hx hb zd_N_remain_176 (kz_lz_i (n := d20 (k3 - 1)) (by omega)) ?_
                                    refine lv_ladd hx hb zd_N_remain_177 ?_
                                    refine lv_topl (fun yl120 h9 => ?_)
                                    obtain rfl : yl120 = kz_lz ((65536 * ((65536 * (((d20 (k3 + 1) : Nat) : Int))) + (((d20 k3 : Nat) : Int)))) + (((d20 (k3 - 1) : Nat) : Int))) := h9.trans (kz_lz_add _ _)
                                    refine lv_topl (fun yl122 h9 => ?_)
                                    obtain ⟨z121, ez121, rfl⟩ : ∃ z : Int, z = (65536 * ((65536 * (((d20 (k3 + 1) : Nat) : Int))) + (((d20 k3 : Nat) : Int)))) + (((d20 (k3 - 1) : Nat) : Int)) ∧ yl122 = kz_lz z := ⟨_, rfl, h9⟩
                                    refine lv_lstore (lv' := [(6, .long (kz_lz (z121))), (5, .int (nI (k78p))), (3, .long (kz_lz (z8))), (2, .int (nI (k3))), (0, .ref o), (1, .ref t)]) hx hb zd_N_remain_178 hl (by decide) rfl (fun ls hl => ?_)
                                    refine lv_lload hx hb zd_N_remain_180 (lv_at hl 0 rfl) ?_
                                    refine lv_lload_n hx hb zd_N_remain_182 rfl (lv_at hl 2 rfl) ?_
                                    refine lv_ldiv hx hb zd_N_remain_183 (kz_lz_ne0 (by omega) (by omega)) ?_
                                    refine lv_topl (fun yl123 h9 => ?_)
                                    obtain rfl : yl123 = kz_lz (z121 / z8) := h9.trans (kz_lz_divz (by omega) (by omega) (by omega) (by omega))
                                    refine lv_topl (fun yl125 h9 => ?_)
                                    obtain ⟨z124, ez124, rfl⟩ : ∃ z : Int, z = z121 / z8 ∧ yl125 = kz_lz z := ⟨_, rfl, h9⟩
                                    refine lv_lstore (lv' := [(8, .long (kz_lz (z124))), (6, .long (kz_lz (z121))), (5, .int (nI (k78p))), (3, .long (kz_lz (z8))), (2, .int (nI (k3))), (0, .ref o), (1, .ref t)]) hx hb zd_N_remain_184 hl (by decide) rfl (fun ls hl => ?_)
                                    have hqz : 0 ≤ z124 ∧ z124 < 4294967296 ∧ z124.toNat * kv_val (kv_m18 gmm) 18 ≤ kv_val d20 18 := by first | exact kv_qZ1 hd_gmm hd_d20 (by omega) (by omega) (by omega) htz ez8 ez121 ez124 | (exfalso; omega) | (obtain rfl : k3 = 0 := (by omega); exact kv_qZ0 hd_gmm hd_d20 (by omega) htz ez8 ez121 ez124)
                                    obtain ⟨hq0, hq1, hq2⟩ := hqz
                                    refine lv_lload hx hb zd_N_remain_186 (lv_at hl 0 rfl) ?_
                                    refine lv_lconst (v := 1) hx hb zd_N_remain_188 (by decide) ?_
                                    refine lv_topl (fun yl126 h9 => ?_)
                                    obtain rfl : yl126 = kz_lz (1) := h9.trans (kz_lz_c1)
                                    refine kz_lge (tgt := 197) hx hb zd_N_remain_189 zd_N_remain_190 (by decide) (fun hc190 => ?_) (fun hc190 => ?_)
                                    · have hc190 : ¬ z124 < 1 := fun h9 => hc190 ((kz_lz_lt (by omega) (by omega) (by omega) (by omega)).mpr h9)
                                      refine lv_lload hx hb zd_N_remain_197 (lv_at hl 0 rfl) ?_
                                      refine lv_lstore (lv' := [(8, .long (kz_lz (z124))), (6, .long (kz_lz (z121))), (5, .int (nI (k78p))), (3, .long (kz_lz (z8))), (2, .int (nI (k3))), (0, .ref o), (1, .ref t)]) hx hb zd_N_remain_199 hl (by decide) rfl (fun ls hl => ?_)
                                      have hQ0 : 1 ≤ z124 := by omega
                                      have hQ1 : z124 < 4294967296 := by omega
                                      have hQ2 : z124.toNat * kv_val (kv_m18 gmm) 18 ≤ kv_val d20 18 := hq2
                                      refine lv_lconst (v := 0) hx hb zd_N_remain_201 (by decide) ?_
                                      refine lv_topl (fun yl127 h9 => ?_)
                                      obtain rfl : yl127 = kz_lz (0) := h9.trans (kz_lz_c0)
                                      refine lv_topl (fun yl129 h9 => ?_)
                                      obtain ⟨z128, ez128, rfl⟩ : ∃ z : Int, z = 0 ∧ yl129 = kz_lz z := ⟨_, rfl, h9⟩
                                      refine lv_lstore (lv' := [(10, .long (kz_lz (z128))), (8, .long (kz_lz (z124))), (6, .long (kz_lz (z121))), (5, .int (nI (k78p))), (3, .long (kz_lz (z8))), (2, .int (nI (k3))), (0, .ref o), (1, .ref t)]) hx hb zd_N_remain_202 hl (by decide) rfl (fun ls hl => ?_)
                                      refine lv_iconst (v := (nI (0))) hx hb zd_N_remain_204 (by decide) ?_
                                      refine lv_istore (lv' := [(12, .int (nI (0))), (10, .long (kz_lz (z128))), (8, .long (kz_lz (z124))), (6, .long (kz_lz (z121))), (5, .int (nI (k78p))), (3, .long (kz_lz (z8))), (2, .int (nI (k3))), (0, .ref o), (1, .ref t)]) hx hb zd_N_remain_205 hl (by decide) rfl (fun ls hl => ?_)
                                      have lp207 : ∀ (n207 k207 : Nat) (z130 : Int) (d131 : Nat → Nat) (H : Heap) (locs : List Loc) (ls : Array Slot), k207 ≤ 18 → 18 - k207 < n207 → (∀ j, d131 j < 65536) → (-8589934592 ≤ z130) → (z130 ≤ 1) → (((kv_val d131 (k207) : Nat) : Int) + z130 * (65536 : Int) ^ (k207) = ((kv_val d20 (k207) : Nat) : Int) - z124 * ((kv_val (kv_m18 gmm) (k207) : Nat) : Int)) → (∀ j, k207 ≤ j → d131 j = d20 j) → kz_dy (dC, dI) vwCl A s.heap H locs [(me, .inl (cI, 18, .inl (kz_dg d131))), (t, .inl (cI, 16, .inl (kz_dg gt)))] → lv_has ls 13 [(12, .int (nI (k207))), (10, .long (kz_lz (z130))), (8, .long (kz_lz (z124))), (6, .long (kz_lz (z121))), (5, .int (nI (k78p))), (3, .long (kz_lz (z8))), (2, .int (nI (k3))), (0, .ref o), (1, .ref t)] → W p l e { frames := 1, cells := 0, slots := 0, locals := 23 } s m ([.ref o, .ref t] : List Value).toArray below meth c H locs 0 0 (MQ below (va_Qv (fun (u : (Nat → Nat) × (Nat → Nat)) => (∀ j, u.1 j < 65536) ∧ (∀ j, u.2 j < 65536) ∧ (kv_val u.2 16 = kv_val gmx 32 % kv_val gmm 16) ∧ True) (kz_B (dC, dI) vwCl A (fun u : (Nat → Nat) × (Nat → Nat) => [(me, .inl (cI, 18, .inl (kz_dg u.1))), (t, .inl (cI, 16, .inl (kz_dg u.2)))])) A) ([.ref o, .ref t] : List Value).toArray s 0 0 A) (F0 m 207 ls []) := by
                                        intro n207
                                        induction n207 with
                                        | zero => intro k207; intros; omega
                                        | succ n207 ih207 =>
                                          intro k207 z130 d131 H locs ls hi207 hn207 hd_d131 hlo hhi hI hge hdy hl
                                          refine lv_iload hx hb zd_N_remain_207 (lv_at hl 0 rfl) ?_
                                          refine lv_bipush (v := (nI (18))) hx hb zd_N_remain_209 (by decide) ?_
                                          refine lv_icmp_ge (tgt := 277) hx hb zd_N_remain_211 (by decide) (fun hc211 => ?_) (fun hc211 => ?_)
                                          · have hc211 : 18 ≤ k207 := (nI_leI (by omega) (by omega)).mp hc211
                                            refine lv_goto (tgt := 127) hx hb zd_N_remain_277 (by decide) ?_
                                            have hi9_hV132 : kv_val d131 18 % kv_val gmm 16 = kv_hiN 32 gmx k78p % kv_val gmm 16 := by have h18 : k207 = 18 := (by omega); subst h18; have h8 := kv_subExact (q := z124.toNat) hd_d131 hd_d20 hQ2 (by have h7 : ((z124.toNat : Nat) : Int) = z124 := (by omega); rw [h7]; exact hI); rw [hm18] at h8; exact kv_takeMod h8 hV
                                            have hms127 : kv_val d131 18 < n127 := by have h18 : k207 = 18 := (by omega); subst h18; have h8 := kv_subEnd (q := z124.toNat) hd_d131 hd_d20 (by omega) hmv hQ2 (by have h7 : ((z124.toNat : Nat) : Int) = z124 := (by omega); rw [h7]; exact hI); omega
                                            exact ih127 d131 _ _ _ hms127 hd_d131 hi9_hV132 hdy (lv_sub hl [4, 5, 6, 7, 8] rfl)
                                          · have hc211 : ¬ 18 ≤ k207 := fun h9 => hc211 ((nI_leI (by omega) (by omega)).mpr h9)
                                            refine lv_lload hx hb zd_N_remain_214 (lv_at hl 1 rfl) ?_
                                            refine lv_aload_n hx hb zd_N_remain_216 rfl (lv_at hl 7 rfl) ?_
                                            refine va_get (D := (dC, dI)) (ci := 4) (v := .ref me) (C := zR_N) (T := zT_N) (N := 26) hx hb hts (fun w h => kz_c (zi_N w h)) hown hK (hro.ob hdy.2.2 (k := 0) rfl) 0 rfl rfl 14 (by decide) (hts _ (kz_c mw_605)) (fun _ h9 => h9) rfl zd_N_remain_217 ?_
                                            refine lv_iload hx hb zd_N_remain_220 (lv_at hl 0 rfl) ?_
                                            refine va_iald hx hb hK hdy.1 0 0 rfl rfl (vp_in_nI (by omega) (by omega)) zd_N_remain_222 ?_
                                            refine lv_topi (fun x133 h9 => ?_)
                                            obtain rfl : x133 = nI (d131 k207) := h9.trans (kz_dgl d131 (by omega))
                                            have hbx133 := hd_d131 k207
                                            refine lv_i2l hx hb zd_N_remain_223 (kz_lz_i (n := d131 k207) (by omega)) ?_
                                            refine lv_ladd hx hb zd_N_remain_224 ?_
                                            refine lv_topl (fun yl134 h9 => ?_)
                                            obtain rfl : yl134 = kz_lz (z130 + (((d131 k207 : Nat) : Int))) := h9.trans (kz_lz_add _ _)
                                            refine lv_iload hx hb zd_N_remain_225 (lv_at hl 0 rfl) ?_
                                            refine lv_bipush (v := (nI (16))) hx hb zd_N_remain_227 (by decide) ?_
                                            refine lv_icmp_ge (tgt := 246) hx hb zd_N_remain_229 (by decide) (fun hc229 => ?_) (fun hc229 => ?_)
                                            · have hc229 : 16 ≤ k207 := (nI_leI (by omega) (by omega)).mp hc229
                                              refine lv_lconst (v := 0) hx hb zd_N_remain_246 (by decide) ?_
                                              refine lv_topl (fun yl135 h9 => ?_)
                                              obtain rfl : yl135 = kz_lz (0) := h9.trans (kz_lz_c0)
                                              refine lv_lsub hx hb zd_N_remain_247 ?_
                                              refine lv_topl (fun yl136 h9 => ?_)
                                              obtain rfl : yl136 = kz_lz ((z130 + (((d131 k207 : Nat) : Int))) - 0) := h9.trans (kz_lz_sub _ _)
                                              refine lv_topl (fun yl138 h9 => ?_)
                                              obtain ⟨z137, ez137, rfl⟩ : ∃ z : Int, z = (z130 + (((d131 k207 : Nat) : Int))) - 0 ∧ yl138 = kz_lz z := ⟨_, rfl, h9⟩
                                              refine lv_lstore (lv' := [(10, .long (kz_lz (z137))), (12, .int (nI (k207))), (8, .long (kz_lz (z124))), (6, .long (kz_lz (z121))), (5, .int (nI (k78p))), (3, .long (kz_lz (z8))), (2, .int (nI (k3))), (0, .ref o), (1, .ref t)]) hx hb zd_N_remain_248 hl (by decide) rfl (fun ls hl => ?_)
                                              have hm9 := kv_qm (q := z124) (by omega) hQ1 (hd_gmm k207)
                                              have ht9 : z137 = z130 + ((d20 k207 : Nat) : Int) - z124 * ((kv_m18 gmm k207 : Nat) : Int) := by rw [ez137, ← hge k207 (Nat.le_refl _)]; unfold kv_m18; first | (rw [if_pos (by omega)]; done) | (rw [if_neg (by omega)]; show _ = _ - z124 * 0; omega)
                                              refine lv_aload_n hx hb zd_N_remain_250 rfl (lv_at hl 7 rfl) ?_
                                              refine va_get (D := (dC, dI)) (ci := 4) (v := .ref me) (C := zR_N) (T := zT_N) (N := 26) hx hb hts (fun w h => kz_c (zi_N w h)) hown hK (hro.ob hdy.2.2 (k := 0) rfl) 0 rfl rfl 14 (by decide) (hts _ (kz_c mw_605)) (fun _ h9 => h9) rfl zd_N_remain_251 ?_
                                              refine lv_iload hx hb zd_N_remain_254 (lv_at hl 1 rfl) ?_
                                              refine lv_lload hx hb zd_N_remain_256 (lv_at hl 0 rfl) ?_
                                              refine lv_ldc2 (v := (65535)) hx hb hown (hts _ (kz_c mw_708)) zd_N_remain_258 ?_
                                              refine lv_topl (fun yl139 h9 => ?_)
                                              obtain rfl : yl139 = kz_lz (65535) := h9.trans (kz_lz_c65535)
                                              refine lv_land hx hb zd_N_remain_261 ?_
                                              refine lv_topl (fun yl140 h9 => ?_)
                                              obtain rfl : yl140 = kz_lz (z137 % 65536) := h9.trans (kz_lz_andz _)
                                              refine lv_l2i hx hb zd_N_remain_262 (kz_lz_i16 (z137)) ?_
                                              refine va_iast hx hb hK hdy.1 hdy.2.1 hdy.2.2 0 0 rfl rfl (vp_in_nI (by omega) (by omega)) zd_N_remain_263 (fun H locs hP hD hS => ?_)
                                              have h9 := kz_dgu d131 (k := k207) ((z137 % 65536).toNat) (by omega)
                                              rw [h9] at hP hD
                                              obtain ⟨f141, ef141, hd_f141, hdy⟩ : ∃ f141 : Nat → Nat, f141 = kv_up d131 k207 ((z137 % 65536).toNat) ∧ (∀ j, f141 j < 65536) ∧ kz_dy (dC, dI) vwCl A s.heap H locs [(me, .inl (cI, 18, .inl (kz_dg f141))), (t, .inl (cI, 16, .inl (kz_dg gt)))] := ⟨_, rfl, kv_up_lt hd_d131 (by omega), hP, hD, hS⟩
                                              refine lv_lload hx hb zd_N_remain_264 (lv_at hl 0 rfl) ?_
                                              refine lv_bipush (v := (nI (16))) hx hb zd_N_remain_266 (by decide) ?_
                                              refine lv_lshr hx hb zd_N_remain_268 (kz_lz_shr (z := z137) (by omega) (by omega)) ?_
                                              refine lv_topl (fun yl143 h9 => ?_)
                                              obtain ⟨z142, ez142, rfl⟩ : ∃ z : Int, z = z137 / 65536 ∧ yl143 = kz_lz z := ⟨_, rfl, h9⟩
                                              refine lv_lstore (lv' := [(10, .long (kz_lz (z142))), (12, .int (nI (k207))), (8, .long (kz_lz (z124))), (6, .long (kz_lz (z121))), (5, .int (nI (k78p))), (3, .long (kz_lz (z8))), (2, .int (nI (k3))), (0, .ref o), (1, .ref t)]) hx hb zd_N_remain_269 hl (by decide) rfl (fun ls hl => ?_)
                                              refine lv_iinc (v := (nI (k207 + 1))) (lv' := [(12, .int (nI (k207 + 1))), (10, .long (kz_lz (z142))), (8, .long (kz_lz (z124))), (6, .long (kz_lz (z121))), (5, .int (nI (k78p))), (3, .long (kz_lz (z8))), (2, .int (nI (k3))), (0, .ref o), (1, .ref t)]) hx hb zd_N_remain_271 hl (k := 1) rfl (nI_1 _) (by decide) rfl (fun ls hl => ?_)
                                              refine lv_goto (tgt := 207) hx hb zd_N_remain_274 (by decide) ?_
                                              have hi9_hlo144 : -8589934592 ≤ z142 := by omega
                                              have hi9_hhi145 : z142 ≤ 1 := by omega
                                              have hi9_hI146 : ((kv_val f141 (k207 + 1) : Nat) : Int) + z142 * (65536 : Int) ^ (k207 + 1) = ((kv_val d20 (k207 + 1) : Nat) : Int) - z124 * ((kv_val (kv_m18 gmm) (k207 + 1) : Nat) : Int) := by rw [ef141, ez142]; exact kv_subStep hI ht9
                                              have hi9_hge147 : ∀ j, k207 + 1 ≤ j → f141 j = d20 j := by intro j hj; rw [ef141, kv_up_ne _ _ (by omega)]; exact hge j (by omega)
                                              exact ih207 (k207 + 1) (z142) f141 _ _ _ (by omega) (by omega) hd_f141 hi9_hlo144 hi9_hhi145 hi9_hI146 hi9_hge147 hdy (lv_sub hl [0, 1, 2, 3, 4, 5, 6, 7, 8] rfl)
                                            · have hc229 : ¬ 16 ≤ k207 := fun h9 => hc229 ((nI_leI (by omega) (by omega)).mpr h9)
                                              refine lv_lload hx hb zd_N_remain_232 (lv_at hl 2 rfl) ?_
                                              refine lv_aload_n hx hb zd_N_remain_234 rfl (lv_at hl 7 rfl) ?_
                                              refine va_get (D := (dC, dI)) (ci := 4) (v := .ref mm) (C := zR_N) (T := zT_N) (N := 26) hx hb hts (fun w h => kz_c (zi_N w h)) hown hK (hro.ob hdy.2.2 (k := 0) rfl) 0 rfl rfl 9 (by decide) (hts _ (kz_c mw_600)) (fun _ h9 => h9) rfl zd_N_remain_235 ?_
                                              refine lv_iload hx hb zd_N_remain_238 (lv_at hl 0 rfl) ?_
                                              refine kz_riald hx hb hK hro hdy.2.2 1 0 rfl rfl (vp_in_nI (by omega) (by omega)) zd_N_remain_240 ?_
                                              refine lv_topi (fun x148 h9 => ?_)
                                              obtain rfl : x148 = nI (gmm k207) := h9.trans (kz_dgl gmm (by omega))
                                              have hbx148 := hd_gmm k207
                                              refine lv_i2l hx hb zd_N_remain_241 (kz_lz_i (n := gmm k207) (by omega)) ?_
                                              refine lv_lmul hx hb zd_N_remain_242 ?_
                                              refine lv_topl (fun yl149 h9 => ?_)
                                              obtain rfl : yl149 = kz_lz (z124 * (((gmm k207 : Nat) : Int))) := h9.trans (kz_lz_mul _ _)
                                              refine lv_goto (tgt := 247) hx hb zd_N_remain_243 (by decide) ?_
                                              refine lv_lsub hx hb zd_N_remain_247 ?_
                                              refine lv_topl (fun yl150 h9 => ?_)
                                              obtain rfl : yl150 = kz_lz ((z130 + (((d131 k207 : Nat) : Int))) - (z124 * (((gmm k207 : Nat) : Int)))) := h9.trans (kz_lz_sub _ _)
                                              refine lv_topl (fun yl152 h9 => ?_)
                                              obtain ⟨z151, ez151, rfl⟩ : ∃ z : Int, z = (z130 + (((d131 k207 : Nat) : Int))) - (z124 * (((gmm k207 : Nat) : Int))) ∧ yl152 = kz_lz z := ⟨_, rfl, h9⟩
                                              refine lv_lstore (lv' := [(10, .long (kz_lz (z151))), (12, .int (nI (k207))), (8, .long (kz_lz (z124))), (6, .long (kz_lz (z121))), (5, .int (nI (k78p))), (3, .long (kz_lz (z8))), (2, .int (nI (k3))), (0, .ref o), (1, .ref t)]) hx hb zd_N_remain_248 hl (by decide) rfl (fun ls hl => ?_)
                                              have hm9 := kv_qm (q := z124) (by omega) hQ1 (hd_gmm k207)
                                              have ht9 : z151 = z130 + ((d20 k207 : Nat) : Int) - z124 * ((kv_m18 gmm k207 : Nat) : Int) := by rw [ez151, ← hge k207 (Nat.le_refl _)]; unfold kv_m18; first | (rw [if_pos (by omega)]; done) | (rw [if_neg (by omega)]; show _ = _ - z124 * 0; omega)
                                              refine lv_aload_n hx hb zd_N_remain_250 rfl (lv_at hl 7 rfl) ?_
                                              refine va_get (D := (dC, dI)) (ci := 4) (v := .ref me) (C := zR_N) (T := zT_N) (N := 26) hx hb hts (fun w h => kz_c (zi_N w h)) hown hK (hro.ob hdy.2.2 (k := 0) rfl) 0 rfl rfl 14 (by decide) (hts _ (kz_c mw_605)) (fun _ h9 => h9) rfl zd_N_remain_251 ?_
                                              refine lv_iload hx hb zd_N_remain_254 (lv_at hl 1 rfl) ?_
                                              refine lv_lload hx hb zd_N_remain_256 (lv_at hl 0 rfl) ?_
                                              refine lv_ldc2 (v := (65535)) hx hb hown (hts _ (kz_c mw_708)) zd_N_remain_258 ?_
                                              refine lv_topl (fun yl153 h9 => ?_)
                                              obtain rfl : yl153 = kz_lz (65535) := h9.trans (kz_lz_c65535)
                                              refine lv_land hx hb zd_N_remain_261 ?_
                                              refine lv_topl (fun yl154 h9 => ?_)
                                              obtain rfl : yl154 = kz_lz (z151 % 65536) := h9.trans (kz_lz_andz _)
                                              refine lv_l2i hx hb zd_N_remain_262 (kz_lz_i16 (z151)) ?_
                                              refine va_iast hx hb hK hdy.1 hdy.2.1 hdy.2.2 0 0 rfl rfl (vp_in_nI (by omega) (by omega)) zd_N_remain_263 (fun H locs hP hD hS => ?_)
                                              have h9 := kz_dgu d131 (k := k207) ((z151 % 65536).toNat) (by omega)
                                              rw [h9] at hP hD
                                              obtain ⟨f155, ef155, hd_f155, hdy⟩ : ∃ f155 : Nat → Nat, f155 = kv_up d131 k207 ((z151 % 65536).toNat) ∧ (∀ j, f155 j < 65536) ∧ kz_dy (dC, dI) vwCl A s.heap H locs [(me, .inl (cI, 18, .inl (kz_dg f155))), (t, .inl (cI, 16, .inl (kz_dg gt)))] := ⟨_, rfl, kv_up_lt hd_d131 (by omega), hP, hD, hS⟩
                                              refine lv_lload hx hb zd_N_remain_264 (lv_at hl 0 rfl) ?_
                                              refine lv_bipush (v := (nI (16))) hx hb zd_N_remain_266 (by decide) ?_
                                              refine lv_lshr hx hb zd_N_remain_268 (kz_lz_shr (z := z151) (by omega) (by omega)) ?_
                                              refine lv_topl (fun yl157 h9 => ?_)
                                              obtain ⟨z156, ez156, rfl⟩ : ∃ z : Int, z = z151 / 65536 ∧ yl157 = kz_lz z := ⟨_, rfl, h9⟩
                                              refine lv_lstore (lv' := [(10, .long (kz_lz (z156))), (12, .int (nI (k207))), (8, .long (kz_lz (z124))), (6, .long (kz_lz (z121))), (5, .int (nI (k78p))), (3, .long (kz_lz (z8))), (2, .int (nI (k3))), (0, .ref o), (1, .ref t)]) hx hb zd_N_remain_269 hl (by decide) rfl (fun ls hl => ?_)
                                              refine lv_iinc (v := (nI (k207 + 1))) (lv' := [(12, .int (nI (k207 + 1))), (10, .long (kz_lz (z156))), (8, .long (kz_lz (z124))), (6, .long (kz_lz (z121))), (5, .int (nI (k78p))), (3, .long (kz_lz (z8))), (2, .int (nI (k3))), (0, .ref o), (1, .ref t)]) hx hb zd_N_remain_271 hl (k := 1) rfl (nI_1 _) (by decide) rfl (fun ls hl => ?_)
                                              refine lv_goto (tgt := 207) hx hb zd_N_remain_274 (by decide) ?_
                                              have hi9_hlo158 : -8589934592 ≤ z156 := by omega
                                              have hi9_hhi159 : z156 ≤ 1 := by omega
                                              have hi9_hI160 : ((kv_val f155 (k207 + 1) : Nat) : Int) + z156 * (65536 : Int) ^ (k207 + 1) = ((kv_val d20 (k207 + 1) : Nat) : Int) - z124 * ((kv_val (kv_m18 gmm) (k207 + 1) : Nat) : Int) := by rw [ef155, ez156]; exact kv_subStep hI ht9
                                              have hi9_hge161 : ∀ j, k207 + 1 ≤ j → f155 j = d20 j := by intro j hj; rw [ef155, kv_up_ne _ _ (by omega)]; exact hge j (by omega)
                                              exact ih207 (k207 + 1) (z156) f155 _ _ _ (by omega) (by omega) hd_f155 hi9_hlo158 hi9_hhi159 hi9_hI160 hi9_hge161 hdy (lv_sub hl [0, 1, 2, 3, 4, 5, 6, 7, 8] rfl)
                                      have hi9_hlo162 : -8589934592 ≤ z128 := by omega
                                      have hi9_hhi163 : z128 ≤ 1 := by omega
                                      have hi9_hI164 : ((kv_val d20 (0) : Nat) : Int) + z128 * (65536 : Int) ^ (0) = ((kv_val d20 (0) : Nat) : Int) - z124 * ((kv_val (kv_m18 gmm) (0) : Nat) : Int) := by rw [ez128]; show (0 : Int) + 0 * _ = 0 - z124 * 0; omega
                                      have hi9_hge165 : ∀ j, 0 ≤ j → d20 j = d20 j := by exact fun _ _ => rfl
                                      exact lp207 (18 - 0 + 1) 0 (z128) d20 _ _ _ (by omega) (by omega) hd_d20 hi9_hlo162 hi9_hhi163 hi9_hI164 hi9_hge165 hdy (lv_sub hl [0, 1, 2, 3, 4, 5, 6, 7, 8] rfl)
                                    · have hc190 : z124 < 1 := (kz_lz_lt (by omega) (by omega) (by omega) (by omega)).mp hc190
                                      refine lv_lconst (v := 1) hx hb zd_N_remain_193 (by decide) ?_
                                      refine lv_topl (fun yl166 h9 => ?_)
                                      obtain rfl : yl166 = kz_lz (1) := h9.trans (kz_lz_c1)
                                      refine lv_goto (tgt := 199) hx hb zd_N_remain_194 (by decide) ?_
                                      refine lv_topl (fun yl168 h9 => ?_)
                                      obtain ⟨z167, ez167, rfl⟩ : ∃ z : Int, z = 1 ∧ yl168 = kz_lz z := ⟨_, rfl, h9⟩
                                      refine lv_lstore (lv' := [(8, .long (kz_lz (z167))), (6, .long (kz_lz (z121))), (5, .int (nI (k78p))), (3, .long (kz_lz (z8))), (2, .int (nI (k3))), (0, .ref o), (1, .ref t)]) hx hb zd_N_remain_199 hl (by decide) rfl (fun ls hl => ?_)
                                      have hQ0 : 1 ≤ z167 := by omega
                                      have hQ1 : z167 < 4294967296 := by omega
                                      have hQ2 : z167.toNat * kv_val (kv_m18 gmm) 18 ≤ kv_val d20 18 := by have h8 : z167.toNat = 1 := (by omega); rw [h8, Nat.one_mul]; exact hless
                                      refine lv_lconst (v := 0) hx hb zd_N_remain_201 (by decide) ?_
                                      refine lv_topl (fun yl169 h9 => ?_)
                                      obtain rfl : yl169 = kz_lz (0) := h9.trans (kz_lz_c0)
                                      refine lv_topl (fun yl171 h9 => ?_)
                                      obtain ⟨z170, ez170, rfl⟩ : ∃ z : Int, z = 0 ∧ yl171 = kz_lz z := ⟨_, rfl, h9⟩
                                      refine lv_lstore (lv' := [(10, .long (kz_lz (z170))), (8, .long (kz_lz (z167))), (6, .long (kz_lz (z121))), (5, .int (nI (k78p))), (3, .long (kz_lz (z8))), (2, .int (nI (k3))), (0, .ref o), (1, .ref t)]) hx hb zd_N_remain_202 hl (by decide) rfl (fun ls hl => ?_)
                                      refine lv_iconst (v := (nI (0))) hx hb zd_N_remain_204 (by decide) ?_
                                      refine lv_istore (lv' := [(12, .int (nI (0))), (10, .long (kz_lz (z170))), (8, .long (kz_lz (z167))), (6, .long (kz_lz (z121))), (5, .int (nI (k78p))), (3, .long (kz_lz (z8))), (2, .int (nI (k3))), (0, .ref o), (1, .ref t)]) hx hb zd_N_remain_205 hl (by decide) rfl (fun ls hl => ?_)
                                      have lp207 : ∀ (n207 k207 : Nat) (z172 : Int) (d173 : Nat → Nat) (H : Heap) (locs : List Loc) (ls : Array Slot), k207 ≤ 18 → 18 - k207 < n207 → (∀ j, d173 j < 65536) → (-8589934592 ≤ z172) → (z172 ≤ 1) → (((kv_val d173 (k207) : Nat) : Int) + z172 * (65536 : Int) ^ (k207) = ((kv_val d20 (k207) : Nat) : Int) - z167 * ((kv_val (kv_m18 gmm) (k207) : Nat) : Int)) → (∀ j, k207 ≤ j → d173 j = d20 j) → kz_dy (dC, dI) vwCl A s.heap H locs [(me, .inl (cI, 18, .inl (kz_dg d173))), (t, .inl (cI, 16, .inl (kz_dg gt)))] → lv_has ls 13 [(12, .int (nI (k207))), (10, .long (kz_lz (z172))), (8, .long (kz_lz (z167))), (6, .long (kz_lz (z121))), (5, .int (nI (k78p))), (3, .long (kz_lz (z8))), (2, .int (nI (k3))), (0, .ref o), (1, .ref t)] → W p l e { frames := 1, cells := 0, slots := 0, locals := 23 } s m ([.ref o, .ref t] : List Value).toArray below meth c H locs 0 0 (MQ below (va_Qv (fun (u : (Nat → Nat) × (Nat → Nat)) => (∀ j, u.1 j < 65536) ∧ (∀ j, u.2 j < 65536) ∧ (kv_val u.2 16 = kv_val gmx 32 % kv_val gmm 16) ∧ True) (kz_B (dC, dI) vwCl A (fun u : (Nat → Nat) × (Nat → Nat) => [(me, .inl (cI, 18, .inl (kz_dg u.1))), (t, .inl (cI, 16, .inl (kz_dg u.2)))])) A) ([.ref o, .ref t] : List Value).toArray s 0 0 A) (F0 m 207 ls []) := by
                                        intro n207
                                        induction n207 with
                                        | zero => intro k207; intros; omega
                                        | succ n207 ih207 =>
                                          intro k207 z172 d173 H locs ls hi207 hn207 hd_d173 hlo hhi hI hge hdy hl
                                          refine lv_iload hx hb zd_N_remain_207 (lv_at hl 0 rfl) ?_
                                          refine lv_bipush (v := (nI (18))) hx hb zd_N_remain_209 (by decide) ?_
                                          refine lv_icmp_ge (tgt := 277) hx hb zd_N_remain_211 (by decide) (fun hc211 => ?_) (fun hc211 => ?_)
                                          · have hc211 : 18 ≤ k207 := (nI_leI (by omega) (by omega)).mp hc211
                                            refine lv_goto (tgt := 127) hx hb zd_N_remain_277 (by decide) ?_
                                            have hi9_hV174 : kv_val d173 18 % kv_val gmm 16 = kv_hiN 32 gmx k78p % kv_val gmm 16 := by have h18 : k207 = 18 := (by omega); subst h18; have h8 := kv_subExact (q := z167.toNat) hd_d173 hd_d20 hQ2 (by have h7 : ((z167.toNat : Nat) : Int) = z167 := (by omega); rw [h7]; exact hI); rw [hm18] at h8; exact kv_takeMod h8 hV
                                            have hms127 : kv_val d173 18 < n127 := by have h18 : k207 = 18 := (by omega); subst h18; have h8 := kv_subEnd (q := z167.toNat) hd_d173 hd_d20 (by omega) hmv hQ2 (by have h7 : ((z167.toNat : Nat) : Int) = z167 := (by omega); rw [h7]; exact hI); omega
                                            exact ih127 d173 _ _ _ hms127 hd_d173 hi9_hV174 hdy (lv_sub hl [4, 5, 6, 7, 8] rfl)
                                          · have hc211 : ¬ 18 ≤ k207 := fun h9 => hc211 ((nI_leI (by omega) (by omega)).mpr h9)
                                            refine lv_lload hx hb zd_N_remain_214 (lv_at hl 1 rfl) ?_
                                            refine lv_aload_n hx hb zd_N_remain_216 rfl (lv_at hl 7 rfl) ?_
                                            refine va_get (D := (dC, dI)) (ci := 4) (v := .ref me) (C := zR_N) (T := zT_N) (N := 26) hx hb hts (fun w h => kz_c (zi_N w h)) hown hK (hro.ob hdy.2.2 (k := 0) rfl) 0 rfl rfl 14 (by decide) (hts _ (kz_c mw_605)) (fun _ h9 => h9) rfl zd_N_remain_217 ?_
                                            refine lv_iload hx hb zd_N_remain_220 (lv_at hl 0 rfl) ?_
                                            refine va_iald hx hb hK hdy.1 0 0 rfl rfl (vp_in_nI (by omega) (by omega)) zd_N_remain_222 ?_
                                            refine lv_topi (fun x175 h9 => ?_)
                                            obtain rfl : x175 = nI (d173 k207) := h9.trans (kz_dgl d173 (by omega))
                                            have hbx175 := hd_d173 k207
                                            refine lv_i2l hx hb zd_N_remain_223 (kz_lz_i (n := d173 k207) (by omega)) ?_
                                            refine lv_ladd hx hb zd_N_remain_224 ?_
                                            refine lv_topl (fun yl176 h9 => ?_)
                                            obtain rfl : yl176 = kz_lz (z172 + (((d173 k207 : Nat) : Int))) := h9.trans (kz_lz_add _ _)
                                            refine lv_iload hx hb zd_N_remain_225 (lv_at hl 0 rfl) ?_
                                            refine lv_bipush (v := (nI (16))) hx hb zd_N_remain_227 (by decide) ?_
                                            refine lv_icmp_ge (tgt := 246) hx hb zd_N_remain_229 (by decide) (fun hc229 => ?_) (fun hc229 => ?_)
                                            · have hc229 : 16 ≤ k207 := (nI_leI (by omega) (by omega)).mp hc229
                                              refine lv_lconst (v := 0) hx hb zd_N_remain_246 (by decide) ?_
                                              refine lv_topl (fun yl177 h9 => ?_)
                                              obtain rfl : yl177 = kz_lz (0) := h9.trans (kz_lz_c0)
                                              refine lv_lsub hx hb zd_N_remain_247 ?_
                                              refine lv_topl (fun yl178 h9 => ?_)
                                              obtain rfl : yl178 = kz_lz ((z172 + (((d173 k207 : Nat) : Int))) - 0) := h9.trans (kz_lz_sub _ _)
                                              refine lv_topl (fun yl180 h9 => ?_)
                                              obtain ⟨z179, ez179, rfl⟩ : ∃ z : Int, z = (z172 + (((d173 k207 : Nat) : Int))) - 0 ∧ yl180 = kz_lz z := ⟨_, rfl, h9⟩
                                              refine lv_lstore (lv' := [(10, .long (kz_lz (z179))), (12, .int (nI (k207))), (8, .long (kz_lz (z167))), (6, .long (kz_lz (z121))), (5, .int (nI (k78p))), (3, .long (kz_lz (z8))), (2, .int (nI (k3))), (0, .ref o), (1, .ref t)]) hx hb zd_N_remain_248 hl (by decide) rfl (fun ls hl => ?_)
                                              have hm9 := kv_qm (q := z167) (by omega) hQ1 (hd_gmm k207)
                                              have ht9 : z179 = z172 + ((d20 k207 : Nat) : Int) - z167 * ((kv_m18 gmm k207 : Nat) : Int) := by rw [ez179, ← hge k207 (Nat.le_refl _)]; unfold kv_m18; first | (rw [if_pos (by omega)]; done) | (rw [if_neg (by omega)]; show _ = _ - z167 * 0; omega)
                                              refine lv_aload_n hx hb zd_N_remain_250 rfl (lv_at hl 7 rfl) ?_
                                              refine va_get (D := (dC, dI)) (ci := 4) (v := .ref me) (C := zR_N) (T := zT_N) (N := 26) hx hb hts (fun w h => kz_c (zi_N w h)) hown hK (hro.ob hdy.2.2 (k := 0) rfl) 0 rfl rfl 14 (by decide) (hts _ (kz_c mw_605)) (fun _ h9 => h9) rfl zd_N_remain_251 ?_
                                              refine lv_iload hx hb zd_N_remain_254 (lv_at hl 1 rfl) ?_
                                              refine lv_lload hx hb zd_N_remain_256 (lv_at hl 0 rfl) ?_
                                              refine lv_ldc2 (v := (65535)) hx hb hown (hts _ (kz_c mw_708)) zd_N_remain_258 ?_
                                              refine lv_topl (fun yl181 h9 => ?_)
                                              obtain rfl : yl181 = kz_lz (65535) := h9.trans (kz_lz_c65535)
                                              refine lv_land hx hb zd_N_remain_261 ?_
                                              refine lv_topl (fun yl182 h9 => ?_)
                                              obtain rfl : yl182 = kz_lz (z179 % 65536) := h9.trans (kz_lz_andz _)
                                              refine lv_l2i hx hb zd_N_remain_262 (kz_lz_i16 (z179)) ?_
                                              refine va_iast hx hb hK hdy.1 hdy.2.1 hdy.2.2 0 0 rfl rfl (vp_in_nI (by omega) (by omega)) zd_N_remain_263 (fun H locs hP hD hS => ?_)
                                              have h9 := kz_dgu d173 (k := k207) ((z179 % 65536).toNat) (by omega)
                                              rw [h9] at hP hD
                                              obtain ⟨f183, ef183, hd_f183, hdy⟩ : ∃ f183 : Nat → Nat, f183 = kv_up d173 k207 ((z179 % 65536).toNat) ∧ (∀ j, f183 j < 65536) ∧ kz_dy (dC, dI) vwCl A s.heap H locs [(me, .inl (cI, 18, .inl (kz_dg f183))), (t, .inl (cI, 16, .inl (kz_dg gt)))] := ⟨_, rfl, kv_up_lt hd_d173 (by omega), hP, hD, hS⟩
                                              refine lv_lload hx hb zd_N_remain_264 (lv_at hl 0 rfl) ?_
                                              refine lv_bipush (v := (nI (16))) hx hb zd_N_remain_266 (by decide) ?_
                                              refine lv_lshr hx hb zd_N_remain_268 (kz_lz_shr (z := z179) (by omega) (by omega)) ?_
                                              refine lv_topl (fun yl185 h9 => ?_)
                                              obtain ⟨z184, ez184, rfl⟩ : ∃ z : Int, z = z179 / 65536 ∧ yl185 = kz_lz z := ⟨_, rfl, h9⟩
                                              refine lv_lstore (lv' := [(10, .long (kz_lz (z184))), (12, .int (nI (k207))), (8, .long (kz_lz (z167))), (6, .long (kz_lz (z121))), (5, .int (nI (k78p))), (3, .long (kz_lz (z8))), (2, .int (nI (k3))), (0, .ref o), (1, .ref t)]) hx hb zd_N_remain_269 hl (by decide) rfl (fun ls hl => ?_)
                                              refine lv_iinc (v := (nI (k207 + 1))) (lv' := [(12, .int (nI (k207 + 1))), (10, .long (kz_lz (z184))), (8, .long (kz_lz (z167))), (6, .long (kz_lz (z121))), (5, .int (nI (k78p))), (3, .long (kz_lz (z8))), (2, .int (nI (k3))), (0, .ref o), (1, .ref t)]) hx hb zd_N_remain_271 hl (k := 1) rfl (nI_1 _) (by decide) rfl (fun ls hl => ?_)
                                              refine lv_goto (tgt := 207) hx hb zd_N_remain_274 (by decide) ?_
                                              have hi9_hlo186 : -8589934592 ≤ z184 := by omega
                                              have hi9_hhi187 : z184 ≤ 1 := by omega
                                              have hi9_hI188 : ((kv_val f183 (k207 + 1) : Nat) : Int) + z184 * (65536 : Int) ^ (k207 + 1) = ((kv_val d20 (k207 + 1) : Nat) : Int) - z167 * ((kv_val (kv_m18 gmm) (k207 + 1) : Nat) : Int) := by rw [ef183, ez184]; exact kv_subStep hI ht9
                                              have hi9_hge189 : ∀ j, k207 + 1 ≤ j → f183 j = d20 j := by intro j hj; rw [ef183, kv_up_ne _ _ (by omega)]; exact hge j (by omega)
                                              exact ih207 (k207 + 1) (z184) f183 _ _ _ (by omega) (by omega) hd_f183 hi9_hlo186 hi9_hhi187 hi9_hI188 hi9_hge189 hdy (lv_sub hl [0, 1, 2, 3, 4, 5, 6, 7, 8] rfl)
                                            · have hc229 : ¬ 16 ≤ k207 := fun h9 => hc229 ((nI_leI (by omega) (by omega)).mpr h9)
                                              refine lv_lload hx hb zd_N_remain_232 (lv_at hl 2 rfl) ?_
                                              refine lv_aload_n hx hb zd_N_remain_234 rfl (lv_at hl 7 rfl) ?_
                                              refine va_get (D := (dC, dI)) (ci := 4) (v := .ref mm) (C := zR_N) (T := zT_N) (N := 26) hx hb hts (fun w h => kz_c (zi_N w h)) hown hK (hro.ob hdy.2.2 (k := 0) rfl) 0 rfl rfl 9 (by decide) (hts _ (kz_c mw_600)) (fun _ h9 => h9) rfl zd_N_remain_235 ?_
                                              refine lv_iload hx hb zd_N_remain_238 (lv_at hl 0 rfl) ?_
                                              refine kz_riald hx hb hK hro hdy.2.2 1 0 rfl rfl (vp_in_nI (by omega) (by omega)) zd_N_remain_240 ?_
                                              refine lv_topi (fun x190 h9 => ?_)
                                              obtain rfl : x190 = nI (gmm k207) := h9.trans (kz_dgl gmm (by omega))
                                              have hbx190 := hd_gmm k207
                                              refine lv_i2l hx hb zd_N_remain_241 (kz_lz_i (n := gmm k207) (by omega)) ?_
                                              refine lv_lmul hx hb zd_N_remain_242 ?_
                                              refine lv_topl (fun yl191 h9 => ?_)
                                              obtain rfl : yl191 = kz_lz (z167 * (((gmm k207 : Nat) : Int))) := h9.trans (kz_lz_mul _ _)
                                              refine lv_goto (tgt := 247) hx hb zd_N_remain_243 (by decide) ?_
                                              refine lv_lsub hx hb zd_N_remain_247 ?_
                                              refine lv_topl (fun yl192 h9 => ?_)
                                              obtain rfl : yl192 = kz_lz ((z172 + (((d173 k207 : Nat) : Int))) - (z167 * (((gmm k207 : Nat) : Int)))) := h9.trans (kz_lz_sub _ _)
                                              refine lv_topl (fun yl194 h9 => ?_)
                                              obtain ⟨z193, ez193, rfl⟩ : ∃ z : Int, z = (z172 + (((d173 k207 : Nat) : Int))) - (z167 * (((gmm k207 : Nat) : Int))) ∧ yl194 = kz_lz z := ⟨_, rfl, h9⟩
                                              refine lv_lstore (lv' := [(10, .long (kz_lz (z193))), (12, .int (nI (k207))), (8, .long (kz_lz (z167))), (6, .long (kz_lz (z121))), (5, .int (nI (k78p))), (3, .long (kz_lz (z8))), (2, .int (nI (k3))), (0, .ref o), (1, .ref t)]) hx hb zd_N_remain_248 hl (by decide) rfl (fun ls hl => ?_)
                                              have hm9 := kv_qm (q := z167) (by omega) hQ1 (hd_gmm k207)
                                              have ht9 : z193 = z172 + ((d20 k207 : Nat) : Int) - z167 * ((kv_m18 gmm k207 : Nat) : Int) := by rw [ez193, ← hge k207 (Nat.le_refl _)]; unfold kv_m18; first | (rw [if_pos (by omega)]; done) | (rw [if_neg (by omega)]; show _ = _ - z167 * 0; omega)
                                              refine lv_aload_n hx hb zd_N_remain_250 rfl (lv_at hl 7 rfl) ?_
                                              refine va_get (D := (dC, dI)) (ci := 4) (v := .ref me) (C := zR_N) (T := zT_N) (N := 26) hx hb hts (fun w h => kz_c (zi_N w h)) hown hK (hro.ob hdy.2.2 (k := 0) rfl) 0 rfl rfl 14 (by decide) (hts _ (kz_c mw_605)) (fun _ h9 => h9) rfl zd_N_remain_251 ?_
                                              refine lv_iload hx hb zd_N_remain_254 (lv_at hl 1 rfl) ?_
                                              refine lv_lload hx hb zd_N_remain_256 (lv_at hl 0 rfl) ?_
                                              refine lv_ldc2 (v := (65535)) hx hb hown (hts _ (kz_c mw_708)) zd_N_remain_258 ?_
                                              refine lv_topl (fun yl195 h9 => ?_)
                                              obtain rfl : yl195 = kz_lz (65535) := h9.trans (kz_lz_c65535)
                                              refine lv_land hx hb zd_N_remain_261 ?_
                                              refine lv_topl (fun yl196 h9 => ?_)
                                              obtain rfl : yl196 = kz_lz (z193 % 65536) := h9.trans (kz_lz_andz _)
                                              refine lv_l2i hx hb zd_N_remain_262 (kz_lz_i16 (z193)) ?_
                                              refine va_iast hx hb hK hdy.1 hdy.2.1 hdy.2.2 0 0 rfl rfl (vp_in_nI (by omega) (by omega)) zd_N_remain_263 (fun H locs hP hD hS => ?_)
                                              have h9 := kz_dgu d173 (k := k207) ((z193 % 65536).toNat) (by omega)
                                              rw [h9] at hP hD
                                              obtain ⟨f197, ef197, hd_f197, hdy⟩ : ∃ f197 : Nat → Nat, f197 = kv_up d173 k207 ((z193 % 65536).toNat) ∧ (∀ j, f197 j < 65536) ∧ kz_dy (dC, dI) vwCl A s.heap H locs [(me, .inl (cI, 18, .inl (kz_dg f197))), (t, .inl (cI, 16, .inl (kz_dg gt)))] := ⟨_, rfl, kv_up_lt hd_d173 (by omega), hP, hD, hS⟩
                                              refine lv_lload hx hb zd_N_remain_264 (lv_at hl 0 rfl) ?_
                                              refine lv_bipush (v := (nI (16))) hx hb zd_N_remain_266 (by decide) ?_
                                              refine lv_lshr hx hb zd_N_remain_268 (kz_lz_shr (z := z193) (by omega) (by omega)) ?_
                                              refine lv_topl (fun yl199 h9 => ?_)
                                              obtain ⟨z198, ez198, rfl⟩ : ∃ z : Int, z = z193 / 65536 ∧ yl199 = kz_lz z := ⟨_, rfl, h9⟩
                                              refine lv_lstore (lv' := [(10, .long (kz_lz (z198))), (12, .int (nI (k207))), (8, .long (kz_lz (z167))), (6, .long (kz_lz (z121))), (5, .int (nI (k78p))), (3, .long (kz_lz (z8))), (2, .int (nI (k3))), (0, .ref o), (1, .ref t)]) hx hb zd_N_remain_269 hl (by decide) rfl (fun ls hl => ?_)
                                              refine lv_iinc (v := (nI (k207 + 1))) (lv' := [(12, .int (nI (k207 + 1))), (10, .long (kz_lz (z198))), (8, .long (kz_lz (z167))), (6, .long (kz_lz (z121))), (5, .int (nI (k78p))), (3, .long (kz_lz (z8))), (2, .int (nI (k3))), (0, .ref o), (1, .ref t)]) hx hb zd_N_remain_271 hl (k := 1) rfl (nI_1 _) (by decide) rfl (fun ls hl => ?_)
                                              refine lv_goto (tgt := 207) hx hb zd_N_remain_274 (by decide) ?_
                                              have hi9_hlo200 : -8589934592 ≤ z198 := by omega
                                              have hi9_hhi201 : z198 ≤ 1 := by omega
                                              have hi9_hI202 : ((kv_val f197 (k207 + 1) : Nat) : Int) + z198 * (65536 : Int) ^ (k207 + 1) = ((kv_val d20 (k207 + 1) : Nat) : Int) - z167 * ((kv_val (kv_m18 gmm) (k207 + 1) : Nat) : Int) := by rw [ef197, ez198]; exact kv_subStep hI ht9
                                              have hi9_hge203 : ∀ j, k207 + 1 ≤ j → f197 j = d20 j := by intro j hj; rw [ef197, kv_up_ne _ _ (by omega)]; exact hge j (by omega)
                                              exact ih207 (k207 + 1) (z198) f197 _ _ _ (by omega) (by omega) hd_f197 hi9_hlo200 hi9_hhi201 hi9_hI202 hi9_hge203 hdy (lv_sub hl [0, 1, 2, 3, 4, 5, 6, 7, 8] rfl)
                                      have hi9_hlo204 : -8589934592 ≤ z170 := by omega
                                      have hi9_hhi205 : z170 ≤ 1 := by omega
                                      have hi9_hI206 : ((kv_val d20 (0) : Nat) : Int) + z170 * (65536 : Int) ^ (0) = ((kv_val d20 (0) : Nat) : Int) - z167 * ((kv_val (kv_m18 gmm) (0) : Nat) : Int) := by rw [ez170]; show (0 : Int) + 0 * _ = 0 - z167 * 0; omega
                                      have hi9_hge207 : ∀ j, 0 ≤ j → d20 j = d20 j := by exact fun _ _ => rfl
                                      exact lp207 (18 - 0 + 1) 0 (z170) d20 _ _ _ (by omega) (by omega) hd_d20 hi9_hlo204 hi9_hhi205 hi9_hI206 hi9_hge207 hdy (lv_sub hl [0, 1, 2, 3, 4, 5, 6, 7, 8] rfl)
                            have hi9_hV208 : kv_val f19 18 % kv_val gmm 16 = kv_hiN 32 gmx k78p % kv_val gmm 16 := by rw [ef19]; exact kv_shift (by omega) rfl hR hMv hMl (fun j a b => hsh j (by omega) b)
                            exact lp127 (kv_val f19 18 + 1) f19 _ _ _ (Nat.lt_succ_self _) hd_f19 hi9_hV208 hdy (lv_sub hl [1, 2, 3, 4, 5] rfl)
                          · have hc89 : ¬ k87 ≤ 0 := fun h9 => hc89 (by have h8 := (nI_leI (by omega) (by omega)).mpr h9; rw [nI_0] at h8; exact h8)
                            refine lv_aload_n hx hb zd_N_remain_92 rfl (lv_at hl 4 rfl) ?_
                            refine va_get (D := (dC, dI)) (ci := 4) (v := .ref me) (C := zR_N) (T := zT_N) (N := 26) hx hb hts (fun w h => kz_c (zi_N w h)) hown hK (hro.ob hdy.2.2 (k := 0) rfl) 0 rfl rfl 14 (by decide) (hts _ (kz_c mw_605)) (fun _ h9 => h9) rfl zd_N_remain_93 ?_
                            refine lv_iload hx hb zd_N_remain_96 (lv_at hl 0 rfl) ?_
                            refine lv_aload_n hx hb zd_N_remain_98 rfl (lv_at hl 4 rfl) ?_
                            refine va_get (D := (dC, dI)) (ci := 4) (v := .ref me) (C := zR_N) (T := zT_N) (N := 26) hx hb hts (fun w h => kz_c (zi_N w h)) hown hK (hro.ob hdy.2.2 (k := 0) rfl) 0 rfl rfl 14 (by decide) (hts _ (kz_c mw_605)) (fun _ h9 => h9) rfl zd_N_remain_99 ?_
                            refine lv_iload hx hb zd_N_remain_102 (lv_at hl 0 rfl) ?_
                            refine lv_iconst (v := (nI (1))) hx hb zd_N_remain_104 (by decide) ?_
                            refine kz_isub hx hb zd_N_remain_105 (pk_sub (by omega)) ?_
                            refine va_iald hx hb hK hdy.1 0 0 rfl rfl (vp_in_nI (by omega) (by omega)) zd_N_remain_106 ?_
                            refine lv_topi (fun x209 h9 => ?_)
                            obtain rfl : x209 = nI (d17 (k87 - 1)) := h9.trans (kz_dgl d17 (by omega))
                            have hbx209 := hd_d17 (k87 - 1)
                            refine va_iast hx hb hK hdy.1 hdy.2.1 hdy.2.2 0 0 rfl rfl (vp_in_nI (by omega) (by omega)) zd_N_remain_107 (fun H locs hP hD hS => ?_)
                            have h9 := kz_dgu d17 (k := k87) (d17 (k87 - 1)) (by omega)
                            rw [h9] at hP hD
                            obtain ⟨f210, ef210, hd_f210, hdy⟩ : ∃ f210 : Nat → Nat, f210 = kv_up d17 k87 (d17 (k87 - 1)) ∧ (∀ j, f210 j < 65536) ∧ kz_dy (dC, dI) vwCl A s.heap H locs [(me, .inl (cI, 18, .inl (kz_dg f210))), (t, .inl (cI, 16, .inl (kz_dg gt)))] := ⟨_, rfl, kv_up_lt hd_d17 (by omega), hP, hD, hS⟩
                            refine lv_iinc (v := (nI (k87 - 1))) (lv' := [(6, .int (nI (k87 - 1))), (5, .int (nI (k78p))), (3, .long (kz_lz (z8))), (2, .int (nI (k3))), (0, .ref o), (1, .ref t)]) hx hb zd_N_remain_108 hl (k := 0) rfl (kz_dec (by omega)) (by decide) rfl (fun ls hl => ?_)
                            refine lv_goto (tgt := 87) hx hb zd_N_remain_111 (by decide) ?_
                            have hi9_hsh211 : ∀ j, k87 - 1 < j → j < 18 → f210 j = d11 (j - 1) := by intro j a b; rw [ef210]; rcases (by omega : j = k87 ∨ k87 < j) with h | h; (rw [h, kv_up_eq]; exact hkp (k87 - 1) (by omega)); (rw [kv_up_ne _ _ (by omega)]; exact hsh j h b)
                            have hi9_hkp212 : ∀ j, j ≤ k87 - 1 → f210 j = d11 j := by intro j hj; rw [ef210, kv_up_ne _ _ (by omega)]; exact hkp j (by omega)
                            exact ih87 (k87 - 1) f210 _ _ _ (by omega) (by omega) hd_f210 hi9_hsh211 hi9_hkp212 hdy (lv_sub hl [0, 1, 2, 3, 4, 5] rfl)
                      have hi9_hsh213 : ∀ j, 17 < j → j < 18 → d11 j = d11 (j - 1) := by intro j a b; omega
                      have hi9_hkp214 : ∀ j, j ≤ 17 → d11 j = d11 j := by exact fun _ _ => rfl
                      exact lp87 (17 + 1) 17 d11 _ _ _ (by omega) (by omega) hd_d11 hi9_hsh213 hi9_hkp214 hdy (lv_sub hl [0, 1, 2, 3, 4, 5] rfl)
                have hi9_hR215 : kv_val d10 18 = kv_hiN 32 gmx (32) % kv_val gmm 16 := by exact kv_rest0 (kv_hiN_top 32 gmx) (fun j hj => hz0 j (by omega))
                exact lp78 (32 + 1) 32 d10 _ _ _ (by omega) (by omega) hd_d10 hi9_hR215 hdy (lv_sub hl [0, 1, 2, 3, 4] rfl)
              · have hc57 : ¬ 18 ≤ k53 := fun h9 => hc57 ((nI_leI (by omega) (by omega)).mpr h9)
                refine lv_aload_n hx hb zd_N_remain_60 rfl (lv_at hl 3 rfl) ?_
                refine va_get (D := (dC, dI)) (ci := 4) (v := .ref me) (C := zR_N) (T := zT_N) (N := 26) hx hb hts (fun w h => kz_c (zi_N w h)) hown hK (hro.ob hdy.2.2 (k := 0) rfl) 0 rfl rfl 14 (by decide) (hts _ (kz_c mw_605)) (fun _ h9 => h9) rfl zd_N_remain_61 ?_
                refine lv_iload hx hb zd_N_remain_64 (lv_at hl 0 rfl) ?_
                refine lv_iconst (v := (nI (0))) hx hb zd_N_remain_66 (by decide) ?_
                refine va_iast hx hb hK hdy.1 hdy.2.1 hdy.2.2 0 0 rfl rfl (vp_in_nI (by omega) (by omega)) zd_N_remain_67 (fun H locs hP hD hS => ?_)
                have h9 := kz_dgu d10 (k := k53) 0 (by omega)
                rw [h9] at hP hD
                obtain ⟨f216, ef216, hd_f216, hdy⟩ : ∃ f216 : Nat → Nat, f216 = kv_up d10 k53 0 ∧ (∀ j, f216 j < 65536) ∧ kz_dy (dC, dI) vwCl A s.heap H locs [(me, .inl (cI, 18, .inl (kz_dg f216))), (t, .inl (cI, 16, .inl (kz_dg gt)))] := ⟨_, rfl, kv_up_lt hd_d10 (by omega), hP, hD, hS⟩
                refine lv_iinc (v := (nI (k53 + 1))) (lv' := [(5, .int (nI (k53 + 1))), (3, .long (kz_lz (z8))), (2, .int (nI (k3))), (0, .ref o), (1, .ref t)]) hx hb zd_N_remain_68 hl (k := 0) rfl (nI_1 _) (by decide) rfl (fun ls hl => ?_)
                refine lv_goto (tgt := 53) hx hb zd_N_remain_71 (by decide) ?_
                have hi9_hz0217 : ∀ j, j < k53 + 1 → f216 j = 0 := by rw [ef216]; exact kv_fill (F := fun _ => 0) hz0 rfl
                exact ih53 (k53 + 1) f216 _ _ _ (by omega) (by omega) hd_f216 hi9_hz0217 hdy (lv_sub hl [0, 1, 2, 3, 4] rfl)
          have hi9_hz0218 : ∀ j, j < 0 → gme j = 0 := by intro j hj; omega
          exact lp53 (18 - 0 + 1) 0 gme _ _ _ (by omega) (by omega) hd_gme hi9_hz0218 hdy (lv_sub hl [0, 1, 2, 3, 4] rfl)
        · have hc30 : ¬ k3 ≤ 0 := fun h9 => hc30 (by have h8 := (nI_leI (by omega) (by omega)).mpr h9; rw [nI_0] at h8; exact h8)
          refine lv_aload_n hx hb zd_N_remain_33 rfl (lv_at hl 1 rfl) ?_
          refine va_get (D := (dC, dI)) (ci := 4) (v := .ref mm) (C := zR_N) (T := zT_N) (N := 26) hx hb hts (fun w h => kz_c (zi_N w h)) hown hK (hro.ob hdy.2.2 (k := 0) rfl) 0 rfl rfl 9 (by decide) (hts _ (kz_c mw_600)) (fun _ h9 => h9) rfl zd_N_remain_34 ?_
          refine lv_iload_n hx hb zd_N_remain_37 rfl (lv_at hl 0 rfl) ?_
          refine lv_iconst (v := (nI (1))) hx hb zd_N_remain_38 (by decide) ?_
          refine kz_isub hx hb zd_N_remain_39 (pk_sub (by omega)) ?_
          refine kz_riald hx hb hK hro hdy.2.2 1 0 rfl rfl (vp_in_nI (by omega) (by omega)) zd_N_remain_40 ?_
          refine lv_topi (fun x219 h9 => ?_)
          obtain rfl : x219 = nI (gmm (k3 - 1)) := h9.trans (kz_dgl gmm (by omega))
          have hbx219 := hd_gmm (k3 - 1)
          refine lv_goto (tgt := 45) hx hb zd_N_remain_41 (by decide) ?_
          refine lv_i2l hx hb zd_N_remain_45 (kz_lz_i (n := gmm (k3 - 1)) (by omega)) ?_
          refine lv_ladd hx hb zd_N_remain_46 ?_
          refine lv_topl (fun yl220 h9 => ?_)
          obtain rfl : yl220 = kz_lz ((65536 * (((gmm k3 : Nat) : Int))) + (((gmm (k3 - 1) : Nat) : Int))) := h9.trans (kz_lz_add _ _)
          refine lv_lconst (v := 1) hx hb zd_N_remain_47 (by decide) ?_
          refine lv_topl (fun yl221 h9 => ?_)
          obtain rfl : yl221 = kz_lz (1) := h9.trans (kz_lz_c1)
          refine lv_ladd hx hb zd_N_remain_48 ?_
          refine lv_topl (fun yl222 h9 => ?_)
          obtain rfl : yl222 = kz_lz (((65536 * (((gmm k3 : Nat) : Int))) + (((gmm (k3 - 1) : Nat) : Int))) + 1) := h9.trans (kz_lz_add _ _)
          refine lv_topl (fun yl224 h9 => ?_)
          obtain ⟨z223, ez223, rfl⟩ : ∃ z : Int, z = ((65536 * (((gmm k3 : Nat) : Int))) + (((gmm (k3 - 1) : Nat) : Int))) + 1 ∧ yl224 = kz_lz z := ⟨_, rfl, h9⟩
          refine lv_lstore_n (lv' := [(3, .long (kz_lz (z223))), (2, .int (nI (k3))), (0, .ref o), (1, .ref t)]) hx hb zd_N_remain_49 rfl hl (by decide) rfl (fun ls hl => ?_)
          refine lv_iconst (v := (nI (0))) hx hb zd_N_remain_50 (by decide) ?_
          refine lv_istore (lv' := [(5, .int (nI (0))), (3, .long (kz_lz (z223))), (2, .int (nI (k3))), (0, .ref o), (1, .ref t)]) hx hb zd_N_remain_51 hl (by decide) rfl (fun ls hl => ?_)
          have lp53 : ∀ (n53 k53 : Nat) (d225 : Nat → Nat) (H : Heap) (locs : List Loc) (ls : Array Slot), k53 ≤ 18 → 18 - k53 < n53 → (∀ j, d225 j < 65536) → (∀ j, j < k53 → d225 j = 0) → kz_dy (dC, dI) vwCl A s.heap H locs [(me, .inl (cI, 18, .inl (kz_dg d225))), (t, .inl (cI, 16, .inl (kz_dg gt)))] → lv_has ls 13 [(5, .int (nI (k53))), (3, .long (kz_lz (z223))), (2, .int (nI (k3))), (0, .ref o), (1, .ref t)] → W p l e { frames := 1, cells := 0, slots := 0, locals := 23 } s m ([.ref o, .ref t] : List Value).toArray below meth c H locs 0 0 (MQ below (va_Qv (fun (u : (Nat → Nat) × (Nat → Nat)) => (∀ j, u.1 j < 65536) ∧ (∀ j, u.2 j < 65536) ∧ (kv_val u.2 16 = kv_val gmx 32 % kv_val gmm 16) ∧ True) (kz_B (dC, dI) vwCl A (fun u : (Nat → Nat) × (Nat → Nat) => [(me, .inl (cI, 18, .inl (kz_dg u.1))), (t, .inl (cI, 16, .inl (kz_dg u.2)))])) A) ([.ref o, .ref t] : List Value).toArray s 0 0 A) (F0 m 53 ls []) := by
            intro n53
            induction n53 with
            | zero => intro k53; intros; omega
            | succ n53 ih53 =>
              intro k53 d225 H locs ls hi53 hn53 hd_d225 hz0 hdy hl
              refine lv_iload hx hb zd_N_remain_53 (lv_at hl 0 rfl) ?_
              refine lv_bipush (v := (nI (18))) hx hb zd_N_remain_55 (by decide) ?_
              refine lv_icmp_ge (tgt := 74) hx hb zd_N_remain_57 (by decide) (fun hc57 => ?_) (fun hc57 => ?_)
              · have hc57 : 18 ≤ k53 := (nI_leI (by omega) (by omega)).mp hc57
                refine lv_bipush (v := (nI (31))) hx hb zd_N_remain_74 (by decide) ?_
                refine lv_istore (lv' := [(5, .int (nI (31))), (3, .long (kz_lz (z223))), (2, .int (nI (k3))), (0, .ref o), (1, .ref t)]) hx hb zd_N_remain_76 hl (by decide) rfl (fun ls hl => ?_)
                have lp78 : ∀ (n78 k78 : Nat) (d226 : Nat → Nat) (H : Heap) (locs : List Loc) (ls : Array Slot), k78 ≤ 32 → k78 < n78 → (∀ j, d226 j < 65536) → (kv_val d226 18 = kv_hiN 32 gmx (k78) % kv_val gmm 16) → kz_dy (dC, dI) vwCl A s.heap H locs [(me, .inl (cI, 18, .inl (kz_dg d226))), (t, .inl (cI, 16, .inl (kz_dg gt)))] → lv_has ls 13 [(5, .int (nI (k78) - 1)), (3, .long (kz_lz (z223))), (2, .int (nI (k3))), (0, .ref o), (1, .ref t)] → W p l e { frames := 1, cells := 0, slots := 0, locals := 23 } s m ([.ref o, .ref t] : List Value).toArray below meth c H locs 0 0 (MQ below (va_Qv (fun (u : (Nat → Nat) × (Nat → Nat)) => (∀ j, u.1 j < 65536) ∧ (∀ j, u.2 j < 65536) ∧ (kv_val u.2 16 = kv_val gmx 32 % kv_val gmm 16) ∧ True) (kz_B (dC, dI) vwCl A (fun u : (Nat → Nat) × (Nat → Nat) => [(me, .inl (cI, 18, .inl (kz_dg u.1))), (t, .inl (cI, 16, .inl (kz_dg u.2)))])) A) ([.ref o, .ref t] : List Value).toArray s 0 0 A) (F0 m 78 ls []) := by
                  intro n78
                  induction n78 with
                  | zero => intro k78 d226 H locs ls hi78 hn78; exact absurd hn78 (Nat.not_lt_zero _)
                  | succ n78 ih78 =>
                    intro k78 d226 H locs ls hi78 hn78 hd_d226 hR hdy hl
                    refine lv_iload hx hb zd_N_remain_78 (lv_at hl 0 rfl) ?_
                    refine lv_if_lt (tgt := 286) hx hb zd_N_remain_80 (by decide) (fun hc80 => ?_) (fun hc80 => ?_)
                    · have hc80 : k78 = 0 := (kz_neg (by omega)).mp hc80
                      rw [hc80] at hR
                      refine lv_iconst (v := (nI (0))) hx hb zd_N_remain_286 (by decide) ?_
                      refine lv_istore (lv' := [(5, .int (nI (0))), (3, .long (kz_lz (z223))), (2, .int (nI (k3))), (0, .ref o), (1, .ref t)]) hx hb zd_N_remain_287 hl (by decide) rfl (fun ls hl => ?_)
                      have lp289 : ∀ (n289 k289 : Nat) (d227 : Nat → Nat) (H : Heap) (locs : List Loc) (ls : Array Slot), k289 ≤ 16 → 16 - k289 < n289 → (∀ j, d227 j < 65536) → (∀ j, j < k289 → d227 j = d226 j) → kz_dy (dC, dI) vwCl A s.heap H locs [(me, .inl (cI, 18, .inl (kz_dg d226))), (t, .inl (cI, 16, .inl (kz_dg d227)))] → lv_has ls 13 [(5, .int (nI (k289))), (3, .long (kz_lz (z223))), (2, .int (nI (k3))), (0, .ref o), (1, .ref t)] → W p l e { frames := 1, cells := 0, slots := 0, locals := 23 } s m ([.ref o, .ref t] : List Value).toArray below meth c H locs 0 0 (MQ below (va_Qv (fun (u : (Nat → Nat) × (Nat → Nat)) => (∀ j, u.1 j < 65536) ∧ (∀ j, u.2 j < 65536) ∧ (kv_val u.2 16 = kv_val gmx 32 % kv_val gmm 16) ∧ True) (kz_B (dC, dI) vwCl A (fun u : (Nat → Nat) × (Nat → Nat) => [(me, .inl (cI, 18, .inl (kz_dg u.1))), (t, .inl (cI, 16, .inl (kz_dg u.2)))])) A) ([.ref o, .ref t] : List Value).toArray s 0 0 A) (F0 m 289 ls []) := by
                        intro n289
                        induction n289 with
                        | zero => intro k289; intros; omega
                        | succ n289 ih289 =>
                          intro k289 d227 H locs ls hi289 hn289 hd_d227 hcp hdy hl
                          refine lv_iload hx hb zd_N_remain_289 (lv_at hl 0 rfl) ?_
                          refine lv_bipush (v := (nI (16))) hx hb zd_N_remain_291 (by decide) ?_
                          refine lv_icmp_ge (tgt := 313) hx hb zd_N_remain_293 (by decide) (fun hc293 => ?_) (fun hc293 => ?_)
                          · have hc293 : 16 ≤ k289 := (nI_leI (by omega) (by omega)).mp hc293
                            exact kz_vret F (d226, d227) hdy (⟨hd_d226, hd_d227, by exact kv_remEnd hMv hMl hR (fun j hj => hcp j (by omega)), trivial⟩) zd_N_remain_313
                          · have hc293 : ¬ 16 ≤ k289 := fun h9 => hc293 ((nI_leI (by omega) (by omega)).mpr h9)
                            refine lv_aload_n hx hb zd_N_remain_296 rfl (lv_at hl 4 rfl) ?_
                            refine lv_iload hx hb zd_N_remain_297 (lv_at hl 0 rfl) ?_
                            refine lv_aload_n hx hb zd_N_remain_299 rfl (lv_at hl 3 rfl) ?_
                            refine va_get (D := (dC, dI)) (ci := 4) (v := .ref me) (C := zR_N) (T := zT_N) (N := 26) hx hb hts (fun w h => kz_c (zi_N w h)) hown hK (hro.ob hdy.2.2 (k := 0) rfl) 0 rfl rfl 14 (by decide) (hts _ (kz_c mw_605)) (fun _ h9 => h9) rfl zd_N_remain_300 ?_
                            refine lv_iload hx hb zd_N_remain_303 (lv_at hl 0 rfl) ?_
                            refine va_iald hx hb hK hdy.1 0 0 rfl rfl (vp_in_nI (by omega) (by omega)) zd_N_remain_305 ?_
                            refine lv_topi (fun x228 h9 => ?_)
                            obtain rfl : x228 = nI (d226 k289) := h9.trans (kz_dgl d226 (by omega))
                            have hbx228 := hd_d226 k289
                            refine va_iast hx hb hK hdy.1 hdy.2.1 hdy.2.2 1 0 rfl rfl (vp_in_nI (by omega) (by omega)) zd_N_remain_306 (fun H locs hP hD hS => ?_)
                            have h9 := kz_dgu d227 (k := k289) (d226 k289) (by omega)
                            rw [h9] at hP hD
                            obtain ⟨f229, ef229, hd_f229, hdy⟩ : ∃ f229 : Nat → Nat, f229 = kv_up d227 k289 (d226 k289) ∧ (∀ j, f229 j < 65536) ∧ kz_dy (dC, dI) vwCl A s.heap H locs [(me, .inl (cI, 18, .inl (kz_dg d226))), (t, .inl (cI, 16, .inl (kz_dg f229)))] := ⟨_, rfl, kv_up_lt hd_d227 (by omega), hP, hD, hS⟩
                            refine lv_iinc (v := (nI (k289 + 1))) (lv' := [(5, .int (nI (k289 + 1))), (3, .long (kz_lz (z223))), (2, .int (nI (k3))), (0, .ref o), (1, .ref t)]) hx hb zd_N_remain_307 hl (k := 0) rfl (nI_1 _) (by decide) rfl (fun ls hl => ?_)
                            refine lv_goto (tgt := 289) hx hb zd_N_remain_310 (by decide) ?_
                            have hi9_hcp230 : ∀ j, j < k289 + 1 → f229 j = d226 j := by rw [ef229]; exact kv_fill hcp rfl
                            exact ih289 (k289 + 1) f229 _ _ _ (by omega) (by omega) hd_f229 hi9_hcp230 hdy (lv_sub hl [0, 1, 2, 3, 4] rfl)
                      have hi9_hcp231 : ∀ j, j < 0 → gt j = d226 j := by intro j hj; omega
                      exact lp289 (16 - 0 + 1) 0 gt _ _ _ (by omega) (by omega) hd_gt hi9_hcp231 hdy (lv_sub hl [0, 1, 2, 3, 4] rfl)
                    · have hc80 : ¬ k78 = 0 := fun h9 => hc80 ((kz_neg (by omega)).mpr h9)
                      obtain ⟨k78p, rfl⟩ : ∃ j, k78 = j + 1 := ⟨k78 - 1, by omega⟩
                      rw [nI_pred] at hl
                      refine lv_bipush (v := (nI (17))) hx hb zd_N_remain_83 (by decide) ?_
                      refine lv_istore (lv' := [(6, .int (nI (17))), (5, .int (nI (k78p))), (3, .long (kz_lz (z223))), (2, .int (nI (k3))), (0, .ref o), (1, .ref t)]) hx hb zd_N_remain_85 hl (by decide) rfl (fun ls hl => ?_)
                      have lp87 : ∀ (n87 k87 : Nat) (d232 : Nat → Nat) (H : Heap) (locs : List Loc) (ls : Array Slot), k87 ≤ 17 → k87 < n87 → (∀ j, d232 j < 65536) → (∀ j, k87 < j → j < 18 → d232 j = d226 (j - 1)) → (∀ j, j ≤ k87 → d232 j = d226 j) → kz_dy (dC, dI) vwCl A s.heap H locs [(me, .inl (cI, 18, .inl (kz_dg d232))), (t, .inl (cI, 16, .inl (kz_dg gt)))] → lv_has ls 13 [(6, .int (nI (k87))), (5, .int (nI (k78p))), (3, .long (kz_lz (z223))), (2, .int (nI (k3))), (0, .ref o), (1, .ref t)] → W p l e { frames := 1, cells := 0, slots := 0, locals := 23 } s m ([.ref o, .ref t] : List Value).toArray below meth c H locs 0 0 (MQ below (va_Qv (fun (u : (Nat → Nat) × (Nat → Nat)) => (∀ j, u.1 j < 65536) ∧ (∀ j, u.2 j < 65536) ∧ (kv_val u.2 16 = kv_val gmx 32 % kv_val gmm 16) ∧ True) (kz_B (dC, dI) vwCl A (fun u : (Nat → Nat) × (Nat → Nat) => [(me, .inl (cI, 18, .inl (kz_dg u.1))), (t, .inl (cI, 16, .inl (kz_dg u.2)))])) A) ([.ref o, .ref t] : List Value).toArray s 0 0 A) (F0 m 87 ls []) := by
                        intro n87
                        induction n87 with
                        | zero => intro k87 d232 H locs ls hi87 hn87; exact absurd hn87 (Nat.not_lt_zero _)
                        | succ n87 ih87 =>
                          intro k87 d232 H locs ls hi87 hn87 hd_d232 hsh hkp hdy hl
                          refine lv_iload hx hb zd_N_remain_87 (lv_at hl 0 rfl) ?_
                          refine lv_if_le (tgt := 114) hx hb zd_N_remain_89 (by decide) (fun hc89 => ?_) (fun hc89 => ?_)
                          · have hc89 : k87 ≤ 0 := (nI_leI (by omega) (by omega)).mp (by rw [nI_0]; exact hc89)
                            refine lv_aload_n hx hb zd_N_remain_114 rfl (lv_at hl 4 rfl) ?_
                            refine va_get (D := (dC, dI)) (ci := 4) (v := .ref me) (C := zR_N) (T := zT_N) (N := 26) hx hb hts (fun w h => kz_c (zi_N w h)) hown hK (hro.ob hdy.2.2 (k := 0) rfl) 0 rfl rfl 14 (by decide) (hts _ (kz_c mw_605)) (fun _ h9 => h9) rfl zd_N_remain_115 ?_
                            refine lv_iconst (v := (nI (0))) hx hb zd_N_remain_118 (by decide) ?_
                            refine lv_aload_n hx hb zd_N_remain_119 rfl (lv_at hl 4 rfl) ?_
                            refine va_get (D := (dC, dI)) (ci := 4) (v := .ref mx) (C := zR_N) (T := zT_N) (N := 26) hx hb hts (fun w h => kz_c (zi_N w h)) hown hK (hro.ob hdy.2.2 (k := 0) rfl) 0 rfl rfl 13 (by decide) (hts _ (kz_c mw_604)) (fun _ h9 => h9) rfl zd_N_remain_120 ?_
                            refine lv_iload hx hb zd_N_remain_123 (lv_at hl 1 rfl) ?_
                            refine kz_riald hx hb hK hro hdy.2.2 2 0 rfl rfl (vp_in_nI (by omega) (by omega)) zd_N_remain_125 ?_
                            refine lv_topi (fun x233 h9 => ?_)
                            obtain rfl : x233 = nI (gmx k78p) := h9.trans (kz_dgl gmx (by omega))
                            have hbx233 := hd_gmx k78p
                            refine va_iast hx hb hK hdy.1 hdy.2.1 hdy.2.2 0 0 rfl rfl (vp_in_nI (by omega) (by omega)) zd_N_remain_126 (fun H locs hP hD hS => ?_)
                            have h9 := kz_dgu d232 (k := 0) (gmx k78p) (by omega)
                            rw [h9] at hP hD
                            obtain ⟨f234, ef234, hd_f234, hdy⟩ : ∃ f234 : Nat → Nat, f234 = kv_up d232 0 (gmx k78p) ∧ (∀ j, f234 j < 65536) ∧ kz_dy (dC, dI) vwCl A s.heap H locs [(me, .inl (cI, 18, .inl (kz_dg f234))), (t, .inl (cI, 16, .inl (kz_dg gt)))] := ⟨_, rfl, kv_up_lt hd_d232 (by omega), hP, hD, hS⟩
                            have lp127 : ∀ (n127 : Nat) (d235 : Nat → Nat) (H : Heap) (locs : List Loc) (ls : Array Slot), kv_val d235 18 < n127 → (∀ j, d235 j < 65536) → (kv_val d235 18 % kv_val gmm 16 = kv_hiN 32 gmx k78p % kv_val gmm 16) → kz_dy (dC, dI) vwCl A s.heap H locs [(me, .inl (cI, 18, .inl (kz_dg d235))), (t, .inl (cI, 16, .inl (kz_dg gt)))] → lv_has ls 13 [(5, .int (nI (k78p))), (3, .long (kz_lz (z223))), (2, .int (nI (k3))), (0, .ref o), (1, .ref t)] → W p l e { frames := 1, cells := 0, slots := 0, locals := 23 } s m ([.ref o, .ref t] : List Value).toArray below meth c H locs 0 0 (MQ below (va_Qv (fun (u : (Nat → Nat) × (Nat → Nat)) => (∀ j, u.1 j < 65536) ∧ (∀ j, u.2 j < 65536) ∧ (kv_val u.2 16 = kv_val gmx 32 % kv_val gmm 16) ∧ True) (kz_B (dC, dI) vwCl A (fun u : (Nat → Nat) × (Nat → Nat) => [(me, .inl (cI, 18, .inl (kz_dg u.1))), (t, .inl (cI, 16, .inl (kz_dg u.2)))])) A) ([.ref o, .ref t] : List Value).toArray s 0 0 A) (F0 m 127 ls []) := by
                              intro n127
                              induction n127 with
                              | zero => intro d235 H locs ls hn127; exact absurd hn127 (Nat.not_lt_zero _)
                              | succ n127 ih127 =>
                                intro d235 H locs ls hn127 hd_d235 hV hdy hl
                                refine lv_aload_n hx hb zd_N_remain_127 rfl (lv_at hl 3 rfl) ?_
                                refine lv_iload_n hx hb zd_N_remain_128 rfl (lv_at hl 2 rfl) ?_
                                refine kz_calli (wk := [(me, .inl (cI, 18, .inl (kz_dg d235))), (t, .inl (cI, 16, .inl (kz_dg gt)))]) (va_runV (As := [.int (nI (k3))]) (rest := []) ⟨hx, hb, hml, hown, hts⟩ (c_F_isLess l dC dI cI cAA cB cL o mt mn ml mc mh mk mp mm mb mw mr mx me mP mQ ms mo mW mD mB mR mS (th) (sta) (hs) sz_ gmm d235 ((nI (k3))) _ hd_gmm hd_d235) (cwV 1 hts (kz_g (kz_mc mw_733 (kz_mc mw_735 (kz_mc mw_28 (kz_mc mw_43 kz_mn)))) mw_736) rfl rfl rfl (by decide +kernel) ⟨Nat.le_of_ble_eq_true rfl, Nat.le_of_ble_eq_true rfl⟩) (kz_preVr hdy hA hK hro hZ hN [] (by decide) rfl [(true, 0), (true, 1), (false, 0)] rfl (by decide) [0, 1, 2, 3] rfl (fun _ h => by cases h) (fun _ h => by cases h) rfl (ci := 4) (q0 := 0) rfl rfl rfl) rfl rfl hl.1 rfl (lv_room (Nat.le_of_ble_eq_true rfl)) zd_N_remain_129 ⟨Nat.le_of_ble_eq_true rfl, Nat.le_of_ble_eq_true rfl⟩) hdy hA [] [0, 1] rfl rfl (by decide) (by decide) (fun r u H locs hw hdy => ?_)
                                obtain ⟨r236, rfl⟩ : ∃ z, z = r := ⟨_, rfl⟩
                                try dsimp only at hw
                                obtain ⟨hzr236, q237, -⟩ := hw
                                have hdy : kz_dy (dC, dI) vwCl A s.heap H locs [(me, .inl (cI, 18, .inl (kz_dg d235))), (t, .inl (cI, 16, .inl (kz_dg gt)))] := hdy.sub [0, 1] (by decide) rfl
                                refine lv_if_ne (tgt := 280) hx hb zd_N_remain_132 (by decide) (fun hc132 => ?_) (fun hc132 => ?_)
                                · have hlt9 : kv_val d235 18 < kv_val gmm 16 := (by have h9 := (q237.resolve_right (fun h => hc132 h.1)).2; rw [hm18] at h9; exact h9)
                                  refine lv_iinc (v := (nI (k78p) - 1)) (lv' := [(5, .int (nI (k78p) - 1)), (3, .long (kz_lz (z223))), (2, .int (nI (k3))), (0, .ref o), (1, .ref t)]) hx hb zd_N_remain_280 hl (k := 0) rfl (kz_m1 _) (by decide) rfl (fun ls hl => ?_)
                                  refine lv_goto (tgt := 78) hx hb zd_N_remain_283 (by decide) ?_
                                  have hi9_hR238 : kv_val d235 18 = kv_hiN 32 gmx (k78p) % kv_val gmm 16 := by exact kv_lessMod hlt9 hV
                                  exact ih78 k78p d235 _ _ _ (by omega) (by omega) hd_d235 hi9_hR238 hdy (lv_sub hl [0, 1, 2, 3, 4] rfl)
                                · have hless : kv_val (kv_m18 gmm) 18 ≤ kv_val d235 18 := (q237.resolve_left (fun h => absurd (hc132.symm.trans h.1) (by decide))).2
                                  refine lv_ldc2 (v := (65536)) hx hb hown (hts _ (kz_c mw_709)) zd_N_remain_135 ?_
                                  refine lv_topl (fun yl239 h9 => ?_)
                                  obtain rfl : yl239 = kz_lz (65536) := h9.trans (kz_lz_c65536)
                                  refine lv_ldc2 (v := (65536)) hx hb hown (hts _ (kz_c mw_709)) zd_N_remain_138 ?_
                                  refine lv_topl (fun yl240 h9 => ?_)
                                  obtain rfl : yl240 = kz_lz (65536) := h9.trans (kz_lz_c65536)
                                  refine lv_aload_n hx hb zd_N_remain_141 rfl (lv_at hl 3 rfl) ?_
                                  refine va_get (D := (dC, dI)) (ci := 4) (v := .ref me) (C := zR_N) (T := zT_N) (N := 26) hx hb hts (fun w h => kz_c (zi_N w h)) hown hK (hro.ob hdy.2.2 (k := 0) rfl) 0 rfl rfl 14 (by decide) (hts _ (kz_c mw_605)) (fun _ h9 => h9) rfl zd_N_remain_142 ?_
                                  refine lv_iload_n hx hb zd_N_remain_145 rfl (lv_at hl 2 rfl) ?_
                                  refine lv_iconst (v := (nI (1))) hx hb zd_N_remain_146 (by decide) ?_
                                  refine kz_iadd hx hb zd_N_remain_147 (nI_add _ _) ?_
                                  refine va_iald hx hb hK hdy.1 0 0 rfl rfl (vp_in_nI (by omega) (by omega)) zd_N_remain_148 ?_
                                  refine lv_topi (fun x241 h9 => ?_)
                                  obtain rfl : x241 = nI (d235 (k3 + 1)) := h9.trans (kz_dgl d235 (by omega))
                                  have hbx241 := hd_d235 (k3 + 1)
                                  refine lv_i2l hx hb zd_N_remain_149 (kz_lz_i (n := d235 (k3 + 1)) (by omega)) ?_
                                  refine lv_lmul hx hb zd_N_remain_150 ?_
                                  refine lv_topl (fun yl242 h9 => ?_)
                                  obtain rfl : yl242 = kz_lz (65536 * (((d235 (k3 + 1) : Nat) : Int))) := h9.trans (kz_lz_mul _ _)
                                  refine lv_aload_n hx hb zd_N_remain_151 rfl (lv_at hl 3 rfl) ?_
                                  refine va_get (D := (dC, dI)) (ci := 4) (v := .ref me) (C := zR_N) (T := zT_N) (N := 26) hx hb hts (fun w h => kz_c (zi_N w h)) hown hK (hro.ob hdy.2.2 (k := 0) rfl) 0 rfl rfl 14 (by decide) (hts _ (kz_c mw_605)) (fun _ h9 => h9) rfl zd_N_remain_152 ?_
                                  refine lv_iload_n hx hb zd_N_remain_155 rfl (lv_at hl 2 rfl) ?_
                                  refine va_iald hx hb hK hdy.1 0 0 rfl rfl (vp_in_nI (by omega) (by omega)) zd_N_remain_156 ?_
                                  refine lv_topi (fun x243 h9 => ?_)
                                  obtain rfl : x243 = nI (d235 k3) := h9.trans (kz_dgl d235 (by omega))
                                  have hbx243 := hd_d235 k3
                                  refine lv_i2l hx hb zd_N_remain_157 (kz_lz_i (n := d235 k3) (by omega)) ?_
                                  refine lv_ladd hx hb zd_N_remain_158 ?_
                                  refine lv_topl (fun yl244 h9 => ?_)
                                  obtain rfl : yl244 = kz_lz ((65536 * (((d235 (k3 + 1) : Nat) : Int))) + (((d235 k3 : Nat) : Int))) := h9.trans (kz_lz_add _ _)
                                  refine lv_lmul hx hb zd_N_remain_159 ?_
                                  refine lv_topl (fun yl245 h9 => ?_)
                                  obtain rfl : yl245 = kz_lz (65536 * ((65536 * (((d235 (k3 + 1) : Nat) : Int))) + (((d235 k3 : Nat) : Int)))) := h9.trans (kz_lz_mul _ _)
                                  refine lv_iload_n hx hb zd_N_remain_160 rfl (lv_at hl 2 rfl) ?_
                                  refine lv_if_le (tgt := 175) hx hb zd_N_remain_161 (by decide) (fun hc161 => ?_) (fun hc161 => ?_)
                                  · have hc161 : k3 ≤ 0 := (nI_leI (by omega) (by omega)).mp (by rw [nI_0]; exact hc161)
                                    refine lv_iconst (v := (nI (0))) hx hb zd_N_remain_175 (by decide) ?_
                                    refine lv_i2l hx hb zd_N_remain_176 (kz_lz_i (n := 0) (by omega)) ?_
                                    refine lv_ladd hx hb zd_N_remain_177 ?_
                                    refine lv_topl (fun yl246 h9 => ?_)
                                    obtain rfl : yl246 = kz_lz ((65536 * ((65536 * (((d235 (k3 + 1) : Nat) : Int))) + (((d235 k3 : Nat) : Int)))) + (((0 : Nat) : Int))) := h9.trans (kz_lz_add _ _)
                                    refine lv_topl (fun yl248 h9 => ?_)
                                    obtain ⟨z247, ez247, rfl⟩ : ∃ z : Int, z = (65536 * ((65536 * (((d235 (k3 + 1) : Nat) : Int))) + (((d235 k3 : Nat) : Int)))) + (((0 : Nat) : Int)) ∧ yl248 = kz_lz z := ⟨_, rfl, h9⟩
                                    refine lv_lstore (lv' := [(6, .long (kz_lz (z247))), (5, .int (nI (k78p))), (3, .long (kz_lz (z223))), (2, .int (nI (k3))), (0, .ref o), (1, .ref t)]) hx hb zd_N_remain_178 hl (by decide) rfl (fun ls hl => ?_)
                                    refine lv_lload hx hb zd_N_remain_180 (lv_at hl 0 rfl) ?_
                                    refine lv_lload_n hx hb zd_N_remain_182 rfl (lv_at hl 2 rfl) ?_
                                    refine lv_ldiv hx hb zd_N_remain_183 (kz_lz_ne0 (by omega) (by omega)) ?_
                                    refine lv_topl (fun yl249 h9 => ?_)
                                    obtain rfl : yl249 = kz_lz (z247 / z223) := h9.trans (kz_lz_divz (by omega) (by omega) (by omega) (by omega))
                                    refine lv_topl (fun yl251 h9 => ?_)
                                    obtain ⟨z250, ez250, rfl⟩ : ∃ z : Int, z = z247 / z223 ∧ yl251 = kz_lz z := ⟨_, rfl, h9⟩
                                    refine lv_lstore (lv' := [(8, .long (kz_lz (z250))), (6, .long (kz_lz (z247))), (5, .int (nI (k78p))), (3, .long (kz_lz (z223))), (2, .int (nI (k3))), (0, .ref o), (1, .ref t)]) hx hb zd_N_remain_184 hl (by decide) rfl (fun ls hl => ?_)
                                    have hqz : 0 ≤ z250 ∧ z250 < 4294967296 ∧ z250.toNat * kv_val (kv_m18 gmm) 18 ≤ kv_val d235 18 := by first | exact kv_qZ1 hd_gmm hd_d235 (by omega) (by omega) (by omega) htz ez223 ez247 ez250 | (exfalso; omega) | (obtain rfl : k3 = 0 := (by omega); exact kv_qZ0 hd_gmm hd_d235 (by omega) htz ez223 ez247 ez250)
                                    obtain ⟨hq0, hq1, hq2⟩ := hqz
                                    refine lv_lload hx hb zd_N_remain_186 (lv_at hl 0 rfl) ?_
                                    refine lv_lconst (v := 1) hx hb zd_N_remain_188 (by decide) ?_
                                    refine lv_topl (fun yl252 h9 => ?_)
                                    obtain rfl : yl252 = kz_lz (1) := h9.trans (kz_lz_c1)
                                    refine kz_lge (tgt := 197) hx hb zd_N_remain_189 zd_N_remain_190 (by decide) (fun hc190 => ?_) (fun hc190 => ?_)
                                    · have hc190 : ¬ z250 < 1 := fun h9 => hc190 ((kz_lz_lt (by omega) (by omega) (by omega) (by omega)).mpr h9)
                                      refine lv_lload hx hb zd_N_remain_197 (lv_at hl 0 rfl) ?_
                                      refine lv_lstore (lv' := [(8, .long (kz_lz (z250))), (6, .long (kz_lz (z247))), (5, .int (nI (k78p))), (3, .long (kz_lz (z223))), (2, .int (nI (k3))), (0, .ref o), (1, .ref t)]) hx hb zd_N_remain_199 hl (by decide) rfl (fun ls hl => ?_)
                                      have hQ0 : 1 ≤ z250 := by omega
                                      have hQ1 : z250 < 4294967296 := by omega
                                      have hQ2 : z250.toNat * kv_val (kv_m18 gmm) 18 ≤ kv_val d235 18 := hq2
                                      refine lv_lconst (v := 0) hx hb zd_N_remain_201 (by decide) ?_
                                      refine lv_topl (fun yl253 h9 => ?_)
                                      obtain rfl : yl253 = kz_lz (0) := h9.trans (kz_lz_c0)
                                      refine lv_topl (fun yl255 h9 => ?_)
                                      obtain ⟨z254, ez254, rfl⟩ : ∃ z : Int, z = 0 ∧ yl255 = kz_lz z := ⟨_, rfl, h9⟩
                                      refine lv_lstore (lv' := [(10, .long (kz_lz (z254))), (8, .long (kz_lz (z250))), (6, .long (kz_lz (z247))), (5, .int (nI (k78p))), (3, .long (kz_lz (z223))), (2, .int (nI (k3))), (0, .ref o), (1, .ref t)]) hx hb zd_N_remain_202 hl (by decide) rfl (fun ls hl => ?_)
                                      refine lv_iconst (v := (nI (0))) hx hb zd_N_remain_204 (by decide) ?_
                                      refine lv_istore (lv' := [(12, .int (nI (0))), (10, .long (kz_lz (z254))), (8, .long (kz_lz (z250))), (6, .long (kz_lz (z247))), (5, .int (nI (k78p))), (3, .long (kz_lz (z223))), (2, .int (nI (k3))), (0, .ref o), (1, .ref t)]) hx hb zd_N_remain_205 hl (by decide) rfl (fun ls hl => ?_)
                                      have lp207 : ∀ (n207 k207 : Nat) (z256 : Int) (d257 : Nat → Nat) (H : Heap) (locs : List Loc) (ls : Array Slot), k207 ≤ 18 → 18 - k207 < n207 → (∀ j, d257 j < 65536) → (-8589934592 ≤ z256) → (z256 ≤ 1) → (((kv_val d257 (k207) : Nat) : Int) + z256 * (65536 : Int) ^ (k207) = ((kv_val d235 (k207) : Nat) : Int) - z250 * ((kv_val (kv_m18 gmm) (k207) : Nat) : Int)) → (∀ j, k207 ≤ j → d257 j = d235 j) → kz_dy (dC, dI) vwCl A s.heap H locs [(me, .inl (cI, 18, .inl (kz_dg d257))), (t, .inl (cI, 16, .inl (kz_dg gt)))] → lv_has ls 13 [(12, .int (nI (k207))), (10, .long (kz_lz (z256))), (8, .long (kz_lz (z250))), (6, .long (kz_lz (z247))), (5, .int (nI (k78p))), (3, .long (kz_lz (z223))), (2, .int (nI (k3))), (0, .ref o), (1, .ref t)] → W p l e { frames := 1, cells := 0, slots := 0, locals := 23 } s m ([.ref o, .ref t] : List Value).toArray below meth c H locs 0 0 (MQ below (va_Qv (fun (u : (Nat → Nat) × (Nat → Nat)) => (∀ j, u.1 j < 65536) ∧ (∀ j, u.2 j < 65536) ∧ (kv_val u.2 16 = kv_val gmx 32 % kv_val gmm 16) ∧ True) (kz_B (dC, dI) vwCl A (fun u : (Nat → Nat) × (Nat → Nat) => [(me, .inl (cI, 18, .inl (kz_dg u.1))), (t, .inl (cI, 16, .inl (kz_dg u.2)))])) A) ([.ref o, .ref t] : List Value).toArray s 0 0 A) (F0 m 207 ls []) := by
                                        intro n207
                                        induction n207 with
                                        | zero => intro k207; intros; omega
                                        | succ n207 ih207 =>
                                          intro k207 z256 d257 H locs ls hi207 hn207 hd_d257 hlo hhi hI hge hdy hl
                                          refine lv_iload hx hb zd_N_remain_207 (lv_at hl 0 rfl) ?_
                                          refine lv_bipush (v := (nI (18))) hx hb zd_N_remain_209 (by decide) ?_
                                          refine lv_icmp_ge (tgt := 277) hx hb zd_N_remain_211 (by decide) (fun hc211 => ?_) (fun hc211 => ?_)
                                          · have hc211 : 18 ≤ k207 := (nI_leI (by omega) (by omega)).mp hc211
                                            refine lv_goto (tgt := 127) hx hb zd_N_remain_277 (by decide) ?_
                                            have hi9_hV258 : kv_val d257 18 % kv_val gmm 16 = kv_hiN 32 gmx k78p % kv_val gmm 16 := by have h18 : k207 = 18 := (by omega); subst h18; have h8 := kv_subExact (q := z250.toNat) hd_d257 hd_d235 hQ2 (by have h7 : ((z250.toNat : Nat) : Int) = z250 := (by omega); rw [h7]; exact hI); rw [hm18] at h8; exact kv_takeMod h8 hV
                                            have hms127 : kv_val d257 18 < n127 := by have h18 : k207 = 18 := (by omega); subst h18; have h8 := kv_subEnd (q := z250.toNat) hd_d257 hd_d235 (by omega) hmv hQ2 (by have h7 : ((z250.toNat : Nat) : Int) = z250 := (by omega); rw [h7]; exact hI); omega
                                            exact ih127 d257 _ _ _ hms127 hd_d257 hi9_hV258 hdy (lv_sub hl [4, 5, 6, 7, 8] rfl)
                                          · have hc211 : ¬ 18 ≤ k207 := fun h9 => hc211 ((nI_leI (by omega) (by omega)).mpr h9)
                                            refine lv_lload hx hb zd_N_remain_214 (lv_at hl 1 rfl) ?_
                                            refine lv_aload_n hx hb zd_N_remain_216 rfl (lv_at hl 7 rfl) ?_
                                            refine va_get (D := (dC, dI)) (ci := 4) (v := .ref me) (C := zR_N) (T := zT_N) (N := 26) hx hb hts (fun w h => kz_c (zi_N w h)) hown hK (hro.ob hdy.2.2 (k := 0) rfl) 0 rfl rfl 14 (by decide) (hts _ (kz_c mw_605)) (fun _ h9 => h9) rfl zd_N_remain_217 ?_
                                            refine lv_iload hx hb zd_N_remain_220 (lv_at hl 0 rfl) ?_
                                            refine va_iald hx hb hK hdy.1 0 0 rfl rfl (vp_in_nI (by omega) (by omega)) zd_N_remain_222 ?_
                                            refine lv_topi (fun x259 h9 => ?_)
                                            obtain rfl : x259 = nI (d257 k207) := h9.trans (kz_dgl d257 (by omega))
                                            have hbx259 := hd_d257 k207
                                            refine lv_i2l hx hb zd_N_remain_223 (kz_lz_i (n := d257 k207) (by omega)) ?_
                                            refine lv_ladd hx hb zd_N_remain_224 ?_
                                            refine lv_topl (fun yl260 h9 => ?_)
                                            obtain rfl : yl260 = kz_lz (z256 + (((d257 k207 : Nat) : Int))) := h9.trans (kz_lz_add _ _)
                                            refine lv_iload hx hb zd_N_remain_225 (lv_at hl 0 rfl) ?_
                                            refine lv_bipush (v := (nI (16))) hx hb zd_N_remain_227 (by decide) ?_
                                            refine lv_icmp_ge (tgt := 246) hx hb zd_N_remain_229 (by decide) (fun hc229 => ?_) (fun hc229 => ?_)
                                            · have hc229 : 16 ≤ k207 := (nI_leI (by omega) (by omega)).mp hc229
                                              refine lv_lconst (v := 0) hx hb zd_N_remain_246 (by decide) ?_
                                              refine lv_topl (fun yl261 h9 => ?_)
                                              obtain rfl : yl261 = kz_lz (0) := h9.trans (kz_lz_c0)
                                              refine lv_lsub hx hb zd_N_remain_247 ?_
                                              refine lv_topl (fun yl262 h9 => ?_)
                                              obtain rfl : yl262 = kz_lz ((z256 + (((d257 k207 : Nat) : Int))) - 0) := h9.trans (kz_lz_sub _ _)
                                              refine lv_topl (fun yl264 h9 => ?_)
                                              obtain ⟨z263, ez263, rfl⟩ : ∃ z : Int, z = (z256 + (((d257 k207 : Nat) : Int))) - 0 ∧ yl264 = kz_lz z := ⟨_, rfl, h9⟩
                                              refine lv_lstore (lv' := [(10, .long (kz_lz (z263))), (12, .int (nI (k207))), (8, .long (kz_lz (z250))), (6, .long (kz_lz (z247))), (5, .int (nI (k78p))), (3, .long (kz_lz (z223))), (2, .int (nI (k3))), (0, .ref o), (1, .ref t)]) hx hb zd_N_remain_248 hl (by decide) rfl (fun ls hl => ?_)
                                              have hm9 := kv_qm (q := z250) (by omega) hQ1 (hd_gmm k207)
                                              have ht9 : z263 = z256 + ((d235 k207 : Nat) : Int) - z250 * ((kv_m18 gmm k207 : Nat) : Int) := by rw [ez263, ← hge k207 (Nat.le_refl _)]; unfold kv_m18; first | (rw [if_pos (by omega)]; done) | (rw [if_neg (by omega)]; show _ = _ - z250 * 0; omega)
                                              refine lv_aload_n hx hb zd_N_remain_250 rfl (lv_at hl 7 rfl) ?_
                                              refine va_get (D := (dC, dI)) (ci := 4) (v := .ref me) (C := zR_N) (T := zT_N) (N := 26) hx hb hts (fun w h => kz_c (zi_N w h)) hown hK (hro.ob hdy.2.2 (k := 0) rfl) 0 rfl rfl 14 (by decide) (hts _ (kz_c mw_605)) (fun _ h9 => h9) rfl zd_N_remain_251 ?_
                                              refine lv_iload hx hb zd_N_remain_254 (lv_at hl 1 rfl) ?_
                                              refine lv_lload hx hb zd_N_remain_256 (lv_at hl 0 rfl) ?_
                                              refine lv_ldc2 (v := (65535)) hx hb hown (hts _ (kz_c mw_708)) zd_N_remain_258 ?_
                                              refine lv_topl (fun yl265 h9 => ?_)
                                              obtain rfl : yl265 = kz_lz (65535) := h9.trans (kz_lz_c65535)
                                              refine lv_land hx hb zd_N_remain_261 ?_
                                              refine lv_topl (fun yl266 h9 => ?_)
                                              obtain rfl : yl266 = kz_lz (z263 % 65536) := h9.trans (kz_lz_andz _)
                                              refine lv_l2i hx hb zd_N_remain_262 (kz_lz_i16 (z263)) ?_
                                              refine va_iast hx hb hK hdy.1 hdy.2.1 hdy.2.2 0 0 rfl rfl (vp_in_nI (by omega) (by omega)) zd_N_remain_263 (fun H locs hP hD hS => ?_)
                                              have h9 := kz_dgu d257 (k := k207) ((z263 % 65536).toNat) (by omega)
                                              rw [h9] at hP hD
                                              obtain ⟨f267, ef267, hd_f267, hdy⟩ : ∃ f267 : Nat → Nat, f267 = kv_up d257 k207 ((z263 % 65536).toNat) ∧ (∀ j, f267 j < 65536) ∧ kz_dy (dC, dI) vwCl A s.heap H locs [(me, .inl (cI, 18, .inl (kz_dg f267))), (t, .inl (cI, 16, .inl (kz_dg gt)))] := ⟨_, rfl, kv_up_lt hd_d257 (by omega), hP, hD, hS⟩
                                              refine lv_lload hx hb zd_N_remain_264 (lv_at hl 0 rfl) ?_
                                              refine lv_bipush (v := (nI (16))) hx hb zd_N_remain_266 (by decide) ?_
                                              refine lv_lshr hx hb zd_N_remain_268 (kz_lz_shr (z := z263) (by omega) (by omega)) ?_
                                              refine lv_topl (fun yl269 h9 => ?_)
                                              obtain ⟨z268, ez268, rfl⟩ : ∃ z : Int, z = z263 / 65536 ∧ yl269 = kz_lz z := ⟨_, rfl, h9⟩
                                              refine lv_lstore (lv' := [(10, .long (kz_lz (z268))), (12, .int (nI (k207))), (8, .long (kz_lz (z250))), (6, .long (kz_lz (z247))), (5, .int (nI (k78p))), (3, .long (kz_lz (z223))), (2, .int (nI (k3))), (0, .ref o), (1, .ref t)]) hx hb zd_N_remain_269 hl (by decide) rfl (fun ls hl => ?_)
                                              refine lv_iinc (v := (nI (k207 + 1))) (lv' := [(12, .int (nI (k207 + 1))), (10, .long (kz_lz (z268))), (8, .long (kz_lz (z250))), (6, .long (kz_lz (z247))), (5, .int (nI (k78p))), (3, .long (kz_lz (z223))), (2, .int (nI (k3))), (0, .ref o), (1, .ref t)]) hx hb zd_N_remain_271 hl (k := 1) rfl (nI_1 _) (by decide) rfl (fun ls hl => ?_)
                                              refine lv_goto (tgt := 207) hx hb zd_N_remain_274 (by decide) ?_
                                              have hi9_hlo270 : -8589934592 ≤ z268 := by omega
                                              have hi9_hhi271 : z268 ≤ 1 := by omega
                                              have hi9_hI272 : ((kv_val f267 (k207 + 1) : Nat) : Int) + z268 * (65536 : Int) ^ (k207 + 1) = ((kv_val d235 (k207 + 1) : Nat) : Int) - z250 * ((kv_val (kv_m18 gmm) (k207 + 1) : Nat) : Int) := by rw [ef267, ez268]; exact kv_subStep hI ht9
                                              have hi9_hge273 : ∀ j, k207 + 1 ≤ j → f267 j = d235 j := by intro j hj; rw [ef267, kv_up_ne _ _ (by omega)]; exact hge j (by omega)
                                              exact ih207 (k207 + 1) (z268) f267 _ _ _ (by omega) (by omega) hd_f267 hi9_hlo270 hi9_hhi271 hi9_hI272 hi9_hge273 hdy (lv_sub hl [0, 1, 2, 3, 4, 5, 6, 7, 8] rfl)
                                            · have hc229 : ¬ 16 ≤ k207 := fun h9 => hc229 ((nI_leI (by omega) (by omega)).mpr h9)
                                              refine lv_lload hx hb zd_N_remain_232 (lv_at hl 2 rfl) ?_
                                              refine lv_aload_n hx hb zd_N_remain_234 rfl (lv_at hl 7 rfl) ?_
                                              refine va_get (D := (dC, dI)) (ci := 4) (v := .ref mm) (C := zR_N) (T := zT_N) (N := 26) hx hb hts (fun w h => kz_c (zi_N w h)) hown hK (hro.ob hdy.2.2 (k := 0) rfl) 0 rfl rfl 9 (by decide) (hts _ (kz_c mw_600)) (fun _ h9 => h9) rfl zd_N_remain_235 ?_
                                              refine lv_iload hx hb zd_N_remain_238 (lv_at hl 0 rfl) ?_
                                              refine kz_riald hx hb hK hro hdy.2.2 1 0 rfl rfl (vp_in_nI (by omega) (by omega)) zd_N_remain_240 ?_
                                              refine lv_topi (fun x274 h9 => ?_)
                                              obtain rfl : x274 = nI (gmm k207) := h9.trans (kz_dgl gmm (by omega))
                                              have hbx274 := hd_gmm k207
                                              refine lv_i2l hx hb zd_N_remain_241 (kz_lz_i (n := gmm k207) (by omega)) ?_
                                              refine lv_lmul hx hb zd_N_remain_242 ?_
                                              refine lv_topl (fun yl275 h9 => ?_)
                                              obtain rfl : yl275 = kz_lz (z250 * (((gmm k207 : Nat) : Int))) := h9.trans (kz_lz_mul _ _)
                                              refine lv_goto (tgt := 247) hx hb zd_N_remain_243 (by decide) ?_
                                              refine lv_lsub hx hb zd_N_remain_247 ?_
                                              refine lv_topl (fun yl276 h9 => ?_)
                                              obtain rfl : yl276 = kz_lz ((z256 + (((d257 k207 : Nat) : Int))) - (z250 * (((gmm k207 : Nat) : Int)))) := h9.trans (kz_lz_sub _ _)
                                              refine lv_topl (fun yl278 h9 => ?_)
                                              obtain ⟨z277, ez277, rfl⟩ : ∃ z : Int, z = (z256 + (((d257 k207 : Nat) : Int))) - (z250 * (((gmm k207 : Nat) : Int))) ∧ yl278 = kz_lz z := ⟨_, rfl, h9⟩
                                              refine lv_lstore (lv' := [(10, .long (kz_lz (z277))), (12, .int (nI (k207))), (8, .long (kz_lz (z250))), (6, .long (kz_lz (z247))), (5, .int (nI (k78p))), (3, .long (kz_lz (z223))), (2, .int (nI (k3))), (0, .ref o), (1, .ref t)]) hx hb zd_N_remain_248 hl (by decide) rfl (fun ls hl => ?_)
                                              have hm9 := kv_qm (q := z250) (by omega) hQ1 (hd_gmm k207)
                                              have ht9 : z277 = z256 + ((d235 k207 : Nat) : Int) - z250 * ((kv_m18 gmm k207 : Nat) : Int) := by rw [ez277, ← hge k207 (Nat.le_refl _)]; unfold kv_m18; first | (rw [if_pos (by omega)]; done) | (rw [if_neg (by omega)]; show _ = _ - z250 * 0; omega)
                                              refine lv_aload_n hx hb zd_N_remain_250 rfl (lv_at hl 7 rfl) ?_
                                              refine va_get (D := (dC, dI)) (ci := 4) (v := .ref me) (C := zR_N) (T := zT_N) (N := 26) hx hb hts (fun w h => kz_c (zi_N w h)) hown hK (hro.ob hdy.2.2 (k := 0) rfl) 0 rfl rfl 14 (by decide) (hts _ (kz_c mw_605)) (fun _ h9 => h9) rfl zd_N_remain_251 ?_
                                              refine lv_iload hx hb zd_N_remain_254 (lv_at hl 1 rfl) ?_
                                              refine lv_lload hx hb zd_N_remain_256 (lv_at hl 0 rfl) ?_
                                              refine lv_ldc2 (v := (65535)) hx hb hown (hts _ (kz_c mw_708)) zd_N_remain_258 ?_
                                              refine lv_topl (fun yl279 h9 => ?_)
                                              obtain rfl : yl279 = kz_lz (65535) := h9.trans (kz_lz_c65535)
                                              refine lv_land hx hb zd_N_remain_261 ?_
                                              refine lv_topl (fun yl280 h9 => ?_)
                                              obtain rfl : yl280 = kz_lz (z277 % 65536) := h9.trans (kz_lz_andz _)
                                              refine lv_l2i hx hb zd_N_remain_262 (kz_lz_i16 (z277)) ?_
                                              refine va_iast hx hb hK hdy.1 hdy.2.1 hdy.2.2 0 0 rfl rfl (vp_in_nI (by omega) (by omega)) zd_N_remain_263 (fun H locs hP hD hS => ?_)
                                              have h9 := kz_dgu d257 (k := k207) ((z277 % 65536).toNat) (by omega)
                                              rw [h9] at hP hD
                                              obtain ⟨f281, ef281, hd_f281, hdy⟩ : ∃ f281 : Nat → Nat, f281 = kv_up d257 k207 ((z277 % 65536).toNat) ∧ (∀ j, f281 j < 65536) ∧ kz_dy (dC, dI) vwCl A s.heap H locs [(me, .inl (cI, 18, .inl (kz_dg f281))), (t, .inl (cI, 16, .inl (kz_dg gt)))] := ⟨_, rfl, kv_up_lt hd_d257 (by omega), hP, hD, hS⟩
                                              refine lv_lload hx hb zd_N_remain_264 (lv_at hl 0 rfl) ?_
                                              refine lv_bipush (v := (nI (16))) hx hb zd_N_remain_266 (by decide) ?_
                                              refine lv_lshr hx hb zd_N_remain_268 (kz_lz_shr (z := z277) (by omega) (by omega)) ?_
                                              refine lv_topl (fun yl283 h9 => ?_)
                                              obtain ⟨z282, ez282, rfl⟩ : ∃ z : Int, z = z277 / 65536 ∧ yl283 = kz_lz z := ⟨_, rfl, h9⟩
                                              refine lv_lstore (lv' := [(10, .long (kz_lz (z282))), (12, .int (nI (k207))), (8, .long (kz_lz (z250))), (6, .long (kz_lz (z247))), (5, .int (nI (k78p))), (3, .long (kz_lz (z223))), (2, .int (nI (k3))), (0, .ref o), (1, .ref t)]) hx hb zd_N_remain_269 hl (by decide) rfl (fun ls hl => ?_)
                                              refine lv_iinc (v := (nI (k207 + 1))) (lv' := [(12, .int (nI (k207 + 1))), (10, .long (kz_lz (z282))), (8, .long (kz_lz (z250))), (6, .long (kz_lz (z247))), (5, .int (nI (k78p))), (3, .long (kz_lz (z223))), (2, .int (nI (k3))), (0, .ref o), (1, .ref t)]) hx hb zd_N_remain_271 hl (k := 1) rfl (nI_1 _) (by decide) rfl (fun ls hl => ?_)
                                              refine lv_goto (tgt := 207) hx hb zd_N_remain_274 (by decide) ?_
                                              have hi9_hlo284 : -8589934592 ≤ z282 := by omega
                                              have hi9_hhi285 : z282 ≤ 1 := by omega
                                              have hi9_hI286 : ((kv_val f281 (k207 + 1) : Nat) : Int) + z282 * (65536 : Int) ^ (k207 + 1) = ((kv_val d235 (k207 + 1) : Nat) : Int) - z250 * ((kv_val (kv_m18 gmm) (k207 + 1) : Nat) : Int) := by rw [ef281, ez282]; exact kv_subStep hI ht9
                                              have hi9_hge287 : ∀ j, k207 + 1 ≤ j → f281 j = d235 j := by intro j hj; rw [ef281, kv_up_ne _ _ (by omega)]; exact hge j (by omega)
                                              exact ih207 (k207 + 1) (z282) f281 _ _ _ (by omega) (by omega) hd_f281 hi9_hlo284 hi9_hhi285 hi9_hI286 hi9_hge287 hdy (lv_sub hl [0, 1, 2, 3, 4, 5, 6, 7, 8] rfl)
                                      have hi9_hlo288 : -8589934592 ≤ z254 := by omega
                                      have hi9_hhi289 : z254 ≤ 1 := by omega
                                      have hi9_hI290 : ((kv_val d235 (0) : Nat) : Int) + z254 * (65536 : Int) ^ (0) = ((kv_val d235 (0) : Nat) : Int) - z250 * ((kv_val (kv_m18 gmm) (0) : Nat) : Int) := by rw [ez254]; show (0 : Int) + 0 * _ = 0 - z250 * 0; omega
                                      have hi9_hge291 : ∀ j, 0 ≤ j → d235 j = d235 j := by exact fun _ _ => rfl
                                      exact lp207 (18 - 0 + 1) 0 (z254) d235 _ _ _ (by omega) (by omega) hd_d235 hi9_hlo288 hi9_hhi289 hi9_hI290 hi9_hge291 hdy (lv_sub hl [0, 1, 2, 3, 4, 5, 6, 7, 8] rfl)
                                    · have hc190 : z250 < 1 := (kz_lz_lt (by omega) (by omega) (by omega) (by omega)).mp hc190
                                      refine lv_lconst (v := 1) hx hb zd_N_remain_193 (by decide) ?_
                                      refine lv_topl (fun yl292 h9 => ?_)
                                      obtain rfl : yl292 = kz_lz (1) := h9.trans (kz_lz_c1)
                                      refine lv_goto (tgt := 199) hx hb zd_N_remain_194 (by decide) ?_
                                      refine lv_topl (fun yl294 h9 => ?_)
                                      obtain ⟨z293, ez293, rfl⟩ : ∃ z : Int, z = 1 ∧ yl294 = kz_lz z := ⟨_, rfl, h9⟩
                                      refine lv_lstore (lv' := [(8, .long (kz_lz (z293))), (6, .long (kz_lz (z247))), (5, .int (nI (k78p))), (3, .long (kz_lz (z223))), (2, .int (nI (k3))), (0, .ref o), (1, .ref t)]) hx hb zd_N_remain_199 hl (by decide) rfl (fun ls hl => ?_)
                                      have hQ0 : 1 ≤ z293 := by omega
                                      have hQ1 : z293 < 4294967296 := by omega
                                      have hQ2 : z293.toNat * kv_val (kv_m18 gmm) 18 ≤ kv_val d235 18 := by have h8 : z293.toNat = 1 := (by omega); rw [h8, Nat.one_mul]; exact hless
                                      refine lv_lconst (v := 0) hx hb zd_N_remain_201 (by decide) ?_
                                      refine lv_topl (fun yl295 h9 => ?_)
                                      obtain rfl : yl295 = kz_lz (0) := h9.trans (kz_lz_c0)
                                      refine lv_topl (fun yl297 h9 => ?_)
                                      obtain ⟨z296, ez296, rfl⟩ : ∃ z : Int, z = 0 ∧ yl297 = kz_lz z := ⟨_, rfl, h9⟩
                                      refine lv_lstore (lv' := [(10, .long (kz_lz (z296))), (8, .long (kz_lz (z293))), (6, .long (kz_lz (z247))), (5, .int (nI (k78p))), (3, .long (kz_lz (z223))), (2, .int (nI (k3))), (0, .ref o), (1, .ref t)]) hx hb zd_N_remain_202 hl (by decide) rfl (fun ls hl => ?_)
                                      refine lv_iconst (v := (nI (0))) hx hb zd_N_remain_204 (by decide) ?_
                                      refine lv_istore (lv' := [(12, .int (nI (0))), (10, .long (kz_lz (z296))), (8, .long (kz_lz (z293))), (6, .long (kz_lz (z247))), (5, .int (nI (k78p))), (3, .long (kz_lz (z223))), (2, .int (nI (k3))), (0, .ref o), (1, .ref t)]) hx hb zd_N_remain_205 hl (by decide) rfl (fun ls hl => ?_)
                                      have lp207 : ∀ (n207 k207 : Nat) (z298 : Int) (d299 : Nat → Nat) (H : Heap) (locs : List Loc) (ls : Array Slot), k207 ≤ 18 → 18 - k207 < n207 → (∀ j, d299 j < 65536) → (-8589934592 ≤ z298) → (z298 ≤ 1) → (((kv_val d299 (k207) : Nat) : Int) + z298 * (65536 : Int) ^ (k207) = ((kv_val d235 (k207) : Nat) : Int) - z293 * ((kv_val (kv_m18 gmm) (k207) : Nat) : Int)) → (∀ j, k207 ≤ j → d299 j = d235 j) → kz_dy (dC, dI) vwCl A s.heap H locs [(me, .inl (cI, 18, .inl (kz_dg d299))), (t, .inl (cI, 16, .inl (kz_dg gt)))] → lv_has ls 13 [(12, .int (nI (k207))), (10, .long (kz_lz (z298))), (8, .long (kz_lz (z293))), (6, .long (kz_lz (z247))), (5, .int (nI (k78p))), (3, .long (kz_lz (z223))), (2, .int (nI (k3))), (0, .ref o), (1, .ref t)] → W p l e { frames := 1, cells := 0, slots := 0, locals := 23 } s m ([.ref o, .ref t] : List Value).toArray below meth c H locs 0 0 (MQ below (va_Qv (fun (u : (Nat → Nat) × (Nat → Nat)) => (∀ j, u.1 j < 65536) ∧ (∀ j, u.2 j < 65536) ∧ (kv_val u.2 16 = kv_val gmx 32 % kv_val gmm 16) ∧ True) (kz_B (dC, dI) vwCl A (fun u : (Nat → Nat) × (Nat → Nat) => [(me, .inl (cI, 18, .inl (kz_dg u.1))), (t, .inl (cI, 16, .inl (kz_dg u.2)))])) A) ([.ref o, .ref t] : List Value).toArray s 0 0 A) (F0 m 207 ls []) := by
                                        intro n207
                                        induction n207 with
                                        | zero => intro k207; intros; omega
                                        | succ n207 ih207 =>
                                          intro k207 z298 d299 H locs ls hi207 hn207 hd_d299 hlo hhi hI hge hdy hl
                                          refine lv_iload hx hb zd_N_remain_207 (lv_at hl 0 rfl) ?_
                                          refine lv_bipush (v := (nI (18))) hx hb zd_N_remain_209 (by decide) ?_
                                          refine lv_icmp_ge (tgt := 277) hx hb zd_N_remain_211 (by decide) (fun hc211 => ?_) (fun hc211 => ?_)
                                          · have hc211 : 18 ≤ k207 := (nI_leI (by omega) (by omega)).mp hc211
                                            refine lv_goto (tgt := 127) hx hb zd_N_remain_277 (by decide) ?_
                                            have hi9_hV300 : kv_val d299 18 % kv_val gmm 16 = kv_hiN 32 gmx k78p % kv_val gmm 16 := by have h18 : k207 = 18 := (by omega); subst h18; have h8 := kv_subExact (q := z293.toNat) hd_d299 hd_d235 hQ2 (by have h7 : ((z293.toNat : Nat) : Int) = z293 := (by omega); rw [h7]; exact hI); rw [hm18] at h8; exact kv_takeMod h8 hV
                                            have hms127 : kv_val d299 18 < n127 := by have h18 : k207 = 18 := (by omega); subst h18; have h8 := kv_subEnd (q := z293.toNat) hd_d299 hd_d235 (by omega) hmv hQ2 (by have h7 : ((z293.toNat : Nat) : Int) = z293 := (by omega); rw [h7]; exact hI); omega
                                            exact ih127 d299 _ _ _ hms127 hd_d299 hi9_hV300 hdy (lv_sub hl [4, 5, 6, 7, 8] rfl)
                                          · have hc211 : ¬ 18 ≤ k207 := fun h9 => hc211 ((nI_leI (by omega) (by omega)).mpr h9)
                                            refine lv_lload hx hb zd_N_remain_214 (lv_at hl 1 rfl) ?_
                                            refine lv_aload_n hx hb zd_N_remain_216 rfl (lv_at hl 7 rfl) ?_
                                            refine va_get (D := (dC, dI)) (ci := 4) (v := .ref me) (C := zR_N) (T := zT_N) (N := 26) hx hb hts (fun w h => kz_c (zi_N w h)) hown hK (hro.ob hdy.2.2 (k := 0) rfl) 0 rfl rfl 14 (by decide) (hts _ (kz_c mw_605)) (fun _ h9 => h9) rfl zd_N_remain_217 ?_
                                            refine lv_iload hx hb zd_N_remain_220 (lv_at hl 0 rfl) ?_
                                            refine va_iald hx hb hK hdy.1 0 0 rfl rfl (vp_in_nI (by omega) (by omega)) zd_N_remain_222 ?_
                                            refine lv_topi (fun x301 h9 => ?_)
                                            obtain rfl : x301 = nI (d299 k207) := h9.trans (kz_dgl d299 (by omega))
                                            have hbx301 := hd_d299 k207
                                            refine lv_i2l hx hb zd_N_remain_223 (kz_lz_i (n := d299 k207) (by omega)) ?_
                                            refine lv_ladd hx hb zd_N_remain_224 ?_
                                            refine lv_topl (fun yl302 h9 => ?_)
                                            obtain rfl : yl302 = kz_lz (z298 + (((d299 k207 : Nat) : Int))) := h9.trans (kz_lz_add _ _)
                                            refine lv_iload hx hb zd_N_remain_225 (lv_at hl 0 rfl) ?_
                                            refine lv_bipush (v := (nI (16))) hx hb zd_N_remain_227 (by decide) ?_
                                            refine lv_icmp_ge (tgt := 246) hx hb zd_N_remain_229 (by decide) (fun hc229 => ?_) (fun hc229 => ?_)
                                            · have hc229 : 16 ≤ k207 := (nI_leI (by omega) (by omega)).mp hc229
                                              refine lv_lconst (v := 0) hx hb zd_N_remain_246 (by decide) ?_
                                              refine lv_topl (fun yl303 h9 => ?_)
                                              obtain rfl : yl303 = kz_lz (0) := h9.trans (kz_lz_c0)
                                              refine lv_lsub hx hb zd_N_remain_247 ?_
                                              refine lv_topl (fun yl304 h9 => ?_)
                                              obtain rfl : yl304 = kz_lz ((z298 + (((d299 k207 : Nat) : Int))) - 0) := h9.trans (kz_lz_sub _ _)
                                              refine lv_topl (fun yl306 h9 => ?_)
                                              obtain ⟨z305, ez305, rfl⟩ : ∃ z : Int, z = (z298 + (((d299 k207 : Nat) : Int))) - 0 ∧ yl306 = kz_lz z := ⟨_, rfl, h9⟩
                                              refine lv_lstore (lv' := [(10, .long (kz_lz (z305))), (12, .int (nI (k207))), (8, .long (kz_lz (z293))), (6, .long (kz_lz (z247))), (5, .int (nI (k78p))), (3, .long (kz_lz (z223))), (2, .int (nI (k3))), (0, .ref o), (1, .ref t)]) hx hb zd_N_remain_248 hl (by decide) rfl (fun ls hl => ?_)
                                              have hm9 := kv_qm (q := z293) (by omega) hQ1 (hd_gmm k207)
                                              have ht9 : z305 = z298 + ((d235 k207 : Nat) : Int) - z293 * ((kv_m18 gmm k207 : Nat) : Int) := by rw [ez305, ← hge k207 (Nat.le_refl _)]; unfold kv_m18; first | (rw [if_pos (by omega)]; done) | (rw [if_neg (by omega)]; show _ = _ - z293 * 0; omega)
                                              refine lv_aload_n hx hb zd_N_remain_250 rfl (lv_at hl 7 rfl) ?_
                                              refine va_get (D := (dC, dI)) (ci := 4) (v := .ref me) (C := zR_N) (T := zT_N) (N := 26) hx hb hts (fun w h => kz_c (zi_N w h)) hown hK (hro.ob hdy.2.2 (k := 0) rfl) 0 rfl rfl 14 (by decide) (hts _ (kz_c mw_605)) (fun _ h9 => h9) rfl zd_N_remain_251 ?_
                                              refine lv_iload hx hb zd_N_remain_254 (lv_at hl 1 rfl) ?_
                                              refine lv_lload hx hb zd_N_remain_256 (lv_at hl 0 rfl) ?_
                                              refine lv_ldc2 (v := (65535)) hx hb hown (hts _ (kz_c mw_708)) zd_N_remain_258 ?_
                                              refine lv_topl (fun yl307 h9 => ?_)
                                              obtain rfl : yl307 = kz_lz (65535) := h9.trans (kz_lz_c65535)
                                              refine lv_land hx hb zd_N_remain_261 ?_
                                              refine lv_topl (fun yl308 h9 => ?_)
                                              obtain rfl : yl308 = kz_lz (z305 % 65536) := h9.trans (kz_lz_andz _)
                                              refine lv_l2i hx hb zd_N_remain_262 (kz_lz_i16 (z305)) ?_
                                              refine va_iast hx hb hK hdy.1 hdy.2.1 hdy.2.2 0 0 rfl rfl (vp_in_nI (by omega) (by omega)) zd_N_remain_263 (fun H locs hP hD hS => ?_)
                                              have h9 := kz_dgu d299 (k := k207) ((z305 % 65536).toNat) (by omega)
                                              rw [h9] at hP hD
                                              obtain ⟨f309, ef309, hd_f309, hdy⟩ : ∃ f309 : Nat → Nat, f309 = kv_up d299 k207 ((z305 % 65536).toNat) ∧ (∀ j, f309 j < 65536) ∧ kz_dy (dC, dI) vwCl A s.heap H locs [(me, .inl (cI, 18, .inl (kz_dg f309))), (t, .inl (cI, 16, .inl (kz_dg gt)))] := ⟨_, rfl, kv_up_lt hd_d299 (by omega), hP, hD, hS⟩
                                              refine lv_lload hx hb zd_N_remain_264 (lv_at hl 0 rfl) ?_
                                              refine lv_bipush (v := (nI (16))) hx hb zd_N_remain_266 (by decide) ?_
                                              refine lv_lshr hx hb zd_N_remain_268 (kz_lz_shr (z := z305) (by omega) (by omega)) ?_
                                              refine lv_topl (fun yl311 h9 => ?_)
                                              obtain ⟨z310, ez310, rfl⟩ : ∃ z : Int, z = z305 / 65536 ∧ yl311 = kz_lz z := ⟨_, rfl, h9⟩
                                              refine lv_lstore (lv' := [(10, .long (kz_lz (z310))), (12, .int (nI (k207))), (8, .long (kz_lz (z293))), (6, .long (kz_lz (z247))), (5, .int (nI (k78p))), (3, .long (kz_lz (z223))), (2, .int (nI (k3))), (0, .ref o), (1, .ref t)]) hx hb zd_N_remain_269 hl (by decide) rfl (fun ls hl => ?_)
                                              refine lv_iinc (v := (nI (k207 + 1))) (lv' := [(12, .int (nI (k207 + 1))), (10, .long (kz_lz (z310))), (8, .long (kz_lz (z293))), (6, .long (kz_lz (z247))), (5, .int (nI (k78p))), (3, .long (kz_lz (z223))), (2, .int (nI (k3))), (0, .ref o), (1, .ref t)]) hx hb zd_N_remain_271 hl (k := 1) rfl (nI_1 _) (by decide) rfl (fun ls hl => ?_)
                                              refine lv_goto (tgt := 207) hx hb zd_N_remain_274 (by decide) ?_
                                              have hi9_hlo312 : -8589934592 ≤ z310 := by omega
                                              have hi9_hhi313 : z310 ≤ 1 := by omega
                                              have hi9_hI314 : ((kv_val f309 (k207 + 1) : Nat) : Int) + z310 * (65536 : Int) ^ (k207 + 1) = ((kv_val d235 (k207 + 1) : Nat) : Int) - z293 * ((kv_val (kv_m18 gmm) (k207 + 1) : Nat) : Int) := by rw [ef309, ez310]; exact kv_subStep hI ht9
                                              have hi9_hge315 : ∀ j, k207 + 1 ≤ j → f309 j = d235 j := by intro j hj; rw [ef309, kv_up_ne _ _ (by omega)]; exact hge j (by omega)
                                              exact ih207 (k207 + 1) (z310) f309 _ _ _ (by omega) (by omega) hd_f309 hi9_hlo312 hi9_hhi313 hi9_hI314 hi9_hge315 hdy (lv_sub hl [0, 1, 2, 3, 4, 5, 6, 7, 8] rfl)
                                            · have hc229 : ¬ 16 ≤ k207 := fun h9 => hc229 ((nI_leI (by omega) (by omega)).mpr h9)
                                              refine lv_lload hx hb zd_N_remain_232 (lv_at hl 2 rfl) ?_
                                              refine lv_aload_n hx hb zd_N_remain_234 rfl (lv_at hl 7 rfl) ?_
                                              refine va_get (D := (dC, dI)) (ci := 4) (v := .ref mm) (C := zR_N) (T := zT_N) (N := 26) hx hb hts (fun w h => kz_c (zi_N w h)) hown hK (hro.ob hdy.2.2 (k := 0) rfl) 0 rfl rfl 9 (by decide) (hts _ (kz_c mw_600)) (fun _ h9 => h9) rfl zd_N_remain_235 ?_
                                              refine lv_iload hx hb zd_N_remain_238 (lv_at hl 0 rfl) ?_
                                              refine kz_riald hx hb hK hro hdy.2.2 1 0 rfl rfl (vp_in_nI (by omega) (by omega)) zd_N_remain_240 ?_
                                              refine lv_topi (fun x316 h9 => ?_)
                                              obtain rfl : x316 = nI (gmm k207) := h9.trans (kz_dgl gmm (by omega))
                                              have hbx316 := hd_gmm k207
                                              refine lv_i2l hx hb zd_N_remain_241 (kz_lz_i (n := gmm k207) (by omega)) ?_
                                              refine lv_lmul hx hb zd_N_remain_242 ?_
                                              refine lv_topl (fun yl317 h9 => ?_)
                                              obtain rfl : yl317 = kz_lz (z293 * (((gmm k207 : Nat) : Int))) := h9.trans (kz_lz_mul _ _)
                                              refine lv_goto (tgt := 247) hx hb zd_N_remain_243 (by decide) ?_
                                              refine lv_lsub hx hb zd_N_remain_247 ?_
                                              refine lv_topl (fun yl318 h9 => ?_)
                                              obtain rfl : yl318 = kz_lz ((z298 + (((d299 k207 : Nat) : Int))) - (z293 * (((gmm k207 : Nat) : Int)))) := h9.trans (kz_lz_sub _ _)
                                              refine lv_topl (fun yl320 h9 => ?_)
                                              obtain ⟨z319, ez319, rfl⟩ : ∃ z : Int, z = (z298 + (((d299 k207 : Nat) : Int))) - (z293 * (((gmm k207 : Nat) : Int))) ∧ yl320 = kz_lz z := ⟨_, rfl, h9⟩
                                              refine lv_lstore (lv' := [(10, .long (kz_lz (z319))), (12, .int (nI (k207))), (8, .long (kz_lz (z293))), (6, .long (kz_lz (z247))), (5, .int (nI (k78p))), (3, .long (kz_lz (z223))), (2, .int (nI (k3))), (0, .ref o), (1, .ref t)]) hx hb zd_N_remain_248 hl (by decide) rfl (fun ls hl => ?_)
                                              have hm9 := kv_qm (q := z293) (by omega) hQ1 (hd_gmm k207)
                                              have ht9 : z319 = z298 + ((d235 k207 : Nat) : Int) - z293 * ((kv_m18 gmm k207 : Nat) : Int) := by rw [ez319, ← hge k207 (Nat.le_refl _)]; unfold kv_m18; first | (rw [if_pos (by omega)]; done) | (rw [if_neg (by omega)]; show _ = _ - z293 * 0; omega)
                                              refine lv_aload_n hx hb zd_N_remain_250 rfl (lv_at hl 7 rfl) ?_
                                              refine va_get (D := (dC, dI)) (ci := 4) (v := .ref me) (C := zR_N) (T := zT_N) (N := 26) hx hb hts (fun w h => kz_c (zi_N w h)) hown hK (hro.ob hdy.2.2 (k := 0) rfl) 0 rfl rfl 14 (by decide) (hts _ (kz_c mw_605)) (fun _ h9 => h9) rfl zd_N_remain_251 ?_
                                              refine lv_iload hx hb zd_N_remain_254 (lv_at hl 1 rfl) ?_
                                              refine lv_lload hx hb zd_N_remain_256 (lv_at hl 0 rfl) ?_
                                              refine lv_ldc2 (v := (65535)) hx hb hown (hts _ (kz_c mw_708)) zd_N_remain_258 ?_
                                              refine lv_topl (fun yl321 h9 => ?_)
                                              obtain rfl : yl321 = kz_lz (65535) := h9.trans (kz_lz_c65535)
                                              refine lv_land hx hb zd_N_remain_261 ?_
                                              refine lv_topl (fun yl322 h9 => ?_)
                                              obtain rfl : yl322 = kz_lz (z319 % 65536) := h9.trans (kz_lz_andz _)
                                              refine lv_l2i hx hb zd_N_remain_262 (kz_lz_i16 (z319)) ?_
                                              refine va_iast hx hb hK hdy.1 hdy.2.1 hdy.2.2 0 0 rfl rfl (vp_in_nI (by omega) (by omega)) zd_N_remain_263 (fun H locs hP hD hS => ?_)
                                              have h9 := kz_dgu d299 (k := k207) ((z319 % 65536).toNat) (by omega)
                                              rw [h9] at hP hD
                                              obtain ⟨f323, ef323, hd_f323, hdy⟩ : ∃ f323 : Nat → Nat, f323 = kv_up d299 k207 ((z319 % 65536).toNat) ∧ (∀ j, f323 j < 65536) ∧ kz_dy (dC, dI) vwCl A s.heap H locs [(me, .inl (cI, 18, .inl (kz_dg f323))), (t, .inl (cI, 16, .inl (kz_dg gt)))] := ⟨_, rfl, kv_up_lt hd_d299 (by omega), hP, hD, hS⟩
                                              refine lv_lload hx hb zd_N_remain_264 (lv_at hl 0 rfl) ?_
                                              refine lv_bipush (v := (nI (16))) hx hb zd_N_remain_266 (by decide) ?_
                                              refine lv_lshr hx hb zd_N_remain_268 (kz_lz_shr (z := z319) (by omega) (by omega)) ?_
                                              refine lv_topl (fun yl325 h9 => ?_)
                                              obtain ⟨z324, ez324, rfl⟩ : ∃ z : Int, z = z319 / 65536 ∧ yl325 = kz_lz z := ⟨_, rfl, h9⟩
                                              refine lv_lstore (lv' := [(10, .long (kz_lz (z324))), (12, .int (nI (k207))), (8, .long (kz_lz (z293))), (6, .long (kz_lz (z247))), (5, .int (nI (k78p))), (3, .long (kz_lz (z223))), (2, .int (nI (k3))), (0, .ref o), (1, .ref t)]) hx hb zd_N_remain_269 hl (by decide) rfl (fun ls hl => ?_)
                                              refine lv_iinc (v := (nI (k207 + 1))) (lv' := [(12, .int (nI (k207 + 1))), (10, .long (kz_lz (z324))), (8, .long (kz_lz (z293))), (6, .long (kz_lz (z247))), (5, .int (nI (k78p))), (3, .long (kz_lz (z223))), (2, .int (nI (k3))), (0, .ref o), (1, .ref t)]) hx hb zd_N_remain_271 hl (k := 1) rfl (nI_1 _) (by decide) rfl (fun ls hl => ?_)
                                              refine lv_goto (tgt := 207) hx hb zd_N_remain_274 (by decide) ?_
                                              have hi9_hlo326 : -8589934592 ≤ z324 := by omega
                                              have hi9_hhi327 : z324 ≤ 1 := by omega
                                              have hi9_hI328 : ((kv_val f323 (k207 + 1) : Nat) : Int) + z324 * (65536 : Int) ^ (k207 + 1) = ((kv_val d235 (k207 + 1) : Nat) : Int) - z293 * ((kv_val (kv_m18 gmm) (k207 + 1) : Nat) : Int) := by rw [ef323, ez324]; exact kv_subStep hI ht9
                                              have hi9_hge329 : ∀ j, k207 + 1 ≤ j → f323 j = d235 j := by intro j hj; rw [ef323, kv_up_ne _ _ (by omega)]; exact hge j (by omega)
                                              exact ih207 (k207 + 1) (z324) f323 _ _ _ (by omega) (by omega) hd_f323 hi9_hlo326 hi9_hhi327 hi9_hI328 hi9_hge329 hdy (lv_sub hl [0, 1, 2, 3, 4, 5, 6, 7, 8] rfl)
                                      have hi9_hlo330 : -8589934592 ≤ z296 := by omega
                                      have hi9_hhi331 : z296 ≤ 1 := by omega
                                      have hi9_hI332 : ((kv_val d235 (0) : Nat) : Int) + z296 * (65536 : Int) ^ (0) = ((kv_val d235 (0) : Nat) : Int) - z293 * ((kv_val (kv_m18 gmm) (0) : Nat) : Int) := by rw [ez296]; show (0 : Int) + 0 * _ = 0 - z293 * 0; omega
                                      have hi9_hge333 : ∀ j, 0 ≤ j → d235 j = d235 j := by exact fun _ _ => rfl
                                      exact lp207 (18 - 0 + 1) 0 (z296) d235 _ _ _ (by omega) (by omega) hd_d235 hi9_hlo330 hi9_hhi331 hi9_hI332 hi9_hge333 hdy (lv_sub hl [0, 1, 2, 3, 4, 5, 6, 7, 8] rfl)
                                  · have hc161 : ¬ k3 ≤ 0 := fun h9 => hc161 (by have h8 := (nI_leI (by omega) (by omega)).mpr h9; rw [nI_0] at h8; exact h8)
                                    refine lv_aload_n hx hb zd_N_remain_164 rfl (lv_at hl 3 rfl) ?_
                                    refine va_get (D := (dC, dI)) (ci := 4) (v := .ref me) (C := zR_N) (T := zT_N) (N := 26) hx hb hts (fun w h => kz_c (zi_N w h)) hown hK (hro.ob hdy.2.2 (k := 0) rfl) 0 rfl rfl 14 (by decide) (hts _ (kz_c mw_605)) (fun _ h9 => h9) rfl zd_N_remain_165 ?_
                                    refine lv_iload_n hx hb zd_N_remain_168 rfl (lv_at hl 2 rfl) ?_
                                    refine lv_iconst (v := (nI (1))) hx hb zd_N_remain_169 (by decide) ?_
                                    refine kz_isub hx hb zd_N_remain_170 (pk_sub (by omega)) ?_
                                    refine va_iald hx hb hK hdy.1 0 0 rfl rfl (vp_in_nI (by omega) (by omega)) zd_N_remain_171 ?_
                                    refine lv_topi (fun x334 h9 => ?_)
                                    obtain rfl : x334 = nI (d235 (k3 - 1)) := h9.trans (kz_dgl d235 (by omega))
                                    have hbx334 := hd_d235 (k3 - 1)
                                    refine lv_goto (tgt := 176) hx hb zd_N_remain_172 (by decide) ?_
                                    refine lv_i2l hx hb zd_N_remain_176 (kz_lz_i (n := d235 (k3 - 1)) (by omega)) ?_
                                    refine lv_ladd hx hb zd_N_remain_177 ?_
                                    refine lv_topl (fun yl335 h9 => ?_)
                                    obtain rfl : yl335 = kz_lz ((65536 * ((65536 * (((d235 (k3 + 1) : Nat) : Int))) + (((d235 k3 : Nat) : Int)))) + (((d235 (k3 - 1) : Nat) : Int))) := h9.trans (kz_lz_add _ _)
                                    refine lv_topl (fun yl337 h9 => ?_)
                                    obtain ⟨z336, ez336, rfl⟩ : ∃ z : Int, z = (65536 * ((65536 * (((d235 (k3 + 1) : Nat) : Int))) + (((d235 k3 : Nat) : Int)))) + (((d235 (k3 - 1) : Nat) : Int)) ∧ yl337 = kz_lz z := ⟨_, rfl, h9⟩
                                    refine lv_lstore (lv' := [(6, .long (kz_lz (z336))), (5, .int (nI (k78p))), (3, .long (kz_lz (z223))), (2, .int (nI (k3))), (0, .ref o), (1, .ref t)]) hx hb zd_N_remain_178 hl (by decide) rfl (fun ls hl => ?_)
                                    refine lv_lload hx hb zd_N_remain_180 (lv_at hl 0 rfl) ?_
                                    refine lv_lload_n hx hb zd_N_remain_182 rfl (lv_at hl 2 rfl) ?_
                                    refine lv_ldiv hx hb zd_N_remain_183 (kz_lz_ne0 (by omega) (by omega)) ?_
                                    refine lv_topl (fun yl338 h9 => ?_)
                                    obtain rfl : yl338 = kz_lz (z336 / z223) := h9.trans (kz_lz_divz (by omega) (by omega) (by omega) (by omega))
                                    refine lv_topl (fun yl340 h9 => ?_)
                                    obtain ⟨z339, ez339, rfl⟩ : ∃ z : Int, z = z336 / z223 ∧ yl340 = kz_lz z := ⟨_, rfl, h9⟩
                                    refine lv_lstore (lv' := [(8, .long (kz_lz (z339))), (6, .long (kz_lz (z336))), (5, .int (nI (k78p))), (3, .long (kz_lz (z223))), (2, .int (nI (k3))), (0, .ref o), (1, .ref t)]) hx hb zd_N_remain_184 hl (by decide) rfl (fun ls hl => ?_)
                                    have hqz : 0 ≤ z339 ∧ z339 < 4294967296 ∧ z339.toNat * kv_val (kv_m18 gmm) 18 ≤ kv_val d235 18 := by first | exact kv_qZ1 hd_gmm hd_d235 (by omega) (by omega) (by omega) htz ez223 ez336 ez339 | (exfalso; omega) | (obtain rfl : k3 = 0 := (by omega); exact kv_qZ0 hd_gmm hd_d235 (by omega) htz ez223 ez336 ez339)
                                    obtain ⟨hq0, hq1, hq2⟩ := hqz
                                    refine lv_lload hx hb zd_N_remain_186 (lv_at hl 0 rfl) ?_
                                    refine lv_lconst (v := 1) hx hb zd_N_remain_188 (by decide) ?_
                                    refine lv_topl (fun yl341 h9 => ?_)
                                    obtain rfl : yl341 = kz_lz (1) := h9.trans (kz_lz_c1)
                                    refine kz_lge (tgt := 197) hx hb zd_N_remain_189 zd_N_remain_190 (by decide) (fun hc190 => ?_) (fun hc190 => ?_)
                                    · have hc190 : ¬ z339 < 1 := fun h9 => hc190 ((kz_lz_lt (by omega) (by omega) (by omega) (by omega)).mpr h9)
                                      refine lv_lload hx hb zd_N_remain_197 (lv_at hl 0 rfl) ?_
                                      refine lv_lstore (lv' := [(8, .long (kz_lz (z339))), (6, .long (kz_lz (z336))), (5, .int (nI (k78p))), (3, .long (kz_lz (z223))), (2, .int (nI (k3))), (0, .ref o), (1, .ref t)]) hx hb zd_N_remain_199 hl (by decide) rfl (fun ls hl => ?_)
                                      have hQ0 : 1 ≤ z339 := by omega
                                      have hQ1 : z339 < 4294967296 := by omega
                                      have hQ2 : z339.toNat * kv_val (kv_m18 gmm) 18 ≤ kv_val d235 18 := hq2
                                      refine lv_lconst (v := 0) hx hb zd_N_remain_201 (by decide) ?_
                                      refine lv_topl (fun yl342 h9 => ?_)
                                      obtain rfl : yl342 = kz_lz (0) := h9.trans (kz_lz_c0)
                                      refine lv_topl (fun yl344 h9 => ?_)
                                      obtain ⟨z343, ez343, rfl⟩ : ∃ z : Int, z = 0 ∧ yl344 = kz_lz z := ⟨_, rfl, h9⟩
                                      refine lv_lstore (lv' := [(10, .long (kz_lz (z343))), (8, .long (kz_lz (z339))), (6, .long (kz_lz (z336))), (5, .int (nI (k78p))), (3, .long (kz_lz (z223))), (2, .int (nI (k3))), (0, .ref o), (1, .ref t)]) hx hb zd_N_remain_202 hl (by decide) rfl (fun ls hl => ?_)
                                      refine lv_iconst (v := (nI (0))) hx hb zd_N_remain_204 (by decide) ?_
                                      refine lv_istore (lv' := [(12, .int (nI (0))), (10, .long (kz_lz (z343))), (8, .long (kz_lz (z339))), (6, .long (kz_lz (z336))), (5, .int (nI (k78p))), (3, .long (kz_lz (z223))), (2, .int (nI (k3))), (0, .ref o), (1, .ref t)]) hx hb zd_N_remain_205 hl (by decide) rfl (fun ls hl => ?_)
                                      have lp207 : ∀ (n207 k207 : Nat) (z345 : Int) (d346 : Nat → Nat) (H : Heap) (locs : List Loc) (ls : Array Slot), k207 ≤ 18 → 18 - k207 < n207 → (∀ j, d346 j < 65536) → (-8589934592 ≤ z345) → (z345 ≤ 1) → (((kv_val d346 (k207) : Nat) : Int) + z345 * (65536 : Int) ^ (k207) = ((kv_val d235 (k207) : Nat) : Int) - z339 * ((kv_val (kv_m18 gmm) (k207) : Nat) : Int)) → (∀ j, k207 ≤ j → d346 j = d235 j) → kz_dy (dC, dI) vwCl A s.heap H locs [(me, .inl (cI, 18, .inl (kz_dg d346))), (t, .inl (cI, 16, .inl (kz_dg gt)))] → lv_has ls 13 [(12, .int (nI (k207))), (10, .long (kz_lz (z345))), (8, .long (kz_lz (z339))), (6, .long (kz_lz (z336))), (5, .int (nI (k78p))), (3, .long (kz_lz (z223))), (2, .int (nI (k3))), (0, .ref o), (1, .ref t)] → W p l e { frames := 1, cells := 0, slots := 0, locals := 23 } s m ([.ref o, .ref t] : List Value).toArray below meth c H locs 0 0 (MQ below (va_Qv (fun (u : (Nat → Nat) × (Nat → Nat)) => (∀ j, u.1 j < 65536) ∧ (∀ j, u.2 j < 65536) ∧ (kv_val u.2 16 = kv_val gmx 32 % kv_val gmm 16) ∧ True) (kz_B (dC, dI) vwCl A (fun u : (Nat → Nat) × (Nat → Nat) => [(me, .inl (cI, 18, .inl (kz_dg u.1))), (t, .inl (cI, 16, .inl (kz_dg u.2)))])) A) ([.ref o, .ref t] : List Value).toArray s 0 0 A) (F0 m 207 ls []) := by
                                        intro n207
                                        induction n207 with
                                        | zero => intro k207; intros; omega
                                        | succ n207 ih207 =>
                                          intro k207 z345 d346 H locs ls hi207 hn207 hd_d346 hlo hhi hI hge hdy hl
                                          refine lv_iload hx hb zd_N_remain_207 (lv_at hl 0 rfl) ?_
                                          refine lv_bipush (v := (nI (18))) hx hb zd_N_remain_209 (by decide) ?_
                                          refine lv_icmp_ge (tgt := 277) hx hb zd_N_remain_211 (by decide) (fun hc211 => ?_) (fun hc211 => ?_)
                                          · have hc211 : 18 ≤ k207 := (nI_leI (by omega) (by omega)).mp hc211
                                            refine lv_goto (tgt := 127) hx hb zd_N_remain_277 (by decide) ?_
                                            have hi9_hV347 : kv_val d346 18 % kv_val gmm 16 = kv_hiN 32 gmx k78p % kv_val gmm 16 := by have h18 : k207 = 18 := (by omega); subst h18; have h8 := kv_subExact (q := z339.toNat) hd_d346 hd_d235 hQ2 (by have h7 : ((z339.toNat : Nat) : Int) = z339 := (by omega); rw [h7]; exact hI); rw [hm18] at h8; exact kv_takeMod h8 hV
                                            have hms127 : kv_val d346 18 < n127 := by have h18 : k207 = 18 := (by omega); subst h18; have h8 := kv_subEnd (q := z339.toNat) hd_d346 hd_d235 (by omega) hmv hQ2 (by have h7 : ((z339.toNat : Nat) : Int) = z339 := (by omega); rw [h7]; exact hI); omega
                                            exact ih127 d346 _ _ _ hms127 hd_d346 hi9_hV347 hdy (lv_sub hl [4, 5, 6, 7, 8] rfl)
                                          · have hc211 : ¬ 18 ≤ k207 := fun h9 => hc211 ((nI_leI (by omega) (by omega)).mpr h9)
                                            refine lv_lload hx hb zd_N_remain_214 (lv_at hl 1 rfl) ?_
                                            refine lv_aload_n hx hb zd_N_remain_216 rfl (lv_at hl 7 rfl) ?_
                                            refine va_get (D := (dC, dI)) (ci := 4) (v := .ref me) (C := zR_N) (T := zT_N) (N := 26) hx hb hts (fun w h => kz_c (zi_N w h)) hown hK (hro.ob hdy.2.2 (k := 0) rfl) 0 rfl rfl 14 (by decide) (hts _ (kz_c mw_605)) (fun _ h9 => h9) rfl zd_N_remain_217 ?_
                                            refine lv_iload hx hb zd_N_remain_220 (lv_at hl 0 rfl) ?_
                                            refine va_iald hx hb hK hdy.1 0 0 rfl rfl (vp_in_nI (by omega) (by omega)) zd_N_remain_222 ?_
                                            refine lv_topi (fun x348 h9 => ?_)
                                            obtain rfl : x348 = nI (d346 k207) := h9.trans (kz_dgl d346 (by omega))
                                            have hbx348 := hd_d346 k207
                                            refine lv_i2l hx hb zd_N_remain_223 (kz_lz_i (n := d346 k207) (by omega)) ?_
                                            refine lv_ladd hx hb zd_N_remain_224 ?_
                                            refine lv_topl (fun yl349 h9 => ?_)
                                            obtain rfl : yl349 = kz_lz (z345 + (((d346 k207 : Nat) : Int))) := h9.trans (kz_lz_add _ _)
                                            refine lv_iload hx hb zd_N_remain_225 (lv_at hl 0 rfl) ?_
                                            refine lv_bipush (v := (nI (16))) hx hb zd_N_remain_227 (by decide) ?_
                                            refine lv_icmp_ge (tgt := 246) hx hb zd_N_remain_229 (by decide) (fun hc229 => ?_) (fun hc229 => ?_)
                                            · have hc229 : 16 ≤ k207 := (nI_leI (by omega) (by omega)).mp hc229
                                              refine lv_lconst (v := 0) hx hb zd_N_remain_246 (by decide) ?_
                                              refine lv_topl (fun yl350 h9 => ?_)
                                              obtain rfl : yl350 = kz_lz (0) := h9.trans (kz_lz_c0)
                                              refine lv_lsub hx hb zd_N_remain_247 ?_
                                              refine lv_topl (fun yl351 h9 => ?_)
                                              obtain rfl : yl351 = kz_lz ((z345 + (((d346 k207 : Nat) : Int))) - 0) := h9.trans (kz_lz_sub _ _)
                                              refine lv_topl (fun yl353 h9 => ?_)
                                              obtain ⟨z352, ez352, rfl⟩ : ∃ z : Int, z = (z345 + (((d346 k207 : Nat) : Int))) - 0 ∧ yl353 = kz_lz z := ⟨_, rfl, h9⟩
                                              refine lv_lstore (lv' := [(10, .long (kz_lz (z352))), (12, .int (nI (k207))), (8, .long (kz_lz (z339))), (6, .long (kz_lz (z336))), (5, .int (nI (k78p))), (3, .long (kz_lz (z223))), (2, .int (nI (k3))), (0, .ref o), (1, .ref t)]) hx hb zd_N_remain_248 hl (by decide) rfl (fun ls hl => ?_)
                                              have hm9 := kv_qm (q := z339) (by omega) hQ1 (hd_gmm k207)
                                              have ht9 : z352 = z345 + ((d235 k207 : Nat) : Int) - z339 * ((kv_m18 gmm k207 : Nat) : Int) := by rw [ez352, ← hge k207 (Nat.le_refl _)]; unfold kv_m18; first | (rw [if_pos (by omega)]; done) | (rw [if_neg (by omega)]; show _ = _ - z339 * 0; omega)
                                              refine lv_aload_n hx hb zd_N_remain_250 rfl (lv_at hl 7 rfl) ?_
                                              refine va_get (D := (dC, dI)) (ci := 4) (v := .ref me) (C := zR_N) (T := zT_N) (N := 26) hx hb hts (fun w h => kz_c (zi_N w h)) hown hK (hro.ob hdy.2.2 (k := 0) rfl) 0 rfl rfl 14 (by decide) (hts _ (kz_c mw_605)) (fun _ h9 => h9) rfl zd_N_remain_251 ?_
                                              refine lv_iload hx hb zd_N_remain_254 (lv_at hl 1 rfl) ?_
                                              refine lv_lload hx hb zd_N_remain_256 (lv_at hl 0 rfl) ?_
                                              refine lv_ldc2 (v := (65535)) hx hb hown (hts _ (kz_c mw_708)) zd_N_remain_258 ?_
                                              refine lv_topl (fun yl354 h9 => ?_)
                                              obtain rfl : yl354 = kz_lz (65535) := h9.trans (kz_lz_c65535)
                                              refine lv_land hx hb zd_N_remain_261 ?_
                                              refine lv_topl (fun yl355 h9 => ?_)
                                              obtain rfl : yl355 = kz_lz (z352 % 65536) := h9.trans (kz_lz_andz _)
                                              refine lv_l2i hx hb zd_N_remain_262 (kz_lz_i16 (z352)) ?_
                                              refine va_iast hx hb hK hdy.1 hdy.2.1 hdy.2.2 0 0 rfl rfl (vp_in_nI (by omega) (by omega)) zd_N_remain_263 (fun H locs hP hD hS => ?_)
                                              have h9 := kz_dgu d346 (k := k207) ((z352 % 65536).toNat) (by omega)
                                              rw [h9] at hP hD
                                              obtain ⟨f356, ef356, hd_f356, hdy⟩ : ∃ f356 : Nat → Nat, f356 = kv_up d346 k207 ((z352 % 65536).toNat) ∧ (∀ j, f356 j < 65536) ∧ kz_dy (dC, dI) vwCl A s.heap H locs [(me, .inl (cI, 18, .inl (kz_dg f356))), (t, .inl (cI, 16, .inl (kz_dg gt)))] := ⟨_, rfl, kv_up_lt hd_d346 (by omega), hP, hD, hS⟩
                                              refine lv_lload hx hb zd_N_remain_264 (lv_at hl 0 rfl) ?_
                                              refine lv_bipush (v := (nI (16))) hx hb zd_N_remain_266 (by decide) ?_
                                              refine lv_lshr hx hb zd_N_remain_268 (kz_lz_shr (z := z352) (by omega) (by omega)) ?_
                                              refine lv_topl (fun yl358 h9 => ?_)
                                              obtain ⟨z357, ez357, rfl⟩ : ∃ z : Int, z = z352 / 65536 ∧ yl358 = kz_lz z := ⟨_, rfl, h9⟩
                                              refine lv_lstore (lv' := [(10, .long (kz_lz (z357))), (12, .int (nI (k207))), (8, .long (kz_lz (z339))), (6, .long (kz_lz (z336))), (5, .int (nI (k78p))), (3, .long (kz_lz (z223))), (2, .int (nI (k3))), (0, .ref o), (1, .ref t)]) hx hb zd_N_remain_269 hl (by decide) rfl (fun ls hl => ?_)
                                              refine lv_iinc (v := (nI (k207 + 1))) (lv' := [(12, .int (nI (k207 + 1))), (10, .long (kz_lz (z357))), (8, .long (kz_lz (z339))), (6, .long (kz_lz (z336))), (5, .int (nI (k78p))), (3, .long (kz_lz (z223))), (2, .int (nI (k3))), (0, .ref o), (1, .ref t)]) hx hb zd_N_remain_271 hl (k := 1) rfl (nI_1 _) (by decide) rfl (fun ls hl => ?_)
                                              refine lv_goto (tgt := 207) hx hb zd_N_remain_274 (by decide) ?_
                                              have hi9_hlo359 : -8589934592 ≤ z357 := by omega
                                              have hi9_hhi360 : z357 ≤ 1 := by omega
                                              have hi9_hI361 : ((kv_val f356 (k207 + 1) : Nat) : Int) + z357 * (65536 : Int) ^ (k207 + 1) = ((kv_val d235 (k207 + 1) : Nat) : Int) - z339 * ((kv_val (kv_m18 gmm) (k207 + 1) : Nat) : Int) := by rw [ef356, ez357]; exact kv_subStep hI ht9
                                              have hi9_hge362 : ∀ j, k207 + 1 ≤ j → f356 j = d235 j := by intro j hj; rw [ef356, kv_up_ne _ _ (by omega)]; exact hge j (by omega)
                                              exact ih207 (k207 + 1) (z357) f356 _ _ _ (by omega) (by omega) hd_f356 hi9_hlo359 hi9_hhi360 hi9_hI361 hi9_hge362 hdy (lv_sub hl [0, 1, 2, 3, 4, 5, 6, 7, 8] rfl)
                                            · have hc229 : ¬ 16 ≤ k207 := fun h9 => hc229 ((nI_leI (by omega) (by omega)).mpr h9)
                                              refine lv_lload hx hb zd_N_remain_232 (lv_at hl 2 rfl) ?_
                                              refine lv_aload_n hx hb zd_N_remain_234 rfl (lv_at hl 7 rfl) ?_
                                              refine va_get (D := (dC, dI)) (ci := 4) (v := .ref mm) (C := zR_N) (T := zT_N) (N := 26) hx hb hts (fun w h => kz_c (zi_N w h)) hown hK (hro.ob hdy.2.2 (k := 0) rfl) 0 rfl rfl 9 (by decide) (hts _ (kz_c mw_600)) (fun _ h9 => h9) rfl zd_N_remain_235 ?_
                                              refine lv_iload hx hb zd_N_remain_238 (lv_at hl 0 rfl) ?_
                                              refine kz_riald hx hb hK hro hdy.2.2 1 0 rfl rfl (vp_in_nI (by omega) (by omega)) zd_N_remain_240 ?_
                                              refine lv_topi (fun x363 h9 => ?_)
                                              obtain rfl : x363 = nI (gmm k207) := h9.trans (kz_dgl gmm (by omega))
                                              have hbx363 := hd_gmm k207
                                              refine lv_i2l hx hb zd_N_remain_241 (kz_lz_i (n := gmm k207) (by omega)) ?_
                                              refine lv_lmul hx hb zd_N_remain_242 ?_
                                              refine lv_topl (fun yl364 h9 => ?_)
                                              obtain rfl : yl364 = kz_lz (z339 * (((gmm k207 : Nat) : Int))) := h9.trans (kz_lz_mul _ _)
                                              refine lv_goto (tgt := 247) hx hb zd_N_remain_243 (by decide) ?_
                                              refine lv_lsub hx hb zd_N_remain_247 ?_
                                              refine lv_topl (fun yl365 h9 => ?_)
                                              obtain rfl : yl365 = kz_lz ((z345 + (((d346 k207 : Nat) : Int))) - (z339 * (((gmm k207 : Nat) : Int)))) := h9.trans (kz_lz_sub _ _)
                                              refine lv_topl (fun yl367 h9 => ?_)
                                              obtain ⟨z366, ez366, rfl⟩ : ∃ z : Int, z = (z345 + (((d346 k207 : Nat) : Int))) - (z339 * (((gmm k207 : Nat) : Int))) ∧ yl367 = kz_lz z := ⟨_, rfl, h9⟩
                                              refine lv_lstore (lv' := [(10, .long (kz_lz (z366))), (12, .int (nI (k207))), (8, .long (kz_lz (z339))), (6, .long (kz_lz (z336))), (5, .int (nI (k78p))), (3, .long (kz_lz (z223))), (2, .int (nI (k3))), (0, .ref o), (1, .ref t)]) hx hb zd_N_remain_248 hl (by decide) rfl (fun ls hl => ?_)
                                              have hm9 := kv_qm (q := z339) (by omega) hQ1 (hd_gmm k207)
                                              have ht9 : z366 = z345 + ((d235 k207 : Nat) : Int) - z339 * ((kv_m18 gmm k207 : Nat) : Int) := by rw [ez366, ← hge k207 (Nat.le_refl _)]; unfold kv_m18; first | (rw [if_pos (by omega)]; done) | (rw [if_neg (by omega)]; show _ = _ - z339 * 0; omega)
                                              refine lv_aload_n hx hb zd_N_remain_250 rfl (lv_at hl 7 rfl) ?_
                                              refine va_get (D := (dC, dI)) (ci := 4) (v := .ref me) (C := zR_N) (T := zT_N) (N := 26) hx hb hts (fun w h => kz_c (zi_N w h)) hown hK (hro.ob hdy.2.2 (k := 0) rfl) 0 rfl rfl 14 (by decide) (hts _ (kz_c mw_605)) (fun _ h9 => h9) rfl zd_N_remain_251 ?_
                                              refine lv_iload hx hb zd_N_remain_254 (lv_at hl 1 rfl) ?_
                                              refine lv_lload hx hb zd_N_remain_256 (lv_at hl 0 rfl) ?_
                                              refine lv_ldc2 (v := (65535)) hx hb hown (hts _ (kz_c mw_708)) zd_N_remain_258 ?_
                                              refine lv_topl (fun yl368 h9 => ?_)
                                              obtain rfl : yl368 = kz_lz (65535) := h9.trans (kz_lz_c65535)
                                              refine lv_land hx hb zd_N_remain_261 ?_
                                              refine lv_topl (fun yl369 h9 => ?_)
                                              obtain rfl : yl369 = kz_lz (z366 % 65536) := h9.trans (kz_lz_andz _)
                                              refine lv_l2i hx hb zd_N_remain_262 (kz_lz_i16 (z366)) ?_
                                              refine va_iast hx hb hK hdy.1 hdy.2.1 hdy.2.2 0 0 rfl rfl (vp_in_nI (by omega) (by omega)) zd_N_remain_263 (fun H locs hP hD hS => ?_)
                                              have h9 := kz_dgu d346 (k := k207) ((z366 % 65536).toNat) (by omega)
                                              rw [h9] at hP hD
                                              obtain ⟨f370, ef370, hd_f370, hdy⟩ : ∃ f370 : Nat → Nat, f370 = kv_up d346 k207 ((z366 % 65536).toNat) ∧ (∀ j, f370 j < 65536) ∧ kz_dy (dC, dI) vwCl A s.heap H locs [(me, .inl (cI, 18, .inl (kz_dg f370))), (t, .inl (cI, 16, .inl (kz_dg gt)))] := ⟨_, rfl, kv_up_lt hd_d346 (by omega), hP, hD, hS⟩
                                              refine lv_lload hx hb zd_N_remain_264 (lv_at hl 0 rfl) ?_
                                              refine lv_bipush (v := (nI (16))) hx hb zd_N_remain_266 (by decide) ?_
                                              refine lv_lshr hx hb zd_N_remain_268 (kz_lz_shr (z := z366) (by omega) (by omega)) ?_
                                              refine lv_topl (fun yl372 h9 => ?_)
                                              obtain ⟨z371, ez371, rfl⟩ : ∃ z : Int, z = z366 / 65536 ∧ yl372 = kz_lz z := ⟨_, rfl, h9⟩
                                              refine lv_lstore (lv' := [(10, .long (kz_lz (z371))), (12, .int (nI (k207))), (8, .long (kz_lz (z339))), (6, .long (kz_lz (z336))), (5, .int (nI (k78p))), (3, .long (kz_lz (z223))), (2, .int (nI (k3))), (0, .ref o), (1, .ref t)]) hx hb zd_N_remain_269 hl (by decide) rfl (fun ls hl => ?_)
                                              refine lv_iinc (v := (nI (k207 + 1))) (lv' := [(12, .int (nI (k207 + 1))), (10, .long (kz_lz (z371))), (8, .long (kz_lz (z339))), (6, .long (kz_lz (z336))), (5, .int (nI (k78p))), (3, .long (kz_lz (z223))), (2, .int (nI (k3))), (0, .ref o), (1, .ref t)]) hx hb zd_N_remain_271 hl (k := 1) rfl (nI_1 _) (by decide) rfl (fun ls hl => ?_)
                                              refine lv_goto (tgt := 207) hx hb zd_N_remain_274 (by decide) ?_
                                              have hi9_hlo373 : -8589934592 ≤ z371 := by omega
                                              have hi9_hhi374 : z371 ≤ 1 := by omega
                                              have hi9_hI375 : ((kv_val f370 (k207 + 1) : Nat) : Int) + z371 * (65536 : Int) ^ (k207 + 1) = ((kv_val d235 (k207 + 1) : Nat) : Int) - z339 * ((kv_val (kv_m18 gmm) (k207 + 1) : Nat) : Int) := by rw [ef370, ez371]; exact kv_subStep hI ht9
                                              have hi9_hge376 : ∀ j, k207 + 1 ≤ j → f370 j = d235 j := by intro j hj; rw [ef370, kv_up_ne _ _ (by omega)]; exact hge j (by omega)
                                              exact ih207 (k207 + 1) (z371) f370 _ _ _ (by omega) (by omega) hd_f370 hi9_hlo373 hi9_hhi374 hi9_hI375 hi9_hge376 hdy (lv_sub hl [0, 1, 2, 3, 4, 5, 6, 7, 8] rfl)
                                      have hi9_hlo377 : -8589934592 ≤ z343 := by omega
                                      have hi9_hhi378 : z343 ≤ 1 := by omega
                                      have hi9_hI379 : ((kv_val d235 (0) : Nat) : Int) + z343 * (65536 : Int) ^ (0) = ((kv_val d235 (0) : Nat) : Int) - z339 * ((kv_val (kv_m18 gmm) (0) : Nat) : Int) := by rw [ez343]; show (0 : Int) + 0 * _ = 0 - z339 * 0; omega
                                      have hi9_hge380 : ∀ j, 0 ≤ j → d235 j = d235 j := by exact fun _ _ => rfl
                                      exact lp207 (18 - 0 + 1) 0 (z343) d235 _ _ _ (by omega) (by omega) hd_d235 hi9_hlo377 hi9_hhi378 hi9_hI379 hi9_hge380 hdy (lv_sub hl [0, 1, 2, 3, 4, 5, 6, 7, 8] rfl)
                                    · have hc190 : z339 < 1 := (kz_lz_lt (by omega) (by omega) (by omega) (by omega)).mp hc190
                                      refine lv_lconst (v := 1) hx hb zd_N_remain_193 (by decide) ?_
                                      refine lv_topl (fun yl381 h9 => ?_)
                                      obtain rfl : yl381 = kz_lz (1) := h9.trans (kz_lz_c1)
                                      refine lv_goto (tgt := 199) hx hb zd_N_remain_194 (by decide) ?_
                                      refine lv_topl (fun yl383 h9 => ?_)
                                      obtain ⟨z382, ez382, rfl⟩ : ∃ z : Int, z = 1 ∧ yl383 = kz_lz z := ⟨_, rfl, h9⟩
                                      refine lv_lstore (lv' := [(8, .long (kz_lz (z382))), (6, .long (kz_lz (z336))), (5, .int (nI (k78p))), (3, .long (kz_lz (z223))), (2, .int (nI (k3))), (0, .ref o), (1, .ref t)]) hx hb zd_N_remain_199 hl (by decide) rfl (fun ls hl => ?_)
                                      have hQ0 : 1 ≤ z382 := by omega
                                      have hQ1 : z382 < 4294967296 := by omega
                                      have hQ2 : z382.toNat * kv_val (kv_m18 gmm) 18 ≤ kv_val d235 18 := by have h8 : z382.toNat = 1 := (by omega); rw [h8, Nat.one_mul]; exact hless
                                      refine lv_lconst (v := 0) hx hb zd_N_remain_201 (by decide) ?_
                                      refine lv_topl (fun yl384 h9 => ?_)
                                      obtain rfl : yl384 = kz_lz (0) := h9.trans (kz_lz_c0)
                                      refine lv_topl (fun yl386 h9 => ?_)
                                      obtain ⟨z385, ez385, rfl⟩ : ∃ z : Int, z = 0 ∧ yl386 = kz_lz z := ⟨_, rfl, h9⟩
                                      refine lv_lstore (lv' := [(10, .long (kz_lz (z385))), (8, .long (kz_lz (z382))), (6, .long (kz_lz (z336))), (5, .int (nI (k78p))), (3, .long (kz_lz (z223))), (2, .int (nI (k3))), (0, .ref o), (1, .ref t)]) hx hb zd_N_remain_202 hl (by decide) rfl (fun ls hl => ?_)
                                      refine lv_iconst (v := (nI (0))) hx hb zd_N_remain_204 (by decide) ?_
                                      refine lv_istore (lv' := [(12, .int (nI (0))), (10, .long (kz_lz (z385))), (8, .long (kz_lz (z382))), (6, .long (kz_lz (z336))), (5, .int (nI (k78p))), (3, .long (kz_lz (z223))), (2, .int (nI (k3))), (0, .ref o), (1, .ref t)]) hx hb zd_N_remain_205 hl (by decide) rfl (fun ls hl => ?_)
                                      have lp207 : ∀ (n207 k207 : Nat) (z387 : Int) (d388 : Nat → Nat) (H : Heap) (locs : List Loc) (ls : Array Slot), k207 ≤ 18 → 18 - k207 < n207 → (∀ j, d388 j < 65536) → (-8589934592 ≤ z387) → (z387 ≤ 1) → (((kv_val d388 (k207) : Nat) : Int) + z387 * (65536 : Int) ^ (k207) = ((kv_val d235 (k207) : Nat) : Int) - z382 * ((kv_val (kv_m18 gmm) (k207) : Nat) : Int)) → (∀ j, k207 ≤ j → d388 j = d235 j) → kz_dy (dC, dI) vwCl A s.heap H locs [(me, .inl (cI, 18, .inl (kz_dg d388))), (t, .inl (cI, 16, .inl (kz_dg gt)))] → lv_has ls 13 [(12, .int (nI (k207))), (10, .long (kz_lz (z387))), (8, .long (kz_lz (z382))), (6, .long (kz_lz (z336))), (5, .int (nI (k78p))), (3, .long (kz_lz (z223))), (2, .int (nI (k3))), (0, .ref o), (1, .ref t)] → W p l e { frames := 1, cells := 0, slots := 0, locals := 23 } s m ([.ref o, .ref t] : List Value).toArray below meth c H locs 0 0 (MQ below (va_Qv (fun (u : (Nat → Nat) × (Nat → Nat)) => (∀ j, u.1 j < 65536) ∧ (∀ j, u.2 j < 65536) ∧ (kv_val u.2 16 = kv_val gmx 32 % kv_val gmm 16) ∧ True) (kz_B (dC, dI) vwCl A (fun u : (Nat → Nat) × (Nat → Nat) => [(me, .inl (cI, 18, .inl (kz_dg u.1))), (t, .inl (cI, 16, .inl (kz_dg u.2)))])) A) ([.ref o, .ref t] : List Value).toArray s 0 0 A) (F0 m 207 ls []) := by
                                        intro n207
                                        induction n207 with
                                        | zero => intro k207; intros; omega
                                        | succ n207 ih207 =>
                                          intro k207 z387 d388 H locs ls hi207 hn207 hd_d388 hlo hhi hI hge hdy hl
                                          refine lv_iload hx hb zd_N_remain_207 (lv_at hl 0 rfl) ?_
                                          refine lv_bipush (v := (nI (18))) hx hb zd_N_remain_209 (by decide) ?_
                                          refine lv_icmp_ge (tgt := 277) hx hb zd_N_remain_211 (by decide) (fun hc211 => ?_) (fun hc211 => ?_)
                                          · have hc211 : 18 ≤ k207 := (nI_leI (by omega) (by omega)).mp hc211
                                            refine lv_goto (tgt := 127) hx hb zd_N_remain_277 (by decide) ?_
                                            have hi9_hV389 : kv_val d388 18 % kv_val gmm 16 = kv_hiN 32 gmx k78p % kv_val gmm 16 := by have h18 : k207 = 18 := (by omega); subst h18; have h8 := kv_subExact (q := z382.toNat) hd_d388 hd_d235 hQ2 (by have h7 : ((z382.toNat : Nat) : Int) = z382 := (by omega); rw [h7]; exact hI); rw [hm18] at h8; exact kv_takeMod h8 hV
                                            have hms127 : kv_val d388 18 < n127 := by have h18 : k207 = 18 := (by omega); subst h18; have h8 := kv_subEnd (q := z382.toNat) hd_d388 hd_d235 (by omega) hmv hQ2 (by have h7 : ((z382.toNat : Nat) : Int) = z382 := (by omega); rw [h7]; exact hI); omega
                                            exact ih127 d388 _ _ _ hms127 hd_d388 hi9_hV389 hdy (lv_sub hl [4, 5, 6, 7, 8] rfl)
                                          · have hc211 : ¬ 18 ≤ k207 := fun h9 => hc211 ((nI_leI (by omega) (by omega)).mpr h9)
                                            refine lv_lload hx hb zd_N_remain_214 (lv_at hl 1 rfl) ?_
                                            refine lv_aload_n hx hb zd_N_remain_216 rfl (lv_at hl 7 rfl) ?_
                                            refine va_get (D := (dC, dI)) (ci := 4) (v := .ref me) (C := zR_N) (T := zT_N) (N := 26) hx hb hts (fun w h => kz_c (zi_N w h)) hown hK (hro.ob hdy.2.2 (k := 0) rfl) 0 rfl rfl 14 (by decide) (hts _ (kz_c mw_605)) (fun _ h9 => h9) rfl zd_N_remain_217 ?_
                                            refine lv_iload hx hb zd_N_remain_220 (lv_at hl 0 rfl) ?_
                                            refine va_iald hx hb hK hdy.1 0 0 rfl rfl (vp_in_nI (by omega) (by omega)) zd_N_remain_222 ?_
                                            refine lv_topi (fun x390 h9 => ?_)
                                            obtain rfl : x390 = nI (d388 k207) := h9.trans (kz_dgl d388 (by omega))
                                            have hbx390 := hd_d388 k207
                                            refine lv_i2l hx hb zd_N_remain_223 (kz_lz_i (n := d388 k207) (by omega)) ?_
                                            refine lv_ladd hx hb zd_N_remain_224 ?_
                                            refine lv_topl (fun yl391 h9 => ?_)
                                            obtain rfl : yl391 = kz_lz (z387 + (((d388 k207 : Nat) : Int))) := h9.trans (kz_lz_add _ _)
                                            refine lv_iload hx hb zd_N_remain_225 (lv_at hl 0 rfl) ?_
                                            refine lv_bipush (v := (nI (16))) hx hb zd_N_remain_227 (by decide) ?_
                                            refine lv_icmp_ge (tgt := 246) hx hb zd_N_remain_229 (by decide) (fun hc229 => ?_) (fun hc229 => ?_)
                                            · have hc229 : 16 ≤ k207 := (nI_leI (by omega) (by omega)).mp hc229
                                              refine lv_lconst (v := 0) hx hb zd_N_remain_246 (by decide) ?_
                                              refine lv_topl (fun yl392 h9 => ?_)
                                              obtain rfl : yl392 = kz_lz (0) := h9.trans (kz_lz_c0)
                                              refine lv_lsub hx hb zd_N_remain_247 ?_
                                              refine lv_topl (fun yl393 h9 => ?_)
                                              obtain rfl : yl393 = kz_lz ((z387 + (((d388 k207 : Nat) : Int))) - 0) := h9.trans (kz_lz_sub _ _)
                                              refine lv_topl (fun yl395 h9 => ?_)
                                              obtain ⟨z394, ez394, rfl⟩ : ∃ z : Int, z = (z387 + (((d388 k207 : Nat) : Int))) - 0 ∧ yl395 = kz_lz z := ⟨_, rfl, h9⟩
                                              refine lv_lstore (lv' := [(10, .long (kz_lz (z394))), (12, .int (nI (k207))), (8, .long (kz_lz (z382))), (6, .long (kz_lz (z336))), (5, .int (nI (k78p))), (3, .long (kz_lz (z223))), (2, .int (nI (k3))), (0, .ref o), (1, .ref t)]) hx hb zd_N_remain_248 hl (by decide) rfl (fun ls hl => ?_)
                                              have hm9 := kv_qm (q := z382) (by omega) hQ1 (hd_gmm k207)
                                              have ht9 : z394 = z387 + ((d235 k207 : Nat) : Int) - z382 * ((kv_m18 gmm k207 : Nat) : Int) := by rw [ez394, ← hge k207 (Nat.le_refl _)]; unfold kv_m18; first | (rw [if_pos (by omega)]; done) | (rw [if_neg (by omega)]; show _ = _ - z382 * 0; omega)
                                              refine lv_aload_n hx hb zd_N_remain_250 rfl (lv_at hl 7 rfl) ?_
                                              refine va_get (D := (dC, dI)) (ci := 4) (v := .ref me) (C := zR_N) (T := zT_N) (N := 26) hx hb hts (fun w h => kz_c (zi_N w h)) hown hK (hro.ob hdy.2.2 (k := 0) rfl) 0 rfl rfl 14 (by decide) (hts _ (kz_c mw_605)) (fun _ h9 => h9) rfl zd_N_remain_251 ?_
                                              refine lv_iload hx hb zd_N_remain_254 (lv_at hl 1 rfl) ?_
                                              refine lv_lload hx hb zd_N_remain_256 (lv_at hl 0 rfl) ?_
                                              refine lv_ldc2 (v := (65535)) hx hb hown (hts _ (kz_c mw_708)) zd_N_remain_258 ?_
                                              refine lv_topl (fun yl396 h9 => ?_)
                                              obtain rfl : yl396 = kz_lz (65535) := h9.trans (kz_lz_c65535)
                                              refine lv_land hx hb zd_N_remain_261 ?_
                                              refine lv_topl (fun yl397 h9 => ?_)
                                              obtain rfl : yl397 = kz_lz (z394 % 65536) := h9.trans (kz_lz_andz _)
                                              refine lv_l2i hx hb zd_N_remain_262 (kz_lz_i16 (z394)) ?_
                                              refine va_iast hx hb hK hdy.1 hdy.2.1 hdy.2.2 0 0 rfl rfl (vp_in_nI (by omega) (by omega)) zd_N_remain_263 (fun H locs hP hD hS => ?_)
                                              have h9 := kz_dgu d388 (k := k207) ((z394 % 65536).toNat) (by omega)
                                              rw [h9] at hP hD
                                              obtain ⟨f398, ef398, hd_f398, hdy⟩ : ∃ f398 : Nat → Nat, f398 = kv_up d388 k207 ((z394 % 65536).toNat) ∧ (∀ j, f398 j < 65536) ∧ kz_dy (dC, dI) vwCl A s.heap H locs [(me, .inl (cI, 18, .inl (kz_dg f398))), (t, .inl (cI, 16, .inl (kz_dg gt)))] := ⟨_, rfl, kv_up_lt hd_d388 (by omega), hP, hD, hS⟩
                                              refine lv_lload hx hb zd_N_remain_264 (lv_at hl 0 rfl) ?_
                                              refine lv_bipush (v := (nI (16))) hx hb zd_N_remain_266 (by decide) ?_
                                              refine lv_lshr hx hb zd_N_remain_268 (kz_lz_shr (z := z394) (by omega) (by omega)) ?_
                                              refine lv_topl (fun yl400 h9 => ?_)
                                              obtain ⟨z399, ez399, rfl⟩ : ∃ z : Int, z = z394 / 65536 ∧ yl400 = kz_lz z := ⟨_, rfl, h9⟩
                                              refine lv_lstore (lv' := [(10, .long (kz_lz (z399))), (12, .int (nI (k207))), (8, .long (kz_lz (z382))), (6, .long (kz_lz (z336))), (5, .int (nI (k78p))), (3, .long (kz_lz (z223))), (2, .int (nI (k3))), (0, .ref o), (1, .ref t)]) hx hb zd_N_remain_269 hl (by decide) rfl (fun ls hl => ?_)
                                              refine lv_iinc (v := (nI (k207 + 1))) (lv' := [(12, .int (nI (k207 + 1))), (10, .long (kz_lz (z399))), (8, .long (kz_lz (z382))), (6, .long (kz_lz (z336))), (5, .int (nI (k78p))), (3, .long (kz_lz (z223))), (2, .int (nI (k3))), (0, .ref o), (1, .ref t)]) hx hb zd_N_remain_271 hl (k := 1) rfl (nI_1 _) (by decide) rfl (fun ls hl => ?_)
                                              refine lv_goto (tgt := 207) hx hb zd_N_remain_274 (by decide) ?_
                                              have hi9_hlo401 : -8589934592 ≤ z399 := by omega
                                              have hi9_hhi402 : z399 ≤ 1 := by omega
                                              have hi9_hI403 : ((kv_val f398 (k207 + 1) : Nat) : Int) + z399 * (65536 : Int) ^ (k207 + 1) = ((kv_val d235 (k207 + 1) : Nat) : Int) - z382 * ((kv_val (kv_m18 gmm) (k207 + 1) : Nat) : Int) := by rw [ef398, ez399]; exact kv_subStep hI ht9
                                              have hi9_hge404 : ∀ j, k207 + 1 ≤ j → f398 j = d235 j := by intro j hj; rw [ef398, kv_up_ne _ _ (by omega)]; exact hge j (by omega)
                                              exact ih207 (k207 + 1) (z399) f398 _ _ _ (by omega) (by omega) hd_f398 hi9_hlo401 hi9_hhi402 hi9_hI403 hi9_hge404 hdy (lv_sub hl [0, 1, 2, 3, 4, 5, 6, 7, 8] rfl)
                                            · have hc229 : ¬ 16 ≤ k207 := fun h9 => hc229 ((nI_leI (by omega) (by omega)).mpr h9)
                                              refine lv_lload hx hb zd_N_remain_232 (lv_at hl 2 rfl) ?_
                                              refine lv_aload_n hx hb zd_N_remain_234 rfl (lv_at hl 7 rfl) ?_
                                              refine va_get (D := (dC, dI)) (ci := 4) (v := .ref mm) (C := zR_N) (T := zT_N) (N := 26) hx hb hts (fun w h => kz_c (zi_N w h)) hown hK (hro.ob hdy.2.2 (k := 0) rfl) 0 rfl rfl 9 (by decide) (hts _ (kz_c mw_600)) (fun _ h9 => h9) rfl zd_N_remain_235 ?_
                                              refine lv_iload hx hb zd_N_remain_238 (lv_at hl 0 rfl) ?_
                                              refine kz_riald hx hb hK hro hdy.2.2 1 0 rfl rfl (vp_in_nI (by omega) (by omega)) zd_N_remain_240 ?_
                                              refine lv_topi (fun x405 h9 => ?_)
                                              obtain rfl : x405 = nI (gmm k207) := h9.trans (kz_dgl gmm (by omega))
                                              have hbx405 := hd_gmm k207
                                              refine lv_i2l hx hb zd_N_remain_241 (kz_lz_i (n := gmm k207) (by omega)) ?_
                                              refine lv_lmul hx hb zd_N_remain_242 ?_
                                              refine lv_topl (fun yl406 h9 => ?_)
                                              obtain rfl : yl406 = kz_lz (z382 * (((gmm k207 : Nat) : Int))) := h9.trans (kz_lz_mul _ _)
                                              refine lv_goto (tgt := 247) hx hb zd_N_remain_243 (by decide) ?_
                                              refine lv_lsub hx hb zd_N_remain_247 ?_
                                              refine lv_topl (fun yl407 h9 => ?_)
                                              obtain rfl : yl407 = kz_lz ((z387 + (((d388 k207 : Nat) : Int))) - (z382 * (((gmm k207 : Nat) : Int)))) := h9.trans (kz_lz_sub _ _)
                                              refine lv_topl (fun yl409 h9 => ?_)
                                              obtain ⟨z408, ez408, rfl⟩ : ∃ z : Int, z = (z387 + (((d388 k207 : Nat) : Int))) - (z382 * (((gmm k207 : Nat) : Int))) ∧ yl409 = kz_lz z := ⟨_, rfl, h9⟩
                                              refine lv_lstore (lv' := [(10, .long (kz_lz (z408))), (12, .int (nI (k207))), (8, .long (kz_lz (z382))), (6, .long (kz_lz (z336))), (5, .int (nI (k78p))), (3, .long (kz_lz (z223))), (2, .int (nI (k3))), (0, .ref o), (1, .ref t)]) hx hb zd_N_remain_248 hl (by decide) rfl (fun ls hl => ?_)
                                              have hm9 := kv_qm (q := z382) (by omega) hQ1 (hd_gmm k207)
                                              have ht9 : z408 = z387 + ((d235 k207 : Nat) : Int) - z382 * ((kv_m18 gmm k207 : Nat) : Int) := by rw [ez408, ← hge k207 (Nat.le_refl _)]; unfold kv_m18; first | (rw [if_pos (by omega)]; done) | (rw [if_neg (by omega)]; show _ = _ - z382 * 0; omega)
                                              refine lv_aload_n hx hb zd_N_remain_250 rfl (lv_at hl 7 rfl) ?_
                                              refine va_get (D := (dC, dI)) (ci := 4) (v := .ref me) (C := zR_N) (T := zT_N) (N := 26) hx hb hts (fun w h => kz_c (zi_N w h)) hown hK (hro.ob hdy.2.2 (k := 0) rfl) 0 rfl rfl 14 (by decide) (hts _ (kz_c mw_605)) (fun _ h9 => h9) rfl zd_N_remain_251 ?_
                                              refine lv_iload hx hb zd_N_remain_254 (lv_at hl 1 rfl) ?_
                                              refine lv_lload hx hb zd_N_remain_256 (lv_at hl 0 rfl) ?_
                                              refine lv_ldc2 (v := (65535)) hx hb hown (hts _ (kz_c mw_708)) zd_N_remain_258 ?_
                                              refine lv_topl (fun yl410 h9 => ?_)
                                              obtain rfl : yl410 = kz_lz (65535) := h9.trans (kz_lz_c65535)
                                              refine lv_land hx hb zd_N_remain_261 ?_
                                              refine lv_topl (fun yl411 h9 => ?_)
                                              obtain rfl : yl411 = kz_lz (z408 % 65536) := h9.trans (kz_lz_andz _)
                                              refine lv_l2i hx hb zd_N_remain_262 (kz_lz_i16 (z408)) ?_
                                              refine va_iast hx hb hK hdy.1 hdy.2.1 hdy.2.2 0 0 rfl rfl (vp_in_nI (by omega) (by omega)) zd_N_remain_263 (fun H locs hP hD hS => ?_)
                                              have h9 := kz_dgu d388 (k := k207) ((z408 % 65536).toNat) (by omega)
                                              rw [h9] at hP hD
                                              obtain ⟨f412, ef412, hd_f412, hdy⟩ : ∃ f412 : Nat → Nat, f412 = kv_up d388 k207 ((z408 % 65536).toNat) ∧ (∀ j, f412 j < 65536) ∧ kz_dy (dC, dI) vwCl A s.heap H locs [(me, .inl (cI, 18, .inl (kz_dg f412))), (t, .inl (cI, 16, .inl (kz_dg gt)))] := ⟨_, rfl, kv_up_lt hd_d388 (by omega), hP, hD, hS⟩
                                              refine lv_lload hx hb zd_N_remain_264 (lv_at hl 0 rfl) ?_
                                              refine lv_bipush (v := (nI (16))) hx hb zd_N_remain_266 (by decide) ?_
                                              refine lv_lshr hx hb zd_N_remain_268 (kz_lz_shr (z := z408) (by omega) (by omega)) ?_
                                              refine lv_topl (fun yl414 h9 => ?_)
                                              obtain ⟨z413, ez413, rfl⟩ : ∃ z : Int, z = z408 / 65536 ∧ yl414 = kz_lz z := ⟨_, rfl, h9⟩
                                              refine lv_lstore (lv' := [(10, .long (kz_lz (z413))), (12, .int (nI (k207))), (8, .long (kz_lz (z382))), (6, .long (kz_lz (z336))), (5, .int (nI (k78p))), (3, .long (kz_lz (z223))), (2, .int (nI (k3))), (0, .ref o), (1, .ref t)]) hx hb zd_N_remain_269 hl (by decide) rfl (fun ls hl => ?_)
                                              refine lv_iinc (v := (nI (k207 + 1))) (lv' := [(12, .int (nI (k207 + 1))), (10, .long (kz_lz (z413))), (8, .long (kz_lz (z382))), (6, .long (kz_lz (z336))), (5, .int (nI (k78p))), (3, .long (kz_lz (z223))), (2, .int (nI (k3))), (0, .ref o), (1, .ref t)]) hx hb zd_N_remain_271 hl (k := 1) rfl (nI_1 _) (by decide) rfl (fun ls hl => ?_)
                                              refine lv_goto (tgt := 207) hx hb zd_N_remain_274 (by decide) ?_
                                              have hi9_hlo415 : -8589934592 ≤ z413 := by omega
                                              have hi9_hhi416 : z413 ≤ 1 := by omega
                                              have hi9_hI417 : ((kv_val f412 (k207 + 1) : Nat) : Int) + z413 * (65536 : Int) ^ (k207 + 1) = ((kv_val d235 (k207 + 1) : Nat) : Int) - z382 * ((kv_val (kv_m18 gmm) (k207 + 1) : Nat) : Int) := by rw [ef412, ez413]; exact kv_subStep hI ht9
                                              have hi9_hge418 : ∀ j, k207 + 1 ≤ j → f412 j = d235 j := by intro j hj; rw [ef412, kv_up_ne _ _ (by omega)]; exact hge j (by omega)
                                              exact ih207 (k207 + 1) (z413) f412 _ _ _ (by omega) (by omega) hd_f412 hi9_hlo415 hi9_hhi416 hi9_hI417 hi9_hge418 hdy (lv_sub hl [0, 1, 2, 3, 4, 5, 6, 7, 8] rfl)
                                      have hi9_hlo419 : -8589934592 ≤ z385 := by omega
                                      have hi9_hhi420 : z385 ≤ 1 := by omega
                                      have hi9_hI421 : ((kv_val d235 (0) : Nat) : Int) + z385 * (65536 : Int) ^ (0) = ((kv_val d235 (0) : Nat) : Int) - z382 * ((kv_val (kv_m18 gmm) (0) : Nat) : Int) := by rw [ez385]; show (0 : Int) + 0 * _ = 0 - z382 * 0; omega
                                      have hi9_hge422 : ∀ j, 0 ≤ j → d235 j = d235 j := by exact fun _ _ => rfl
                                      exact lp207 (18 - 0 + 1) 0 (z385) d235 _ _ _ (by omega) (by omega) hd_d235 hi9_hlo419 hi9_hhi420 hi9_hI421 hi9_hge422 hdy (lv_sub hl [0, 1, 2, 3, 4, 5, 6, 7, 8] rfl)
                            have hi9_hV423 : kv_val f234 18 % kv_val gmm 16 = kv_hiN 32 gmx k78p % kv_val gmm 16 := by rw [ef234]; exact kv_shift (by omega) rfl hR hMv hMl (fun j a b => hsh j (by omega) b)
                            exact lp127 (kv_val f234 18 + 1) f234 _ _ _ (Nat.lt_succ_self _) hd_f234 hi9_hV423 hdy (lv_sub hl [1, 2, 3, 4, 5] rfl)
                          · have hc89 : ¬ k87 ≤ 0 := fun h9 => hc89 (by have h8 := (nI_leI (by omega) (by omega)).mpr h9; rw [nI_0] at h8; exact h8)
                            refine lv_aload_n hx hb zd_N_remain_92 rfl (lv_at hl 4 rfl) ?_
                            refine va_get (D := (dC, dI)) (ci := 4) (v := .ref me) (C := zR_N) (T := zT_N) (N := 26) hx hb hts (fun w h => kz_c (zi_N w h)) hown hK (hro.ob hdy.2.2 (k := 0) rfl) 0 rfl rfl 14 (by decide) (hts _ (kz_c mw_605)) (fun _ h9 => h9) rfl zd_N_remain_93 ?_
                            refine lv_iload hx hb zd_N_remain_96 (lv_at hl 0 rfl) ?_
                            refine lv_aload_n hx hb zd_N_remain_98 rfl (lv_at hl 4 rfl) ?_
                            refine va_get (D := (dC, dI)) (ci := 4) (v := .ref me) (C := zR_N) (T := zT_N) (N := 26) hx hb hts (fun w h => kz_c (zi_N w h)) hown hK (hro.ob hdy.2.2 (k := 0) rfl) 0 rfl rfl 14 (by decide) (hts _ (kz_c mw_605)) (fun _ h9 => h9) rfl zd_N_remain_99 ?_
                            refine lv_iload hx hb zd_N_remain_102 (lv_at hl 0 rfl) ?_
                            refine lv_iconst (v := (nI (1))) hx hb zd_N_remain_104 (by decide) ?_
                            refine kz_isub hx hb zd_N_remain_105 (pk_sub (by omega)) ?_
                            refine va_iald hx hb hK hdy.1 0 0 rfl rfl (vp_in_nI (by omega) (by omega)) zd_N_remain_106 ?_
                            refine lv_topi (fun x424 h9 => ?_)
                            obtain rfl : x424 = nI (d232 (k87 - 1)) := h9.trans (kz_dgl d232 (by omega))
                            have hbx424 := hd_d232 (k87 - 1)
                            refine va_iast hx hb hK hdy.1 hdy.2.1 hdy.2.2 0 0 rfl rfl (vp_in_nI (by omega) (by omega)) zd_N_remain_107 (fun H locs hP hD hS => ?_)
                            have h9 := kz_dgu d232 (k := k87) (d232 (k87 - 1)) (by omega)
                            rw [h9] at hP hD
                            obtain ⟨f425, ef425, hd_f425, hdy⟩ : ∃ f425 : Nat → Nat, f425 = kv_up d232 k87 (d232 (k87 - 1)) ∧ (∀ j, f425 j < 65536) ∧ kz_dy (dC, dI) vwCl A s.heap H locs [(me, .inl (cI, 18, .inl (kz_dg f425))), (t, .inl (cI, 16, .inl (kz_dg gt)))] := ⟨_, rfl, kv_up_lt hd_d232 (by omega), hP, hD, hS⟩
                            refine lv_iinc (v := (nI (k87 - 1))) (lv' := [(6, .int (nI (k87 - 1))), (5, .int (nI (k78p))), (3, .long (kz_lz (z223))), (2, .int (nI (k3))), (0, .ref o), (1, .ref t)]) hx hb zd_N_remain_108 hl (k := 0) rfl (kz_dec (by omega)) (by decide) rfl (fun ls hl => ?_)
                            refine lv_goto (tgt := 87) hx hb zd_N_remain_111 (by decide) ?_
                            have hi9_hsh426 : ∀ j, k87 - 1 < j → j < 18 → f425 j = d226 (j - 1) := by intro j a b; rw [ef425]; rcases (by omega : j = k87 ∨ k87 < j) with h | h; (rw [h, kv_up_eq]; exact hkp (k87 - 1) (by omega)); (rw [kv_up_ne _ _ (by omega)]; exact hsh j h b)
                            have hi9_hkp427 : ∀ j, j ≤ k87 - 1 → f425 j = d226 j := by intro j hj; rw [ef425, kv_up_ne _ _ (by omega)]; exact hkp j (by omega)
                            exact ih87 (k87 - 1) f425 _ _ _ (by omega) (by omega) hd_f425 hi9_hsh426 hi9_hkp427 hdy (lv_sub hl [0, 1, 2, 3, 4, 5] rfl)
                      have hi9_hsh428 : ∀ j, 17 < j → j < 18 → d226 j = d226 (j - 1) := by intro j a b; omega
                      have hi9_hkp429 : ∀ j, j ≤ 17 → d226 j = d226 j := by exact fun _ _ => rfl
                      exact lp87 (17 + 1) 17 d226 _ _ _ (by omega) (by omega) hd_d226 hi9_hsh428 hi9_hkp429 hdy (lv_sub hl [0, 1, 2, 3, 4, 5] rfl)
                have hi9_hR430 : kv_val d225 18 = kv_hiN 32 gmx (32) % kv_val gmm 16 := by exact kv_rest0 (kv_hiN_top 32 gmx) (fun j hj => hz0 j (by omega))
                exact lp78 (32 + 1) 32 d225 _ _ _ (by omega) (by omega) hd_d225 hi9_hR430 hdy (lv_sub hl [0, 1, 2, 3, 4] rfl)
              · have hc57 : ¬ 18 ≤ k53 := fun h9 => hc57 ((nI_leI (by omega) (by omega)).mpr h9)
                refine lv_aload_n hx hb zd_N_remain_60 rfl (lv_at hl 3 rfl) ?_
                refine va_get (D := (dC, dI)) (ci := 4) (v := .ref me) (C := zR_N) (T := zT_N) (N := 26) hx hb hts (fun w h => kz_c (zi_N w h)) hown hK (hro.ob hdy.2.2 (k := 0) rfl) 0 rfl rfl 14 (by decide) (hts _ (kz_c mw_605)) (fun _ h9 => h9) rfl zd_N_remain_61 ?_
                refine lv_iload hx hb zd_N_remain_64 (lv_at hl 0 rfl) ?_
                refine lv_iconst (v := (nI (0))) hx hb zd_N_remain_66 (by decide) ?_
                refine va_iast hx hb hK hdy.1 hdy.2.1 hdy.2.2 0 0 rfl rfl (vp_in_nI (by omega) (by omega)) zd_N_remain_67 (fun H locs hP hD hS => ?_)
                have h9 := kz_dgu d225 (k := k53) 0 (by omega)
                rw [h9] at hP hD
                obtain ⟨f431, ef431, hd_f431, hdy⟩ : ∃ f431 : Nat → Nat, f431 = kv_up d225 k53 0 ∧ (∀ j, f431 j < 65536) ∧ kz_dy (dC, dI) vwCl A s.heap H locs [(me, .inl (cI, 18, .inl (kz_dg f431))), (t, .inl (cI, 16, .inl (kz_dg gt)))] := ⟨_, rfl, kv_up_lt hd_d225 (by omega), hP, hD, hS⟩
                refine lv_iinc (v := (nI (k53 + 1))) (lv' := [(5, .int (nI (k53 + 1))), (3, .long (kz_lz (z223))), (2, .int (nI (k3))), (0, .ref o), (1, .ref t)]) hx hb zd_N_remain_68 hl (k := 0) rfl (nI_1 _) (by decide) rfl (fun ls hl => ?_)
                refine lv_goto (tgt := 53) hx hb zd_N_remain_71 (by decide) ?_
                have hi9_hz0432 : ∀ j, j < k53 + 1 → f431 j = 0 := by rw [ef431]; exact kv_fill (F := fun _ => 0) hz0 rfl
                exact ih53 (k53 + 1) f431 _ _ _ (by omega) (by omega) hd_f431 hi9_hz0432 hdy (lv_sub hl [0, 1, 2, 3, 4] rfl)
          have hi9_hz0433 : ∀ j, j < 0 → gme j = 0 := by intro j hj; omega
          exact lp53 (18 - 0 + 1) 0 gme _ _ _ (by omega) (by omega) hd_gme hi9_hz0433 hdy (lv_sub hl [0, 1, 2, 3, 4] rfl)
      · have hc9 : (gmm k3) = 0 := (nI_eq (by omega) (by omega)).mp (by rw [nI_0]; exact hc9)
        have hk0 : 0 < k3 := by obtain ⟨j9, h91, h92, h93⟩ := id hsm; rcases Nat.eq_zero_or_pos k3 with h | h; exact absurd h93 (by have h8 : j9 = k3 := (by omega); rw [h8]; omega); exact h
        refine lv_iinc (v := (nI (k3 - 1))) (lv' := [(2, .int (nI (k3 - 1))), (0, .ref o), (1, .ref t)]) hx hb zd_N_remain_12 hl (k := 0) rfl (kz_dec (by omega)) (by decide) rfl (fun ls hl => ?_)
        refine lv_goto (tgt := 3) hx hb zd_N_remain_15 (by decide) ?_
        have hi9_hsm434 : kv_some gmm 0 (k3 - 1 + 1) := by obtain ⟨j9, h91, h92, h93⟩ := id hsm; exact ⟨j9, h91, by have h8 : j9 ≠ k3 := (fun q => by rw [q] at h93; omega); omega, h93⟩
        have hi9_htz435 : ∀ j, k3 - 1 < j → j < 16 → gmm j = 0 := by intro j a b; rcases (by omega : j = k3 ∨ k3 < j) with h | h; rw [h]; omega; exact htz j h b
        exact ih3 (k3 - 1) _ _ _ (by omega) (by omega) hi9_hsm434 hi9_htz435 hdy (lv_sub hl [0, 1, 2] rfl)
  have hi9_hsm436 : kv_some gmm 0 (15 + 1) := by exact hnz
  have hi9_htz437 : ∀ j, 15 < j → j < 16 → gmm j = 0 := by intro j a b; omega
  exact lp3 (15 + 1) 15 _ _ _ (by omega) (by omega) hi9_hsm436 hi9_htz437 hdy (lv_sub hl [0, 1, 2] rfl)

set_option maxHeartbeats 4000000 in
set_option maxRecDepth 100000 in
/-- KeyMeetingModel.raise()V -/
theorem c_F_raise (l : Launch) (dC : Nat → ClassId) (dI : Nat → Nat → Nat) (cI cAA cB cL : ClassId) (mx me mr o mt mn ml mc mh mk mp mm mb mw mP mQ ms mo mW mD mB mR mS : Nat) (gmx : Nat → Nat) (gme : Nat → Nat) (gmr : Nat → Nat) (th : Int32) (sta : Int32) (hs : Int32) (sz_ : Nat) (gmm : Nat → Nat) (gmw : Nat → Nat) (gmb : Nat → Nat) (sz : Nat) (hd_gmx : ∀ j, gmx j < 65536) (hd_gme : ∀ j, gme j < 65536) (hd_gmr : ∀ j, gmr j < 65536) (hd_gmm : ∀ j, gmm j < 65536) (hd_gmw : ∀ j, gmw j < 65536) (hd_gmb : ∀ j, gmb j < 65536) (hnz : kv_some gmm 0 16) : Met l zy_N_raise zw_N_raise { frames := 2, cells := 0, slots := 0, locals := 55 } (kz_Pc (dC, dI) vwCl [(cI, .int), (cAA, .array .int), (cB, .byte), (cL, .long)] [] [] [.ref o] [(mx, .inl (cI, 32, .inl (kz_dg gmx))), (me, .inl (cI, 18, .inl (kz_dg gme))), (mr, .inl (cI, 16, .inl (kz_dg gmr)))] [(o, .inr (4, [.int th, .int sta, .ref mt, .ref mn, .ref ml, .ref mc, .ref mh, .ref mk, .ref mp, .ref mm, .ref mb, .ref mw, .ref mr, .ref mx, .ref me, .ref mP, .ref mQ, .ref ms, .int hs, .int (nI (sz_)), .ref mo, .ref mW, .ref mD, .ref mB, .ref mR, .ref mS])), (mm, .inl (cI, 16, .inl (kz_dg gmm))), (mw, .inl (cI, 16, .inl (kz_dg gmw))), (mb, .inl (cI, 16, .inl (kz_dg gmb)))] sz) (va_Qv (fun (u : (Nat → Nat) × (Nat → Nat) × (Nat → Nat)) => (∀ j, u.1 j < 65536) ∧ (∀ j, u.2.1 j < 65536) ∧ (∀ j, u.2.2 j < 65536) ∧ (kv_val u.2.2 16 = kv_val gmb 16 ^ kv_val gmw 16 % kv_val gmm 16) ∧ True) (kz_B (dC, dI) vwCl (va_A [(mx, .inl (cI, 32, .inl (kz_dg gmx))), (me, .inl (cI, 18, .inl (kz_dg gme))), (mr, .inl (cI, 16, .inl (kz_dg gmr)))] sz) (fun u : (Nat → Nat) × (Nat → Nat) × (Nat → Nat) => [(mx, .inl (cI, 32, .inl (kz_dg u.1))), (me, .inl (cI, 18, .inl (kz_dg u.2.1))), (mr, .inl (cI, 16, .inl (kz_dg u.2.2)))])) (va_A [(mx, .inl (cI, 32, .inl (kz_dg gmx))), (me, .inl (cI, 18, .inl (kz_dg gme))), (mr, .inl (cI, 16, .inl (kz_dg gmr)))] sz)) 0 0 (va_A [(mx, .inl (cI, 32, .inl (kz_dg gmx))), (me, .inl (cI, 18, .inl (kz_dg gme))), (mr, .inl (cI, 16, .inl (kz_dg gmr)))] sz) := by
  refine kz_met (y := zy_N_raise) (ws := zw_N_raise) (av := [.ref o]) (sz := sz) (Qc := fun A => va_Qv (fun (u : (Nat → Nat) × (Nat → Nat) × (Nat → Nat)) => (∀ j, u.1 j < 65536) ∧ (∀ j, u.2.1 j < 65536) ∧ (∀ j, u.2.2 j < 65536) ∧ (kv_val u.2.2 16 = kv_val gmb 16 ^ kv_val gmw 16 % kv_val gmm 16) ∧ True) (kz_B (dC, dI) vwCl A (fun u : (Nat → Nat) × (Nat → Nat) × (Nat → Nat) => [(mx, .inl (cI, 32, .inl (kz_dg u.1))), (me, .inl (cI, 18, .inl (kz_dg u.2.1))), (mr, .inl (cI, 16, .inl (kz_dg u.2.2)))])) A) (cc := zc_N_raise) (maxL := 2) (ret := none) (by decide) rfl (Nat.le_of_ble_eq_true rfl) ?_
  intro p e s m below meth c A ls F hA hdy hK hro hZ hN hl
  obtain ⟨hx, hb, hml, hr, hown, hlocks, hts, hnm⟩ := id F
  have hl : lv_has ls 2 [(0, .ref o)] := hl
  refine lv_iconst (v := (nI (0))) hx hb zd_N_raise_0 (by decide) ?_
  refine lv_istore_n (lv' := [(1, .int (nI (0))), (0, .ref o)]) hx hb zd_N_raise_1 rfl hl (by decide) rfl (fun ls hl => ?_)
  have lp2 : ∀ (n2 k2 : Nat) (d1 : Nat → Nat) (H : Heap) (locs : List Loc) (ls : Array Slot), k2 ≤ 32 → 32 - k2 < n2 → (∀ j, d1 j < 65536) → (0 < k2 → d1 0 = 1) → (∀ j, 0 < j → j < k2 → d1 j = 0) → kz_dy (dC, dI) vwCl A s.heap H locs [(mx, .inl (cI, 32, .inl (kz_dg d1))), (me, .inl (cI, 18, .inl (kz_dg gme))), (mr, .inl (cI, 16, .inl (kz_dg gmr)))] → lv_has ls 2 [(1, .int (nI (k2))), (0, .ref o)] → W p l e { frames := 2, cells := 0, slots := 0, locals := 55 } s m ([.ref o] : List Value).toArray below meth c H locs 0 0 (MQ below (va_Qv (fun (u : (Nat → Nat) × (Nat → Nat) × (Nat → Nat)) => (∀ j, u.1 j < 65536) ∧ (∀ j, u.2.1 j < 65536) ∧ (∀ j, u.2.2 j < 65536) ∧ (kv_val u.2.2 16 = kv_val gmb 16 ^ kv_val gmw 16 % kv_val gmm 16) ∧ True) (kz_B (dC, dI) vwCl A (fun u : (Nat → Nat) × (Nat → Nat) × (Nat → Nat) => [(mx, .inl (cI, 32, .inl (kz_dg u.1))), (me, .inl (cI, 18, .inl (kz_dg u.2.1))), (mr, .inl (cI, 16, .inl (kz_dg u.2.2)))])) A) ([.ref o] : List Value).toArray s 0 0 A) (F0 m 2 ls []) := by
    intro n2
    induction n2 with
    | zero => intro k2; intros; omega
    | succ n2 ih2 =>
      intro k2 d1 H locs ls hi2 hn2 hd_d1 hq1 hqz hdy hl
      refine lv_iload_n hx hb zd_N_raise_2 rfl (lv_at hl 0 rfl) ?_
      refine lv_bipush (v := (nI (32))) hx hb zd_N_raise_3 (by decide) ?_
      refine lv_icmp_ge (tgt := 29) hx hb zd_N_raise_5 (by decide) (fun hc5 => ?_) (fun hc5 => ?_)
      · have hc5 : 32 ≤ k2 := (nI_leI (by omega) (by omega)).mp hc5
        refine lv_aload_n hx hb zd_N_raise_29 rfl (lv_at hl 1 rfl) ?_
        refine lv_aload_n hx hb zd_N_raise_30 rfl (lv_at hl 1 rfl) ?_
        refine va_get (D := (dC, dI)) (ci := 4) (v := .ref mr) (C := zR_N) (T := zT_N) (N := 26) hx hb hts (fun w h => kz_c (zi_N w h)) hown hK (hro.ob hdy.2.2 (k := 0) rfl) 0 rfl rfl 12 (by decide) (hts _ (kz_c mw_603)) (fun _ h9 => h9) rfl zd_N_raise_31 ?_
        refine kz_callv (wk := [(mx, .inl (cI, 32, .inl (kz_dg d1)))]) (va_runV (As := [.ref mr]) (rest := []) ⟨hx, hb, hml, hown, hts⟩ (c_F_remain l dC dI cI cAA cB cL me mr o mt mn ml mc mh mk mp mm mb mw mr mx mP mQ ms mo mW mD mB mR mS gme gmr (th) (sta) (hs) sz_ gmm d1 _ hd_gme hd_gmr hd_gmm hd_d1 (by first | omega | assumption)) (cwV 1 hts (kz_g (kz_mc mw_729 (kz_mc mw_731 (kz_mc mw_27 (kz_mc mw_43 kz_mn)))) mw_732) rfl rfl rfl (by decide +kernel) ⟨Nat.le_of_ble_eq_true rfl, Nat.le_of_ble_eq_true rfl⟩) (kz_preVr hdy hA hK hro hZ hN [1, 2] (by decide) rfl [(true, 0), (true, 1), (false, 0)] rfl (by decide) [0, 1, 2, 3] rfl (fun _ h => by cases h) (fun _ h => by cases h) rfl (ci := 4) (q0 := 0) rfl rfl rfl) rfl rfl hl.1 rfl (lv_room (Nat.le_of_ble_eq_true rfl)) zd_N_raise_34 ⟨Nat.le_of_ble_eq_true rfl, Nat.le_of_ble_eq_true rfl⟩) hdy hA [1, 2] [0] rfl rfl (by decide) (by decide) (fun u H locs hw hdy => ?_)
        obtain ⟨d2, d3⟩ := u
        try dsimp only at hw
        obtain ⟨hd_d2, hd_d3, q4, -⟩ := hw
        have hdy : kz_dy (dC, dI) vwCl A s.heap H locs [(mx, .inl (cI, 32, .inl (kz_dg d1))), (me, .inl (cI, 18, .inl (kz_dg d2))), (mr, .inl (cI, 16, .inl (kz_dg d3)))] := hdy.sub [0, 1, 2] (by decide) rfl
        have hst : kv_val d3 16 = _ := q4
        refine lv_sipush (v := (nI (255))) hx hb zd_N_raise_37 (by decide) ?_
        refine lv_istore_n (lv' := [(1, .int (nI (255))), (0, .ref o)]) hx hb zd_N_raise_40 rfl hl (by decide) rfl (fun ls hl => ?_)
        have lp41 : ∀ (n41 k41 : Nat) (d5 : Nat → Nat) (d6 : Nat → Nat) (d7 : Nat → Nat) (H : Heap) (locs : List Loc) (ls : Array Slot), k41 ≤ 256 → k41 < n41 → (∀ j, d5 j < 65536) → (∀ j, d6 j < 65536) → (∀ j, d7 j < 65536) → (kv_val d7 16 = kv_val gmb 16 ^ (kv_val gmw 16 / 2 ^ (k41)) % kv_val gmm 16) → kz_dy (dC, dI) vwCl A s.heap H locs [(mx, .inl (cI, 32, .inl (kz_dg d5))), (me, .inl (cI, 18, .inl (kz_dg d6))), (mr, .inl (cI, 16, .inl (kz_dg d7)))] → lv_has ls 2 [(1, .int (nI (k41) - 1)), (0, .ref o)] → W p l e { frames := 2, cells := 0, slots := 0, locals := 55 } s m ([.ref o] : List Value).toArray below meth c H locs 0 0 (MQ below (va_Qv (fun (u : (Nat → Nat) × (Nat → Nat) × (Nat → Nat)) => (∀ j, u.1 j < 65536) ∧ (∀ j, u.2.1 j < 65536) ∧ (∀ j, u.2.2 j < 65536) ∧ (kv_val u.2.2 16 = kv_val gmb 16 ^ kv_val gmw 16 % kv_val gmm 16) ∧ True) (kz_B (dC, dI) vwCl A (fun u : (Nat → Nat) × (Nat → Nat) × (Nat → Nat) => [(mx, .inl (cI, 32, .inl (kz_dg u.1))), (me, .inl (cI, 18, .inl (kz_dg u.2.1))), (mr, .inl (cI, 16, .inl (kz_dg u.2.2)))])) A) ([.ref o] : List Value).toArray s 0 0 A) (F0 m 41 ls []) := by
          intro n41
          induction n41 with
          | zero => intro k41 d5 d6 d7 H locs ls hi41 hn41; exact absurd hn41 (Nat.not_lt_zero _)
          | succ n41 ih41 =>
            intro k41 d5 d6 d7 H locs ls hi41 hn41 hd_d5 hd_d6 hd_d7 hr hdy hl
            refine lv_iload_n hx hb zd_N_raise_41 rfl (lv_at hl 0 rfl) ?_
            refine lv_if_lt (tgt := 111) hx hb zd_N_raise_42 (by decide) (fun hc42 => ?_) (fun hc42 => ?_)
            · have hc42 : k41 = 0 := (kz_neg (by omega)).mp hc42
              rw [hc42] at hr
              exact kz_vret F (d5, d6, d7) hdy (⟨hd_d5, hd_d6, hd_d7, by exact kv_powEnd hr, trivial⟩) zd_N_raise_111
            · have hc42 : ¬ k41 = 0 := fun h9 => hc42 ((kz_neg (by omega)).mpr h9)
              obtain ⟨k41p, rfl⟩ : ∃ j, k41 = j + 1 := ⟨k41 - 1, by omega⟩
              rw [nI_pred] at hl
              refine lv_aload_n hx hb zd_N_raise_45 rfl (lv_at hl 1 rfl) ?_
              refine lv_aload_n hx hb zd_N_raise_46 rfl (lv_at hl 1 rfl) ?_
              refine va_get (D := (dC, dI)) (ci := 4) (v := .ref mr) (C := zR_N) (T := zT_N) (N := 26) hx hb hts (fun w h => kz_c (zi_N w h)) hown hK (hro.ob hdy.2.2 (k := 0) rfl) 0 rfl rfl 12 (by decide) (hts _ (kz_c mw_603)) (fun _ h9 => h9) rfl zd_N_raise_47 ?_
              refine lv_aload_n hx hb zd_N_raise_50 rfl (lv_at hl 1 rfl) ?_
              refine va_get (D := (dC, dI)) (ci := 4) (v := .ref mr) (C := zR_N) (T := zT_N) (N := 26) hx hb hts (fun w h => kz_c (zi_N w h)) hown hK (hro.ob hdy.2.2 (k := 0) rfl) 0 rfl rfl 12 (by decide) (hts _ (kz_c mw_603)) (fun _ h9 => h9) rfl zd_N_raise_51 ?_
              refine kz_callv (wk := [(me, .inl (cI, 18, .inl (kz_dg d6))), (mr, .inl (cI, 16, .inl (kz_dg d7)))]) (va_runV (As := [.ref mr, .ref mr]) (rest := []) ⟨hx, hb, hml, hown, hts⟩ (c_Y_multiply l dC dI cI cAA cB cL mx o mt mn ml mc mh mk mp mm mb mw mr me mP mQ ms mo mW mD mB mR mS mr mr d5 (th) (sta) (hs) sz_ d7 d7 _ hd_d5 hd_d7 hd_d7) (cwV 2 hts (kz_g (kz_mc mw_704 (kz_mc mw_706 (kz_mc mw_23 (kz_mc mw_43 kz_mn)))) mw_707) rfl rfl rfl (by decide +kernel) ⟨Nat.le_of_ble_eq_true rfl, Nat.le_of_ble_eq_true rfl⟩) (kz_preVr hdy hA hK hro hZ hN [0] (by decide) rfl [(true, 0), (false, 2), (false, 2)] rfl (by decide) [0, 1, 2, 3] rfl (fun _ h => by cases h) (fun _ h => by cases h) rfl (ci := 4) (q0 := 0) rfl rfl rfl) rfl rfl hl.1 rfl (lv_room (Nat.le_of_ble_eq_true rfl)) zd_N_raise_54 ⟨Nat.le_of_ble_eq_true rfl, Nat.le_of_ble_eq_true rfl⟩) hdy hA [0] [1, 2] rfl rfl (by decide) (by decide) (fun u H locs hw hdy => ?_)
              obtain ⟨d8, rfl⟩ : ∃ z, z = u := ⟨_, rfl⟩
              try dsimp only at hw
              obtain ⟨hd_d8, q9, -⟩ := hw
              have hdy : kz_dy (dC, dI) vwCl A s.heap H locs [(mx, .inl (cI, 32, .inl (kz_dg d8))), (me, .inl (cI, 18, .inl (kz_dg d6))), (mr, .inl (cI, 16, .inl (kz_dg d7)))] := hdy.sub [2, 0, 1] (by decide) rfl
              refine lv_aload_n hx hb zd_N_raise_57 rfl (lv_at hl 1 rfl) ?_
              refine lv_aload_n hx hb zd_N_raise_58 rfl (lv_at hl 1 rfl) ?_
              refine va_get (D := (dC, dI)) (ci := 4) (v := .ref mr) (C := zR_N) (T := zT_N) (N := 26) hx hb hts (fun w h => kz_c (zi_N w h)) hown hK (hro.ob hdy.2.2 (k := 0) rfl) 0 rfl rfl 12 (by decide) (hts _ (kz_c mw_603)) (fun _ h9 => h9) rfl zd_N_raise_59 ?_
              refine kz_callv (wk := [(mx, .inl (cI, 32, .inl (kz_dg d8)))]) (va_runV (As := [.ref mr]) (rest := []) ⟨hx, hb, hml, hown, hts⟩ (c_F_remain l dC dI cI cAA cB cL me mr o mt mn ml mc mh mk mp mm mb mw mr mx mP mQ ms mo mW mD mB mR mS d6 d7 (th) (sta) (hs) sz_ gmm d8 _ hd_d6 hd_d7 hd_gmm hd_d8 (by first | omega | assumption)) (cwV 1 hts (kz_g (kz_mc mw_729 (kz_mc mw_731 (kz_mc mw_27 (kz_mc mw_43 kz_mn)))) mw_732) rfl rfl rfl (by decide +kernel) ⟨Nat.le_of_ble_eq_true rfl, Nat.le_of_ble_eq_true rfl⟩) (kz_preVr hdy hA hK hro hZ hN [1, 2] (by decide) rfl [(true, 0), (true, 1), (false, 0)] rfl (by decide) [0, 1, 2, 3] rfl (fun _ h => by cases h) (fun _ h => by cases h) rfl (ci := 4) (q0 := 0) rfl rfl rfl) rfl rfl hl.1 rfl (lv_room (Nat.le_of_ble_eq_true rfl)) zd_N_raise_62 ⟨Nat.le_of_ble_eq_true rfl, Nat.le_of_ble_eq_true rfl⟩) hdy hA [1, 2] [0] rfl rfl (by decide) (by decide) (fun u H locs hw hdy => ?_)
              obtain ⟨d10, d11⟩ := u
              try dsimp only at hw
              obtain ⟨hd_d10, hd_d11, q12, -⟩ := hw
              have hdy : kz_dy (dC, dI) vwCl A s.heap H locs [(mx, .inl (cI, 32, .inl (kz_dg d8))), (me, .inl (cI, 18, .inl (kz_dg d10))), (mr, .inl (cI, 16, .inl (kz_dg d11)))] := hdy.sub [0, 1, 2] (by decide) rfl
              have hsq : kv_val d11 16 = kv_val d7 16 * kv_val d7 16 % kv_val gmm 16 := (by rw [q12, q9])
              refine lv_aload_n hx hb zd_N_raise_65 rfl (lv_at hl 1 rfl) ?_
              refine va_get (D := (dC, dI)) (ci := 4) (v := .ref mw) (C := zR_N) (T := zT_N) (N := 26) hx hb hts (fun w h => kz_c (zi_N w h)) hown hK (hro.ob hdy.2.2 (k := 0) rfl) 0 rfl rfl 11 (by decide) (hts _ (kz_c mw_602)) (fun _ h9 => h9) rfl zd_N_raise_66 ?_
              refine lv_iload_n hx hb zd_N_raise_69 rfl (lv_at hl 0 rfl) ?_
              refine lv_bipush (v := (nI (16))) hx hb zd_N_raise_70 (by decide) ?_
              refine kz_idiv hx hb zd_N_raise_72 (by decide) (pk_div (by omega) (by omega) (by omega)) ?_
              refine kz_riald hx hb hK hro hdy.2.2 2 0 rfl rfl (vp_in_nI (by omega) (by omega)) zd_N_raise_73 ?_
              refine lv_topi (fun x13 h9 => ?_)
              obtain rfl : x13 = nI (gmw (k41p / 16)) := h9.trans (kz_dgl gmw (by omega))
              have hbx13 := hd_gmw (k41p / 16)
              refine lv_iload_n hx hb zd_N_raise_74 rfl (lv_at hl 0 rfl) ?_
              refine lv_bipush (v := (nI (16))) hx hb zd_N_raise_75 (by decide) ?_
              refine kz_irem hx hb zd_N_raise_77 (by decide) (pk_rem (by omega) (by omega) (by omega)) ?_
              refine lv_ishr hx hb zd_N_raise_78 ?_
              refine lv_topi (fun x14 h9 => ?_)
              obtain rfl : x14 = nI ((gmw (k41p / 16)) / 2 ^ (k41p % 16)) := h9.trans (pk_shrN (by omega) _ _ (kz_s31 _ (by omega)))
              refine lv_iconst (v := (nI (1))) hx hb zd_N_raise_79 (by decide) ?_
              refine lv_iand hx hb zd_N_raise_80 ?_
              refine lv_topi (fun x15 h9 => ?_)
              obtain rfl : x15 = nI (((gmw (k41p / 16)) / 2 ^ (k41p % 16)) % 2) := h9.trans (kz_and1 _)
              refine lv_iconst (v := (nI (1))) hx hb zd_N_raise_81 (by decide) ?_
              refine lv_icmp_ne (tgt := 105) hx hb zd_N_raise_82 (by decide) (fun hc82 => ?_) (fun hc82 => ?_)
              · have hc82 : ¬ (((gmw (k41p / 16)) / 2 ^ (k41p % 16)) % 2) = 1 := fun h9 => hc82 ((nI_eq (by omega) (by omega)).mpr h9)
                refine lv_iinc (v := (nI (k41p) - 1)) (lv' := [(1, .int (nI (k41p) - 1)), (0, .ref o)]) hx hb zd_N_raise_105 hl (k := 0) rfl (kz_m1 _) (by decide) rfl (fun ls hl => ?_)
                refine lv_goto (tgt := 41) hx hb zd_N_raise_108 (by decide) ?_
                have hi9_hr16 : kv_val d11 16 = kv_val gmb 16 ^ (kv_val gmw 16 / 2 ^ (k41p)) % kv_val gmm 16 := by exact kv_pow0 hr hsq (by rw [kv_bit hd_gmw (by omega)]; exact (Nat.mod_two_eq_zero_or_one _).resolve_right hc82)
                exact ih41 k41p d8 d10 d11 _ _ _ (by omega) (by omega) hd_d8 hd_d10 hd_d11 hi9_hr16 hdy (lv_sub hl [0, 1] rfl)
              · have hc82 : (((gmw (k41p / 16)) / 2 ^ (k41p % 16)) % 2) = 1 := (nI_eq (by omega) (by omega)).mp hc82
                refine lv_aload_n hx hb zd_N_raise_85 rfl (lv_at hl 1 rfl) ?_
                refine lv_aload_n hx hb zd_N_raise_86 rfl (lv_at hl 1 rfl) ?_
                refine va_get (D := (dC, dI)) (ci := 4) (v := .ref mr) (C := zR_N) (T := zT_N) (N := 26) hx hb hts (fun w h => kz_c (zi_N w h)) hown hK (hro.ob hdy.2.2 (k := 0) rfl) 0 rfl rfl 12 (by decide) (hts _ (kz_c mw_603)) (fun _ h9 => h9) rfl zd_N_raise_87 ?_
                refine lv_aload_n hx hb zd_N_raise_90 rfl (lv_at hl 1 rfl) ?_
                refine va_get (D := (dC, dI)) (ci := 4) (v := .ref mb) (C := zR_N) (T := zT_N) (N := 26) hx hb hts (fun w h => kz_c (zi_N w h)) hown hK (hro.ob hdy.2.2 (k := 0) rfl) 0 rfl rfl 10 (by decide) (hts _ (kz_c mw_601)) (fun _ h9 => h9) rfl zd_N_raise_91 ?_
                refine kz_callv (wk := [(me, .inl (cI, 18, .inl (kz_dg d10))), (mr, .inl (cI, 16, .inl (kz_dg d11)))]) (va_runV (As := [.ref mr, .ref mb]) (rest := []) ⟨hx, hb, hml, hown, hts⟩ (c_Y_multiply l dC dI cI cAA cB cL mx o mt mn ml mc mh mk mp mm mb mw mr me mP mQ ms mo mW mD mB mR mS mr mb d8 (th) (sta) (hs) sz_ d11 gmb _ hd_d8 hd_d11 hd_gmb) (cwV 2 hts (kz_g (kz_mc mw_704 (kz_mc mw_706 (kz_mc mw_23 (kz_mc mw_43 kz_mn)))) mw_707) rfl rfl rfl (by decide +kernel) ⟨Nat.le_of_ble_eq_true rfl, Nat.le_of_ble_eq_true rfl⟩) (kz_preVr hdy hA hK hro hZ hN [0] (by decide) rfl [(true, 0), (false, 2), (true, 3)] rfl (by decide) [0, 1, 2, 3] rfl (fun _ h => by cases h) (fun _ h => by cases h) rfl (ci := 4) (q0 := 0) rfl rfl rfl) rfl rfl hl.1 rfl (lv_room (Nat.le_of_ble_eq_true rfl)) zd_N_raise_94 ⟨Nat.le_of_ble_eq_true rfl, Nat.le_of_ble_eq_true rfl⟩) hdy hA [0] [1, 2] rfl rfl (by decide) (by decide) (fun u H locs hw hdy => ?_)
                obtain ⟨d17, rfl⟩ : ∃ z, z = u := ⟨_, rfl⟩
                try dsimp only at hw
                obtain ⟨hd_d17, q18, -⟩ := hw
                have hdy : kz_dy (dC, dI) vwCl A s.heap H locs [(mx, .inl (cI, 32, .inl (kz_dg d17))), (me, .inl (cI, 18, .inl (kz_dg d10))), (mr, .inl (cI, 16, .inl (kz_dg d11)))] := hdy.sub [2, 0, 1] (by decide) rfl
                refine lv_aload_n hx hb zd_N_raise_97 rfl (lv_at hl 1 rfl) ?_
                refine lv_aload_n hx hb zd_N_raise_98 rfl (lv_at hl 1 rfl) ?_
                refine va_get (D := (dC, dI)) (ci := 4) (v := .ref mr) (C := zR_N) (T := zT_N) (N := 26) hx hb hts (fun w h => kz_c (zi_N w h)) hown hK (hro.ob hdy.2.2 (k := 0) rfl) 0 rfl rfl 12 (by decide) (hts _ (kz_c mw_603)) (fun _ h9 => h9) rfl zd_N_raise_99 ?_
                refine kz_callv (wk := [(mx, .inl (cI, 32, .inl (kz_dg d17)))]) (va_runV (As := [.ref mr]) (rest := []) ⟨hx, hb, hml, hown, hts⟩ (c_F_remain l dC dI cI cAA cB cL me mr o mt mn ml mc mh mk mp mm mb mw mr mx mP mQ ms mo mW mD mB mR mS d10 d11 (th) (sta) (hs) sz_ gmm d17 _ hd_d10 hd_d11 hd_gmm hd_d17 (by first | omega | assumption)) (cwV 1 hts (kz_g (kz_mc mw_729 (kz_mc mw_731 (kz_mc mw_27 (kz_mc mw_43 kz_mn)))) mw_732) rfl rfl rfl (by decide +kernel) ⟨Nat.le_of_ble_eq_true rfl, Nat.le_of_ble_eq_true rfl⟩) (kz_preVr hdy hA hK hro hZ hN [1, 2] (by decide) rfl [(true, 0), (true, 1), (false, 0)] rfl (by decide) [0, 1, 2, 3] rfl (fun _ h => by cases h) (fun _ h => by cases h) rfl (ci := 4) (q0 := 0) rfl rfl rfl) rfl rfl hl.1 rfl (lv_room (Nat.le_of_ble_eq_true rfl)) zd_N_raise_102 ⟨Nat.le_of_ble_eq_true rfl, Nat.le_of_ble_eq_true rfl⟩) hdy hA [1, 2] [0] rfl rfl (by decide) (by decide) (fun u H locs hw hdy => ?_)
                obtain ⟨d19, d20⟩ := u
                try dsimp only at hw
                obtain ⟨hd_d19, hd_d20, q21, -⟩ := hw
                have hdy : kz_dy (dC, dI) vwCl A s.heap H locs [(mx, .inl (cI, 32, .inl (kz_dg d17))), (me, .inl (cI, 18, .inl (kz_dg d19))), (mr, .inl (cI, 16, .inl (kz_dg d20)))] := hdy.sub [0, 1, 2] (by decide) rfl
                have hmu : kv_val d20 16 = kv_val d11 16 * kv_val gmb 16 % kv_val gmm 16 := (by rw [q21, q18])
                refine lv_iinc (v := (nI (k41p) - 1)) (lv' := [(1, .int (nI (k41p) - 1)), (0, .ref o)]) hx hb zd_N_raise_105 hl (k := 0) rfl (kz_m1 _) (by decide) rfl (fun ls hl => ?_)
                refine lv_goto (tgt := 41) hx hb zd_N_raise_108 (by decide) ?_
                have hi9_hr22 : kv_val d20 16 = kv_val gmb 16 ^ (kv_val gmw 16 / 2 ^ (k41p)) % kv_val gmm 16 := by exact kv_pow1 hr hsq hmu (by rw [kv_bit hd_gmw (by omega)]; exact hc82)
                exact ih41 k41p d17 d19 d20 _ _ _ (by omega) (by omega) hd_d17 hd_d19 hd_d20 hi9_hr22 hdy (lv_sub hl [0, 1] rfl)
        have hi9_hr23 : kv_val d3 16 = kv_val gmb 16 ^ (kv_val gmw 16 / 2 ^ (256)) % kv_val gmm 16 := by exact kv_powStart hd_gmw rfl (kv_oneV (hq1 (by omega)) (fun j a b => hqz j a (by omega))) hst
        exact lp41 (256 + 1) 256 d1 d2 d3 _ _ _ (by omega) (by omega) hd_d1 hd_d2 hd_d3 hi9_hr23 hdy (lv_sub hl [0, 1] rfl)
      · have hc5 : ¬ 32 ≤ k2 := fun h9 => hc5 ((nI_leI (by omega) (by omega)).mpr h9)
        refine lv_aload_n hx hb zd_N_raise_8 rfl (lv_at hl 1 rfl) ?_
        refine va_get (D := (dC, dI)) (ci := 4) (v := .ref mx) (C := zR_N) (T := zT_N) (N := 26) hx hb hts (fun w h => kz_c (zi_N w h)) hown hK (hro.ob hdy.2.2 (k := 0) rfl) 0 rfl rfl 13 (by decide) (hts _ (kz_c mw_604)) (fun _ h9 => h9) rfl zd_N_raise_9 ?_
        refine lv_iload_n hx hb zd_N_raise_12 rfl (lv_at hl 0 rfl) ?_
        refine lv_iload_n hx hb zd_N_raise_13 rfl (lv_at hl 0 rfl) ?_
        refine lv_if_ne (tgt := 21) hx hb zd_N_raise_14 (by decide) (fun hc14 => ?_) (fun hc14 => ?_)
        · have hc14 : ¬ k2 = 0 := fun h9 => hc14 (by have h8 := (nI_eq (by omega) (by omega)).mpr h9; rw [nI_0] at h8; exact h8)
          refine lv_iconst (v := (nI (0))) hx hb zd_N_raise_21 (by decide) ?_
          refine va_iast hx hb hK hdy.1 hdy.2.1 hdy.2.2 0 0 rfl rfl (vp_in_nI (by omega) (by omega)) zd_N_raise_22 (fun H locs hP hD hS => ?_)
          have h9 := kz_dgu d1 (k := k2) 0 (by omega)
          rw [h9] at hP hD
          obtain ⟨f24, ef24, hd_f24, hdy⟩ : ∃ f24 : Nat → Nat, f24 = kv_up d1 k2 0 ∧ (∀ j, f24 j < 65536) ∧ kz_dy (dC, dI) vwCl A s.heap H locs [(mx, .inl (cI, 32, .inl (kz_dg f24))), (me, .inl (cI, 18, .inl (kz_dg gme))), (mr, .inl (cI, 16, .inl (kz_dg gmr)))] := ⟨_, rfl, kv_up_lt hd_d1 (by omega), hP, hD, hS⟩
          refine lv_iinc (v := (nI (k2 + 1))) (lv' := [(1, .int (nI (k2 + 1))), (0, .ref o)]) hx hb zd_N_raise_23 hl (k := 0) rfl (nI_1 _) (by decide) rfl (fun ls hl => ?_)
          refine lv_goto (tgt := 2) hx hb zd_N_raise_26 (by decide) ?_
          have hi9_hq125 : 0 < k2 + 1 → f24 0 = 1 := by intro _; rw [ef24]; first | (rw [kv_up_ne _ _ (by omega)]; exact hq1 (by omega)) | (have h9 : k2 = 0 := (by omega); rw [h9]; exact kv_up_eq _ _ _)
          have hi9_hqz26 : ∀ j, 0 < j → j < k2 + 1 → f24 j = 0 := by intro j a b; rw [ef24]; rcases (by omega : j = k2 ∨ j < k2) with h | h; (first | (exfalso; omega) | (rw [h, kv_up_eq])); (rw [kv_up_ne _ _ (by omega)]; exact hqz j a h)
          exact ih2 (k2 + 1) f24 _ _ _ (by omega) (by omega) hd_f24 hi9_hq125 hi9_hqz26 hdy (lv_sub hl [0, 1] rfl)
        · have hc14 : k2 = 0 := (nI_eq (by omega) (by omega)).mp (by rw [nI_0]; exact hc14)
          refine lv_iconst (v := (nI (1))) hx hb zd_N_raise_17 (by decide) ?_
          refine lv_goto (tgt := 22) hx hb zd_N_raise_18 (by decide) ?_
          refine va_iast hx hb hK hdy.1 hdy.2.1 hdy.2.2 0 0 rfl rfl (vp_in_nI (by omega) (by omega)) zd_N_raise_22 (fun H locs hP hD hS => ?_)
          have h9 := kz_dgu d1 (k := k2) 1 (by omega)
          rw [h9] at hP hD
          obtain ⟨f27, ef27, hd_f27, hdy⟩ : ∃ f27 : Nat → Nat, f27 = kv_up d1 k2 1 ∧ (∀ j, f27 j < 65536) ∧ kz_dy (dC, dI) vwCl A s.heap H locs [(mx, .inl (cI, 32, .inl (kz_dg f27))), (me, .inl (cI, 18, .inl (kz_dg gme))), (mr, .inl (cI, 16, .inl (kz_dg gmr)))] := ⟨_, rfl, kv_up_lt hd_d1 (by omega), hP, hD, hS⟩
          refine lv_iinc (v := (nI (k2 + 1))) (lv' := [(1, .int (nI (k2 + 1))), (0, .ref o)]) hx hb zd_N_raise_23 hl (k := 0) rfl (nI_1 _) (by decide) rfl (fun ls hl => ?_)
          refine lv_goto (tgt := 2) hx hb zd_N_raise_26 (by decide) ?_
          have hi9_hq128 : 0 < k2 + 1 → f27 0 = 1 := by intro _; rw [ef27]; first | (rw [kv_up_ne _ _ (by omega)]; exact hq1 (by omega)) | (have h9 : k2 = 0 := (by omega); rw [h9]; exact kv_up_eq _ _ _)
          have hi9_hqz29 : ∀ j, 0 < j → j < k2 + 1 → f27 j = 0 := by intro j a b; rw [ef27]; rcases (by omega : j = k2 ∨ j < k2) with h | h; (first | (exfalso; omega) | (rw [h, kv_up_eq])); (rw [kv_up_ne _ _ (by omega)]; exact hqz j a h)
          exact ih2 (k2 + 1) f27 _ _ _ (by omega) (by omega) hd_f27 hi9_hq128 hi9_hqz29 hdy (lv_sub hl [0, 1] rfl)
  have hi9_hq130 : 0 < 0 → gmx 0 = 1 := by intro h; omega
  have hi9_hqz31 : ∀ j, 0 < j → j < 0 → gmx j = 0 := by intro j a b; omega
  exact lp2 (32 - 0 + 1) 0 gmx _ _ _ (by omega) (by omega) hd_gmx hi9_hq130 hi9_hqz31 hdy (lv_sub hl [0, 1] rfl)

set_option maxHeartbeats 4000000 in
set_option maxRecDepth 100000 in
/-- KeyMeetingModel.copy([I[I)V -/
theorem c_F_copyS (l : Launch) (dC : Nat → ClassId) (dI : Nat → Nat → Nat) (cI cAA cB cL : ClassId) (o a : Nat) (go : Nat → Nat) (ga : Nat → Nat) (sz : Nat) (hd_go : ∀ j, go j < 65536) (hd_ga : ∀ j, ga j < 4294967296) (hsb : ∀ j, j < 16 → ga j < 65536) : Met l zy_N_copy zw_N_copy { frames := 0, cells := 0, slots := 0, locals := 0 } (kz_Pc (dC, dI) vwCl [(cI, .int), (cAA, .array .int), (cB, .byte), (cL, .long)] [] [] [.ref a, .ref o] [(o, .inl (cI, 16, .inl (kz_dg go)))] [(a, .inl (cI, 18, .inl (kz_dg ga)))] sz) (va_Qv (fun (u : (Nat → Nat)) => (∀ j, u j < 65536) ∧ (∀ j, j < 16 → u j = ga j) ∧ True) (kz_B (dC, dI) vwCl (va_A [(o, .inl (cI, 16, .inl (kz_dg go)))] sz) (fun u : (Nat → Nat) => [(o, .inl (cI, 16, .inl (kz_dg u)))])) (va_A [(o, .inl (cI, 16, .inl (kz_dg go)))] sz)) 0 0 (va_A [(o, .inl (cI, 16, .inl (kz_dg go)))] sz) := by
  refine kz_met (y := zy_N_copy) (ws := zw_N_copy) (av := [.ref a, .ref o]) (sz := sz) (Qc := fun A => va_Qv (fun (u : (Nat → Nat)) => (∀ j, u j < 65536) ∧ (∀ j, j < 16 → u j = ga j) ∧ True) (kz_B (dC, dI) vwCl A (fun u : (Nat → Nat) => [(o, .inl (cI, 16, .inl (kz_dg u)))])) A) (cc := zc_N_copy) (maxL := 3) (ret := none) (by decide) rfl (Nat.le_of_ble_eq_true rfl) ?_
  intro p e s m below meth c A ls F hA hdy hK hro hZ hN hl
  obtain ⟨hx, hb, hml, hr, hown, hlocks, hts, hnm⟩ := id F
  have hl : lv_has ls 3 [(0, .ref a), (1, .ref o)] := hl
  refine lv_iconst (v := (nI (0))) hx hb zd_N_copy_0 (by decide) ?_
  refine lv_istore_n (lv' := [(2, .int (nI (0))), (0, .ref a), (1, .ref o)]) hx hb zd_N_copy_1 rfl hl (by decide) rfl (fun ls hl => ?_)
  have lp2 : ∀ (n2 k2 : Nat) (d1 : Nat → Nat) (H : Heap) (locs : List Loc) (ls : Array Slot), k2 ≤ 16 → 16 - k2 < n2 → (∀ j, d1 j < 65536) → (∀ j, j < k2 → d1 j = ga j) → kz_dy (dC, dI) vwCl A s.heap H locs [(o, .inl (cI, 16, .inl (kz_dg d1)))] → lv_has ls 3 [(2, .int (nI (k2))), (0, .ref a), (1, .ref o)] → W p l e { frames := 0, cells := 0, slots := 0, locals := 0 } s m ([.ref a, .ref o] : List Value).toArray below meth c H locs 0 0 (MQ below (va_Qv (fun (u : (Nat → Nat)) => (∀ j, u j < 65536) ∧ (∀ j, j < 16 → u j = ga j) ∧ True) (kz_B (dC, dI) vwCl A (fun u : (Nat → Nat) => [(o, .inl (cI, 16, .inl (kz_dg u)))])) A) ([.ref a, .ref o] : List Value).toArray s 0 0 A) (F0 m 2 ls []) := by
    intro n2
    induction n2 with
    | zero => intro k2; intros; omega
    | succ n2 ih2 =>
      intro k2 d1 H locs ls hi2 hn2 hd_d1 hfi hdy hl
      refine lv_iload_n hx hb zd_N_copy_2 rfl (lv_at hl 0 rfl) ?_
      refine lv_bipush (v := (nI (16))) hx hb zd_N_copy_3 (by decide) ?_
      refine lv_icmp_ge (tgt := 20) hx hb zd_N_copy_5 (by decide) (fun hc5 => ?_) (fun hc5 => ?_)
      · have hc5 : 16 ≤ k2 := (nI_leI (by omega) (by omega)).mp hc5
        exact kz_vret F (d1) hdy (⟨hd_d1, by exact fun j hj => hfi j (by omega), trivial⟩) zd_N_copy_20
      · have hc5 : ¬ 16 ≤ k2 := fun h9 => hc5 ((nI_leI (by omega) (by omega)).mpr h9)
        refine lv_aload_n hx hb zd_N_copy_8 rfl (lv_at hl 2 rfl) ?_
        refine lv_iload_n hx hb zd_N_copy_9 rfl (lv_at hl 0 rfl) ?_
        refine lv_aload_n hx hb zd_N_copy_10 rfl (lv_at hl 1 rfl) ?_
        refine lv_iload_n hx hb zd_N_copy_11 rfl (lv_at hl 0 rfl) ?_
        refine kz_riald hx hb hK hro hdy.2.2 0 0 rfl rfl (vp_in_nI (by omega) (by omega)) zd_N_copy_12 ?_
        refine lv_topi (fun x2 h9 => ?_)
        obtain rfl : x2 = nI (ga k2) := h9.trans (kz_dgl ga (by omega))
        have hbx2 := hd_ga k2
        have h65 := hsb k2 (by omega)
        refine va_iast hx hb hK hdy.1 hdy.2.1 hdy.2.2 0 0 rfl rfl (vp_in_nI (by omega) (by omega)) zd_N_copy_13 (fun H locs hP hD hS => ?_)
        have h9 := kz_dgu d1 (k := k2) (ga k2) (by omega)
        rw [h9] at hP hD
        obtain ⟨f3, ef3, hd_f3, hdy⟩ : ∃ f3 : Nat → Nat, f3 = kv_up d1 k2 (ga k2) ∧ (∀ j, f3 j < 65536) ∧ kz_dy (dC, dI) vwCl A s.heap H locs [(o, .inl (cI, 16, .inl (kz_dg f3)))] := ⟨_, rfl, kv_up_lt hd_d1 (by omega), hP, hD, hS⟩
        refine lv_iinc (v := (nI (k2 + 1))) (lv' := [(2, .int (nI (k2 + 1))), (0, .ref a), (1, .ref o)]) hx hb zd_N_copy_14 hl (k := 0) rfl (nI_1 _) (by decide) rfl (fun ls hl => ?_)
        refine lv_goto (tgt := 2) hx hb zd_N_copy_17 (by decide) ?_
        have hi9_hfi4 : ∀ j, j < k2 + 1 → f3 j = ga j := by rw [ef3]; exact kv_fill hfi rfl
        exact ih2 (k2 + 1) f3 _ _ _ (by omega) (by omega) hd_f3 hi9_hfi4 hdy (lv_sub hl [0, 1, 2] rfl)
  have hi9_hfi5 : ∀ j, j < 0 → go j = ga j := by intro j hj; omega
  exact lp2 (16 - 0 + 1) 0 go _ _ _ (by omega) (by omega) hd_go hi9_hfi5 hdy (lv_sub hl [0, 1, 2] rfl)

