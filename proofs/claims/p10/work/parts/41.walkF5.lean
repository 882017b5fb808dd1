set_option maxHeartbeats 4000000 in
set_option maxRecDepth 100000 in
/-- KeyMeetingModel.alter(III)I -/
theorem c_F_alter0 (l : Launch) (dC : Nat → ClassId) (dI : Nat → Nat → Nat) (cI cAA cB cL : ClassId) (o mt mn ml mc mh mk mp mm mb mw mr mx me mP mQ ms mo mW mD mB mR mS : Nat) (th : Int32) (sta : Int32) (hs : Int32) (sz_ : Nat) (gmn : Nat → Int32) (w_ : Nat) (i_ : Nat) (v_ : Nat) (sz : Nat) (hw_ : w_ < 4) (hi_ : i_ < 8) : Met l zy_N_alter zw_N_alter { frames := 1, cells := 0, slots := 0, locals := 22 } (kz_Pc (dC, dI) vwCl [(cI, .int), (cAA, .array .int), (cB, .byte), (cL, .long)] [] [] [.ref o, .int (nI (w_)), .int (nI (i_)), .int (nI (v_))] [(o, .inr (4, [.int th, .int sta, .ref mt, .ref mn, .ref ml, .ref mc, .ref mh, .ref mk, .ref mp, .ref mm, .ref mb, .ref mw, .ref mr, .ref mx, .ref me, .ref mP, .ref mQ, .ref ms, .int hs, .int (nI (sz_)), .ref mo, .ref mW, .ref mD, .ref mB, .ref mR, .ref mS])), (mn, .inl (cI, 32, .inl gmn))] [] sz) (va_Qi (fun (r : Int32) (u : Int32 × (Nat → Int32)) => (u.1 = nI 0) ∧ ((kx_alt sta w_ ∧ r = 1 ∧ u.2 = upd gmn (8 * w_ + i_) (gmn (8 * w_ + i_) ^^^ nI v_)) ∨ (¬ kx_alt sta w_ ∧ r = 0 ∧ u.2 = gmn)) ∧ True) (kz_B (dC, dI) vwCl (va_A [(o, .inr (4, [.int th, .int sta, .ref mt, .ref mn, .ref ml, .ref mc, .ref mh, .ref mk, .ref mp, .ref mm, .ref mb, .ref mw, .ref mr, .ref mx, .ref me, .ref mP, .ref mQ, .ref ms, .int hs, .int (nI (sz_)), .ref mo, .ref mW, .ref mD, .ref mB, .ref mR, .ref mS])), (mn, .inl (cI, 32, .inl gmn))] sz) (fun u : Int32 × (Nat → Int32) => [(o, .inr (4, [.int u.1, .int sta, .ref mt, .ref mn, .ref ml, .ref mc, .ref mh, .ref mk, .ref mp, .ref mm, .ref mb, .ref mw, .ref mr, .ref mx, .ref me, .ref mP, .ref mQ, .ref ms, .int hs, .int (nI (sz_)), .ref mo, .ref mW, .ref mD, .ref mB, .ref mR, .ref mS])), (mn, .inl (cI, 32, .inl u.2))])) (va_A [(o, .inr (4, [.int th, .int sta, .ref mt, .ref mn, .ref ml, .ref mc, .ref mh, .ref mk, .ref mp, .ref mm, .ref mb, .ref mw, .ref mr, .ref mx, .ref me, .ref mP, .ref mQ, .ref ms, .int hs, .int (nI (sz_)), .ref mo, .ref mW, .ref mD, .ref mB, .ref mR, .ref mS])), (mn, .inl (cI, 32, .inl gmn))] sz)) 0 0 (va_A [(o, .inr (4, [.int th, .int sta, .ref mt, .ref mn, .ref ml, .ref mc, .ref mh, .ref mk, .ref mp, .ref mm, .ref mb, .ref mw, .ref mr, .ref mx, .ref me, .ref mP, .ref mQ, .ref ms, .int hs, .int (nI (sz_)), .ref mo, .ref mW, .ref mD, .ref mB, .ref mR, .ref mS])), (mn, .inl (cI, 32, .inl gmn))] sz) := by
  refine kz_met (y := zy_N_alter) (ws := zw_N_alter) (av := [.ref o, .int (nI (w_)), .int (nI (i_)), .int (nI (v_))]) (sz := sz) (Qc := fun A => va_Qi (fun (r : Int32) (u : Int32 × (Nat → Int32)) => (u.1 = nI 0) ∧ ((kx_alt sta w_ ∧ r = 1 ∧ u.2 = upd gmn (8 * w_ + i_) (gmn (8 * w_ + i_) ^^^ nI v_)) ∨ (¬ kx_alt sta w_ ∧ r = 0 ∧ u.2 = gmn)) ∧ True) (kz_B (dC, dI) vwCl A (fun u : Int32 × (Nat → Int32) => [(o, .inr (4, [.int u.1, .int sta, .ref mt, .ref mn, .ref ml, .ref mc, .ref mh, .ref mk, .ref mp, .ref mm, .ref mb, .ref mw, .ref mr, .ref mx, .ref me, .ref mP, .ref mQ, .ref ms, .int hs, .int (nI (sz_)), .ref mo, .ref mW, .ref mD, .ref mB, .ref mR, .ref mS])), (mn, .inl (cI, 32, .inl u.2))])) A) (cc := zc_N_alter) (maxL := 4) (ret := some .int) (by decide) rfl (Nat.le_of_ble_eq_true rfl) ?_
  intro p e s m below meth c A ls F hA hdy hK hro hZ hN hl
  obtain ⟨hx, hb, hml, hr, hown, hlocks, hts, hnm⟩ := id F
  have hl : lv_has ls 4 [(0, .ref o), (1, .int (nI (w_))), (2, .int (nI (i_))), (3, .int (nI (v_)))] := hl
  refine lv_aload_n hx hb zd_N_alter_0 rfl (lv_at hl 0 rfl) ?_
  refine lv_iload_n hx hb zd_N_alter_1 rfl (lv_at hl 1 rfl) ?_
  refine lv_iload_n hx hb zd_N_alter_2 rfl (lv_at hl 2 rfl) ?_
  refine kz_calli (wk := [(o, .inr (4, [.int th, .int sta, .ref mt, .ref mn, .ref ml, .ref mc, .ref mh, .ref mk, .ref mp, .ref mm, .ref mb, .ref mw, .ref mr, .ref mx, .ref me, .ref mP, .ref mQ, .ref ms, .int hs, .int (nI (sz_)), .ref mo, .ref mW, .ref mD, .ref mB, .ref mR, .ref mS])), (mn, .inl (cI, 32, .inl gmn))]) (va_runS (As := [.int (nI (w_)), .int (nI (i_))]) (rest := [.ref o]) ⟨hx, hb, hml, hown, hts⟩ (c_M_isNone0 l dC dI cI cAA cB cL w_ i_ _ (by first | omega | assumption) (by first | omega | assumption)) (va_cwS 2 hts (kz_g (kz_mc mw_791 (kz_mc mw_792 (kz_mc mw_43 kz_mn))) mw_793) rfl rfl rfl (by decide +kernel) ⟨Nat.le_of_ble_eq_true rfl, Nat.le_of_ble_eq_true rfl⟩) (kz_preS hdy hA hK hro hZ hN [] (by decide) rfl [] rfl (by decide) [0, 1, 2, 3] rfl (fun _ h => by cases h) (fun _ h => by cases h) rfl) rfl rfl hl.1 rfl (lv_room (Nat.le_of_ble_eq_true rfl)) zd_N_alter_3 ⟨Nat.le_of_ble_eq_true rfl, Nat.le_of_ble_eq_true rfl⟩) hdy hA [] [0, 1] rfl rfl (by decide) (by decide) (fun r u H locs hw hdy => ?_)
  try dsimp only at hw
  obtain ⟨rfl, -⟩ := hw
  have hdy : kz_dy (dC, dI) vwCl A s.heap H locs [(o, .inr (4, [.int th, .int sta, .ref mt, .ref mn, .ref ml, .ref mc, .ref mh, .ref mk, .ref mp, .ref mm, .ref mb, .ref mw, .ref mr, .ref mx, .ref me, .ref mP, .ref mQ, .ref ms, .int hs, .int (nI (sz_)), .ref mo, .ref mW, .ref mD, .ref mB, .ref mR, .ref mS])), (mn, .inl (cI, 32, .inl gmn))] := hdy.sub [0, 1] (by decide) rfl
  refine lv_iconst (v := (nI (0))) hx hb zd_N_alter_6 (by decide) ?_
  refine kz_calli (wk := [(mn, .inl (cI, 32, .inl gmn))]) (va_runV (As := [.int (nI (0)), .int (nI (0))]) (rest := []) ⟨hx, hb, hml, hown, hts⟩ (c_M_refused0 l dC dI cI cAA cB cL o mt mn ml mc mh mk mp mm mb mw mr mx me mP mQ ms mo mW mD mB mR mS (th) (sta) (hs) sz_ _) (cwV 2 hts (kz_g (kz_mc mw_674 (kz_mc mw_676 (kz_mc mw_20 (kz_mc mw_43 kz_mn)))) mw_677) rfl rfl rfl (by decide +kernel) ⟨Nat.le_of_ble_eq_true rfl, Nat.le_of_ble_eq_true rfl⟩) (kz_preV hdy hA hK hro hZ hN [0] (by decide) rfl [] rfl (by decide) [0, 1, 2, 3] rfl (fun _ h => by cases h) (fun _ h => by cases h) rfl (ci := 4) (q0 := 0) rfl rfl rfl) rfl rfl hl.1 rfl (lv_room (Nat.le_of_ble_eq_true rfl)) zd_N_alter_7 ⟨Nat.le_of_ble_eq_true rfl, Nat.le_of_ble_eq_true rfl⟩) hdy hA [0] [1] rfl rfl (by decide) (by decide) (fun r u H locs hw hdy => ?_)
  obtain ⟨x1, rfl⟩ : ∃ z, z = u := ⟨_, rfl⟩
  try dsimp only at hw
  obtain ⟨rfl, q2, -⟩ := hw
  have hdy : kz_dy (dC, dI) vwCl A s.heap H locs [(o, .inr (4, [.int x1, .int sta, .ref mt, .ref mn, .ref ml, .ref mc, .ref mh, .ref mk, .ref mp, .ref mm, .ref mb, .ref mw, .ref mr, .ref mx, .ref me, .ref mP, .ref mQ, .ref ms, .int hs, .int (nI (sz_)), .ref mo, .ref mW, .ref mD, .ref mB, .ref mR, .ref mS])), (mn, .inl (cI, 32, .inl gmn))] := hdy.sub [1, 0] (by decide) rfl
  refine lv_if_eq (tgt := 15) hx hb zd_N_alter_10 (by decide) (fun hc10 => ?_) (fun hc10 => ?_)
  · refine lv_aload_n hx hb zd_N_alter_15 rfl (lv_at hl 0 rfl) ?_
    refine va_get (D := (dC, dI)) (ci := 4) (v := .int sta) (C := zR_N) (T := zT_N) (N := 26) hx hb hts (fun w h => kz_c (zi_N w h)) hown hK hdy.1 0 rfl rfl 1 (by decide) (hts _ (kz_c mw_592)) (fun _ h9 => h9) rfl zd_N_alter_16 ?_
    refine lv_iload_n hx hb zd_N_alter_19 rfl (lv_at hl 1 rfl) ?_
    refine lv_if_ne (tgt := 27) hx hb zd_N_alter_20 (by decide) (fun hc20 => ?_) (fun hc20 => ?_)
    · have hc20 : ¬ w_ = 0 := fun h9 => hc20 (by have h8 := (nI_eq (by omega) (by omega)).mpr h9; rw [nI_0] at h8; exact h8)
      refine lv_iconst (v := (nI (2))) hx hb zd_N_alter_27 (by decide) ?_
      refine lv_icmp_eq (tgt := 33) hx hb zd_N_alter_28 (by decide) (fun hc28 => ?_) (fun hc28 => ?_)
      · refine lv_aload_n hx hb zd_N_alter_33 rfl (lv_at hl 0 rfl) ?_
        refine va_get (D := (dC, dI)) (ci := 4) (v := .ref mn) (C := zR_N) (T := zT_N) (N := 26) hx hb hts (fun w h => kz_c (zi_N w h)) hown hK hdy.1 0 rfl rfl 3 (by decide) (hts _ (kz_c mw_594)) (fun _ h9 => h9) rfl zd_N_alter_34 ?_
        refine lv_bipush (v := (nI (8))) hx hb zd_N_alter_37 (by decide) ?_
        refine lv_iload_n hx hb zd_N_alter_39 rfl (lv_at hl 1 rfl) ?_
        refine kz_imul hx hb zd_N_alter_40 (pk_mul _ _) ?_
        refine lv_iload_n hx hb zd_N_alter_41 rfl (lv_at hl 2 rfl) ?_
        refine kz_iadd hx hb zd_N_alter_42 (nI_add _ _) ?_
        refine lv_aload_n hx hb zd_N_alter_43 rfl (lv_at hl 0 rfl) ?_
        refine va_get (D := (dC, dI)) (ci := 4) (v := .ref mn) (C := zR_N) (T := zT_N) (N := 26) hx hb hts (fun w h => kz_c (zi_N w h)) hown hK hdy.1 0 rfl rfl 3 (by decide) (hts _ (kz_c mw_594)) (fun _ h9 => h9) rfl zd_N_alter_44 ?_
        refine lv_bipush (v := (nI (8))) hx hb zd_N_alter_47 (by decide) ?_
        refine lv_iload_n hx hb zd_N_alter_49 rfl (lv_at hl 1 rfl) ?_
        refine kz_imul hx hb zd_N_alter_50 (pk_mul _ _) ?_
        refine lv_iload_n hx hb zd_N_alter_51 rfl (lv_at hl 2 rfl) ?_
        refine kz_iadd hx hb zd_N_alter_52 (nI_add _ _) ?_
        refine va_iald hx hb hK hdy.1 1 0 rfl rfl (vp_in_nI (by omega) (by omega)) zd_N_alter_53 ?_
        refine lv_topi (fun x3 h9 => ?_)
        obtain rfl : x3 = gmn (8 * w_ + i_) := h9.trans (by rw [nI_clamp (by omega)])
        refine lv_iload_n hx hb zd_N_alter_54 rfl (lv_at hl 3 rfl) ?_
        refine lv_ixor hx hb zd_N_alter_55 ?_
        refine va_iast hx hb hK hdy.1 hdy.2.1 hdy.2.2 1 0 rfl rfl (vp_in_nI (by omega) (by omega)) zd_N_alter_56 (fun H locs hP hD hS => ?_)
        rw [nI_clamp (by omega)] at hP hD
        obtain ⟨f4, ef4, hdy⟩ : ∃ f4 : Nat → Int32, f4 = upd gmn (8 * w_ + i_) (((gmn (8 * w_ + i_)) ^^^ (nI (v_)))) ∧ kz_dy (dC, dI) vwCl A s.heap H locs [(o, .inr (4, [.int x1, .int sta, .ref mt, .ref mn, .ref ml, .ref mc, .ref mh, .ref mk, .ref mp, .ref mm, .ref mb, .ref mw, .ref mr, .ref mx, .ref me, .ref mP, .ref mQ, .ref ms, .int hs, .int (nI (sz_)), .ref mo, .ref mW, .ref mD, .ref mB, .ref mR, .ref mS])), (mn, .inl (cI, 32, .inl f4))] := ⟨_, rfl, hP, hD, hS⟩
        refine lv_iconst (v := (nI (1))) hx hb zd_N_alter_57 (by decide) ?_
        exact kz_iret F (x1, f4) hdy (⟨by first | assumption | rfl | omega, by first | exact Or.inl ⟨kx_altT (by omega) (by first | exact hc28 | assumption), rfl, ef4⟩ | exact Or.inl ⟨kx_altU (by omega) (by first | exact hc28 | assumption), rfl, ef4⟩, trivial⟩) zd_N_alter_58
      · refine lv_iconst (v := (nI (0))) hx hb zd_N_alter_31 (by decide) ?_
        exact kz_iret F (x1, gmn) hdy (⟨by first | assumption | rfl | omega, by (first | (exfalso; omega) | exact Or.inr ⟨fun h9 => hc28 (kx_altT1 (by omega) h9), rfl, rfl⟩ | exact Or.inr ⟨fun h9 => hc28 (kx_altU1 (by omega) h9), rfl, rfl⟩), trivial⟩) zd_N_alter_32
    · have hc20 : w_ = 0 := (nI_eq (by omega) (by omega)).mp (by rw [nI_0]; exact hc20)
      refine lv_iconst (v := (nI (1))) hx hb zd_N_alter_23 (by decide) ?_
      refine lv_goto (tgt := 28) hx hb zd_N_alter_24 (by decide) ?_
      refine lv_icmp_eq (tgt := 33) hx hb zd_N_alter_28 (by decide) (fun hc28 => ?_) (fun hc28 => ?_)
      · refine lv_aload_n hx hb zd_N_alter_33 rfl (lv_at hl 0 rfl) ?_
        refine va_get (D := (dC, dI)) (ci := 4) (v := .ref mn) (C := zR_N) (T := zT_N) (N := 26) hx hb hts (fun w h => kz_c (zi_N w h)) hown hK hdy.1 0 rfl rfl 3 (by decide) (hts _ (kz_c mw_594)) (fun _ h9 => h9) rfl zd_N_alter_34 ?_
        refine lv_bipush (v := (nI (8))) hx hb zd_N_alter_37 (by decide) ?_
        refine lv_iload_n hx hb zd_N_alter_39 rfl (lv_at hl 1 rfl) ?_
        refine kz_imul hx hb zd_N_alter_40 (pk_mul _ _) ?_
        refine lv_iload_n hx hb zd_N_alter_41 rfl (lv_at hl 2 rfl) ?_
        refine kz_iadd hx hb zd_N_alter_42 (nI_add _ _) ?_
        refine lv_aload_n hx hb zd_N_alter_43 rfl (lv_at hl 0 rfl) ?_
        refine va_get (D := (dC, dI)) (ci := 4) (v := .ref mn) (C := zR_N) (T := zT_N) (N := 26) hx hb hts (fun w h => kz_c (zi_N w h)) hown hK hdy.1 0 rfl rfl 3 (by decide) (hts _ (kz_c mw_594)) (fun _ h9 => h9) rfl zd_N_alter_44 ?_
        refine lv_bipush (v := (nI (8))) hx hb zd_N_alter_47 (by decide) ?_
        refine lv_iload_n hx hb zd_N_alter_49 rfl (lv_at hl 1 rfl) ?_
        refine kz_imul hx hb zd_N_alter_50 (pk_mul _ _) ?_
        refine lv_iload_n hx hb zd_N_alter_51 rfl (lv_at hl 2 rfl) ?_
        refine kz_iadd hx hb zd_N_alter_52 (nI_add _ _) ?_
        refine va_iald hx hb hK hdy.1 1 0 rfl rfl (vp_in_nI (by omega) (by omega)) zd_N_alter_53 ?_
        refine lv_topi (fun x5 h9 => ?_)
        obtain rfl : x5 = gmn (8 * w_ + i_) := h9.trans (by rw [nI_clamp (by omega)])
        refine lv_iload_n hx hb zd_N_alter_54 rfl (lv_at hl 3 rfl) ?_
        refine lv_ixor hx hb zd_N_alter_55 ?_
        refine va_iast hx hb hK hdy.1 hdy.2.1 hdy.2.2 1 0 rfl rfl (vp_in_nI (by omega) (by omega)) zd_N_alter_56 (fun H locs hP hD hS => ?_)
        rw [nI_clamp (by omega)] at hP hD
        obtain ⟨f6, ef6, hdy⟩ : ∃ f6 : Nat → Int32, f6 = upd gmn (8 * w_ + i_) (((gmn (8 * w_ + i_)) ^^^ (nI (v_)))) ∧ kz_dy (dC, dI) vwCl A s.heap H locs [(o, .inr (4, [.int x1, .int sta, .ref mt, .ref mn, .ref ml, .ref mc, .ref mh, .ref mk, .ref mp, .ref mm, .ref mb, .ref mw, .ref mr, .ref mx, .ref me, .ref mP, .ref mQ, .ref ms, .int hs, .int (nI (sz_)), .ref mo, .ref mW, .ref mD, .ref mB, .ref mR, .ref mS])), (mn, .inl (cI, 32, .inl f6))] := ⟨_, rfl, hP, hD, hS⟩
        refine lv_iconst (v := (nI (1))) hx hb zd_N_alter_57 (by decide) ?_
        exact kz_iret F (x1, f6) hdy (⟨by first | assumption | rfl | omega, by first | exact Or.inl ⟨kx_altT (by omega) (by first | exact hc28 | assumption), rfl, ef6⟩ | exact Or.inl ⟨kx_altU (by omega) (by first | exact hc28 | assumption), rfl, ef6⟩, trivial⟩) zd_N_alter_58
      · refine lv_iconst (v := (nI (0))) hx hb zd_N_alter_31 (by decide) ?_
        exact kz_iret F (x1, gmn) hdy (⟨by first | assumption | rfl | omega, by (first | (exfalso; omega) | exact Or.inr ⟨fun h9 => hc28 (kx_altT1 (by omega) h9), rfl, rfl⟩ | exact Or.inr ⟨fun h9 => hc28 (kx_altU1 (by omega) h9), rfl, rfl⟩), trivial⟩) zd_N_alter_32
  · exact absurd (by decide) hc10

set_option maxHeartbeats 4000000 in
set_option maxRecDepth 100000 in
/-- KeyMeetingModel.alter(III)I -/
theorem c_F_alter1 (l : Launch) (dC : Nat → ClassId) (dI : Nat → Nat → Nat) (cI cAA cB cL : ClassId) (o mt mn ml mc mh mk mp mm mb mw mr mx me mP mQ ms mo mW mD mB mR mS : Nat) (th : Int32) (sta : Int32) (hs : Int32) (sz_ : Nat) (gmn : Nat → Int32) (w_ : Int32) (i_ : Int32) (v : Int32) (sz : Nat) (hbad : w_ < 0 ∨ nI 3 < w_ ∨ i_ < 0 ∨ nI 7 < i_) : Met l zy_N_alter zw_N_alter { frames := 1, cells := 0, slots := 0, locals := 22 } (kz_Pc (dC, dI) vwCl [(cI, .int), (cAA, .array .int), (cB, .byte), (cL, .long)] [] [] [.ref o, .int w_, .int i_, .int v] [(o, .inr (4, [.int th, .int sta, .ref mt, .ref mn, .ref ml, .ref mc, .ref mh, .ref mk, .ref mp, .ref mm, .ref mb, .ref mw, .ref mr, .ref mx, .ref me, .ref mP, .ref mQ, .ref ms, .int hs, .int (nI (sz_)), .ref mo, .ref mW, .ref mD, .ref mB, .ref mR, .ref mS]))] [(mn, .inl (cI, 32, .inl gmn))] sz) (va_Qi (fun (r : Int32) (u : Int32) => (u = nI 1) ∧ True) (kz_B (dC, dI) vwCl (va_A [(o, .inr (4, [.int th, .int sta, .ref mt, .ref mn, .ref ml, .ref mc, .ref mh, .ref mk, .ref mp, .ref mm, .ref mb, .ref mw, .ref mr, .ref mx, .ref me, .ref mP, .ref mQ, .ref ms, .int hs, .int (nI (sz_)), .ref mo, .ref mW, .ref mD, .ref mB, .ref mR, .ref mS]))] sz) (fun u : Int32 => [(o, .inr (4, [.int u, .int sta, .ref mt, .ref mn, .ref ml, .ref mc, .ref mh, .ref mk, .ref mp, .ref mm, .ref mb, .ref mw, .ref mr, .ref mx, .ref me, .ref mP, .ref mQ, .ref ms, .int hs, .int (nI (sz_)), .ref mo, .ref mW, .ref mD, .ref mB, .ref mR, .ref mS]))])) (va_A [(o, .inr (4, [.int th, .int sta, .ref mt, .ref mn, .ref ml, .ref mc, .ref mh, .ref mk, .ref mp, .ref mm, .ref mb, .ref mw, .ref mr, .ref mx, .ref me, .ref mP, .ref mQ, .ref ms, .int hs, .int (nI (sz_)), .ref mo, .ref mW, .ref mD, .ref mB, .ref mR, .ref mS]))] sz)) 0 0 (va_A [(o, .inr (4, [.int th, .int sta, .ref mt, .ref mn, .ref ml, .ref mc, .ref mh, .ref mk, .ref mp, .ref mm, .ref mb, .ref mw, .ref mr, .ref mx, .ref me, .ref mP, .ref mQ, .ref ms, .int hs, .int (nI (sz_)), .ref mo, .ref mW, .ref mD, .ref mB, .ref mR, .ref mS]))] sz) := by
  refine kz_met (y := zy_N_alter) (ws := zw_N_alter) (av := [.ref o, .int w_, .int i_, .int v]) (sz := sz) (Qc := fun A => va_Qi (fun (r : Int32) (u : Int32) => (u = nI 1) ∧ True) (kz_B (dC, dI) vwCl A (fun u : Int32 => [(o, .inr (4, [.int u, .int sta, .ref mt, .ref mn, .ref ml, .ref mc, .ref mh, .ref mk, .ref mp, .ref mm, .ref mb, .ref mw, .ref mr, .ref mx, .ref me, .ref mP, .ref mQ, .ref ms, .int hs, .int (nI (sz_)), .ref mo, .ref mW, .ref mD, .ref mB, .ref mR, .ref mS]))])) A) (cc := zc_N_alter) (maxL := 4) (ret := some .int) (by decide) rfl (Nat.le_of_ble_eq_true rfl) ?_
  intro p e s m below meth c A ls F hA hdy hK hro hZ hN hl
  obtain ⟨hx, hb, hml, hr, hown, hlocks, hts, hnm⟩ := id F
  have hl : lv_has ls 4 [(0, .ref o), (1, .int w_), (2, .int i_), (3, .int v)] := hl
  refine lv_aload_n hx hb zd_N_alter_0 rfl (lv_at hl 0 rfl) ?_
  refine lv_iload_n hx hb zd_N_alter_1 rfl (lv_at hl 1 rfl) ?_
  refine lv_iload_n hx hb zd_N_alter_2 rfl (lv_at hl 2 rfl) ?_
  refine kz_calli (wk := [(o, .inr (4, [.int th, .int sta, .ref mt, .ref mn, .ref ml, .ref mc, .ref mh, .ref mk, .ref mp, .ref mm, .ref mb, .ref mw, .ref mr, .ref mx, .ref me, .ref mP, .ref mQ, .ref ms, .int hs, .int (nI (sz_)), .ref mo, .ref mW, .ref mD, .ref mB, .ref mR, .ref mS]))]) (va_runS (As := [.int w_, .int i_]) (rest := [.ref o]) ⟨hx, hb, hml, hown, hts⟩ (c_R_isNone1 l dC dI cI cAA cB cL (w_) (i_) _ (by first | omega | assumption)) (va_cwS 2 hts (kz_g (kz_mc mw_791 (kz_mc mw_792 (kz_mc mw_43 kz_mn))) mw_793) rfl rfl rfl (by decide +kernel) ⟨Nat.le_of_ble_eq_true rfl, Nat.le_of_ble_eq_true rfl⟩) (kz_preS hdy hA hK hro hZ hN [] (by decide) rfl [] rfl (by decide) [0, 1, 2, 3] rfl (fun _ h => by cases h) (fun _ h => by cases h) rfl) rfl rfl hl.1 rfl (lv_room (Nat.le_of_ble_eq_true rfl)) zd_N_alter_3 ⟨Nat.le_of_ble_eq_true rfl, Nat.le_of_ble_eq_true rfl⟩) hdy hA [] [0] rfl rfl (by decide) (by decide) (fun r u H locs hw hdy => ?_)
  try dsimp only at hw
  obtain ⟨rfl, -⟩ := hw
  have hdy : kz_dy (dC, dI) vwCl A s.heap H locs [(o, .inr (4, [.int th, .int sta, .ref mt, .ref mn, .ref ml, .ref mc, .ref mh, .ref mk, .ref mp, .ref mm, .ref mb, .ref mw, .ref mr, .ref mx, .ref me, .ref mP, .ref mQ, .ref ms, .int hs, .int (nI (sz_)), .ref mo, .ref mW, .ref mD, .ref mB, .ref mR, .ref mS]))] := hdy.sub [0] (by decide) rfl
  refine lv_iconst (v := (nI (0))) hx hb zd_N_alter_6 (by decide) ?_
  refine kz_calli (wk := []) (va_runV (As := [.int (nI (1)), .int (nI (0))]) (rest := []) ⟨hx, hb, hml, hown, hts⟩ (c_M_refused1 l dC dI cI cAA cB cL o mt mn ml mc mh mk mp mm mb mw mr mx me mP mQ ms mo mW mD mB mR mS (th) (sta) (hs) sz_ _) (cwV 2 hts (kz_g (kz_mc mw_674 (kz_mc mw_676 (kz_mc mw_20 (kz_mc mw_43 kz_mn)))) mw_677) rfl rfl rfl (by decide +kernel) ⟨Nat.le_of_ble_eq_true rfl, Nat.le_of_ble_eq_true rfl⟩) (kz_preV hdy hA hK hro hZ hN [0] (by decide) rfl [] rfl (by decide) [0, 1, 2, 3] rfl (fun _ h => by cases h) (fun _ h => by cases h) rfl (ci := 4) (q0 := 0) rfl rfl rfl) rfl rfl hl.1 rfl (lv_room (Nat.le_of_ble_eq_true rfl)) zd_N_alter_7 ⟨Nat.le_of_ble_eq_true rfl, Nat.le_of_ble_eq_true rfl⟩) hdy hA [0] [] rfl rfl (by decide) (by decide) (fun r u H locs hw hdy => ?_)
  obtain ⟨x1, rfl⟩ : ∃ z, z = u := ⟨_, rfl⟩
  try dsimp only at hw
  obtain ⟨rfl, q2, -⟩ := hw
  have hdy : kz_dy (dC, dI) vwCl A s.heap H locs [(o, .inr (4, [.int x1, .int sta, .ref mt, .ref mn, .ref ml, .ref mc, .ref mh, .ref mk, .ref mp, .ref mm, .ref mb, .ref mw, .ref mr, .ref mx, .ref me, .ref mP, .ref mQ, .ref ms, .int hs, .int (nI (sz_)), .ref mo, .ref mW, .ref mD, .ref mB, .ref mR, .ref mS]))] := hdy.sub [0] (by decide) rfl
  refine lv_if_eq (tgt := 15) hx hb zd_N_alter_10 (by decide) (fun hc10 => ?_) (fun hc10 => ?_)
  · exact absurd hc10 (by decide)
  · refine lv_iconst (v := (nI (0))) hx hb zd_N_alter_13 (by decide) ?_
    exact kz_iret F (x1) hdy (⟨by first | assumption | rfl | omega, trivial⟩) zd_N_alter_14

set_option maxHeartbeats 4000000 in
set_option maxRecDepth 100000 in
/-- KeyMeetingModel.sent(II)I -/
theorem c_F_sent0 (l : Launch) (dC : Nat → ClassId) (dI : Nat → Nat → Nat) (cI cAA cB cL : ClassId) (o mt mn ml mc mh mk mp mm mb mw mr mx me mP mQ ms mo mW mD mB mR mS : Nat) (th : Int32) (sta : Int32) (hs : Int32) (sz_ : Nat) (gmn : Nat → Int32) (w_ : Nat) (i_ : Nat) (sz : Nat) (hw_ : w_ < 4) (hi_ : i_ < 8) : Met l zy_N_sent zw_N_sent { frames := 1, cells := 0, slots := 0, locals := 22 } (kz_Pc (dC, dI) vwCl [(cI, .int), (cAA, .array .int), (cB, .byte), (cL, .long)] [] [] [.ref o, .int (nI (w_)), .int (nI (i_))] [(o, .inr (4, [.int th, .int sta, .ref mt, .ref mn, .ref ml, .ref mc, .ref mh, .ref mk, .ref mp, .ref mm, .ref mb, .ref mw, .ref mr, .ref mx, .ref me, .ref mP, .ref mQ, .ref ms, .int hs, .int (nI (sz_)), .ref mo, .ref mW, .ref mD, .ref mB, .ref mR, .ref mS]))] [(mn, .inl (cI, 32, .inl gmn))] sz) (va_Qi (fun (r : Int32) (u : Int32) => (u = nI 0) ∧ True) (kz_B (dC, dI) vwCl (va_A [(o, .inr (4, [.int th, .int sta, .ref mt, .ref mn, .ref ml, .ref mc, .ref mh, .ref mk, .ref mp, .ref mm, .ref mb, .ref mw, .ref mr, .ref mx, .ref me, .ref mP, .ref mQ, .ref ms, .int hs, .int (nI (sz_)), .ref mo, .ref mW, .ref mD, .ref mB, .ref mR, .ref mS]))] sz) (fun u : Int32 => [(o, .inr (4, [.int u, .int sta, .ref mt, .ref mn, .ref ml, .ref mc, .ref mh, .ref mk, .ref mp, .ref mm, .ref mb, .ref mw, .ref mr, .ref mx, .ref me, .ref mP, .ref mQ, .ref ms, .int hs, .int (nI (sz_)), .ref mo, .ref mW, .ref mD, .ref mB, .ref mR, .ref mS]))])) (va_A [(o, .inr (4, [.int th, .int sta, .ref mt, .ref mn, .ref ml, .ref mc, .ref mh, .ref mk, .ref mp, .ref mm, .ref mb, .ref mw, .ref mr, .ref mx, .ref me, .ref mP, .ref mQ, .ref ms, .int hs, .int (nI (sz_)), .ref mo, .ref mW, .ref mD, .ref mB, .ref mR, .ref mS]))] sz)) 0 0 (va_A [(o, .inr (4, [.int th, .int sta, .ref mt, .ref mn, .ref ml, .ref mc, .ref mh, .ref mk, .ref mp, .ref mm, .ref mb, .ref mw, .ref mr, .ref mx, .ref me, .ref mP, .ref mQ, .ref ms, .int hs, .int (nI (sz_)), .ref mo, .ref mW, .ref mD, .ref mB, .ref mR, .ref mS]))] sz) := by
  refine kz_met (y := zy_N_sent) (ws := zw_N_sent) (av := [.ref o, .int (nI (w_)), .int (nI (i_))]) (sz := sz) (Qc := fun A => va_Qi (fun (r : Int32) (u : Int32) => (u = nI 0) ∧ True) (kz_B (dC, dI) vwCl A (fun u : Int32 => [(o, .inr (4, [.int u, .int sta, .ref mt, .ref mn, .ref ml, .ref mc, .ref mh, .ref mk, .ref mp, .ref mm, .ref mb, .ref mw, .ref mr, .ref mx, .ref me, .ref mP, .ref mQ, .ref ms, .int hs, .int (nI (sz_)), .ref mo, .ref mW, .ref mD, .ref mB, .ref mR, .ref mS]))])) A) (cc := zc_N_sent) (maxL := 3) (ret := some .int) (by decide) rfl (Nat.le_of_ble_eq_true rfl) ?_
  intro p e s m below meth c A ls F hA hdy hK hro hZ hN hl
  obtain ⟨hx, hb, hml, hr, hown, hlocks, hts, hnm⟩ := id F
  have hl : lv_has ls 3 [(0, .ref o), (1, .int (nI (w_))), (2, .int (nI (i_)))] := hl
  refine lv_aload_n hx hb zd_N_sent_0 rfl (lv_at hl 0 rfl) ?_
  refine lv_iload_n hx hb zd_N_sent_1 rfl (lv_at hl 1 rfl) ?_
  refine lv_iload_n hx hb zd_N_sent_2 rfl (lv_at hl 2 rfl) ?_
  refine kz_calli (wk := [(o, .inr (4, [.int th, .int sta, .ref mt, .ref mn, .ref ml, .ref mc, .ref mh, .ref mk, .ref mp, .ref mm, .ref mb, .ref mw, .ref mr, .ref mx, .ref me, .ref mP, .ref mQ, .ref ms, .int hs, .int (nI (sz_)), .ref mo, .ref mW, .ref mD, .ref mB, .ref mR, .ref mS]))]) (va_runS (As := [.int (nI (w_)), .int (nI (i_))]) (rest := [.ref o]) ⟨hx, hb, hml, hown, hts⟩ (c_M_isNone0 l dC dI cI cAA cB cL w_ i_ _ (by first | omega | assumption) (by first | omega | assumption)) (va_cwS 2 hts (kz_g (kz_mc mw_791 (kz_mc mw_792 (kz_mc mw_43 kz_mn))) mw_793) rfl rfl rfl (by decide +kernel) ⟨Nat.le_of_ble_eq_true rfl, Nat.le_of_ble_eq_true rfl⟩) (kz_preS hdy hA hK hro hZ hN [] (by decide) rfl [] rfl (by decide) [0, 1, 2, 3] rfl (fun _ h => by cases h) (fun _ h => by cases h) rfl) rfl rfl hl.1 rfl (lv_room (Nat.le_of_ble_eq_true rfl)) zd_N_sent_3 ⟨Nat.le_of_ble_eq_true rfl, Nat.le_of_ble_eq_true rfl⟩) hdy hA [] [0] rfl rfl (by decide) (by decide) (fun r u H locs hw hdy => ?_)
  try dsimp only at hw
  obtain ⟨rfl, -⟩ := hw
  have hdy : kz_dy (dC, dI) vwCl A s.heap H locs [(o, .inr (4, [.int th, .int sta, .ref mt, .ref mn, .ref ml, .ref mc, .ref mh, .ref mk, .ref mp, .ref mm, .ref mb, .ref mw, .ref mr, .ref mx, .ref me, .ref mP, .ref mQ, .ref ms, .int hs, .int (nI (sz_)), .ref mo, .ref mW, .ref mD, .ref mB, .ref mR, .ref mS]))] := hdy.sub [0] (by decide) rfl
  refine lv_iconst (v := (nI (0))) hx hb zd_N_sent_6 (by decide) ?_
  refine kz_calli (wk := []) (va_runV (As := [.int (nI (0)), .int (nI (0))]) (rest := []) ⟨hx, hb, hml, hown, hts⟩ (c_M_refused0 l dC dI cI cAA cB cL o mt mn ml mc mh mk mp mm mb mw mr mx me mP mQ ms mo mW mD mB mR mS (th) (sta) (hs) sz_ _) (cwV 2 hts (kz_g (kz_mc mw_674 (kz_mc mw_676 (kz_mc mw_20 (kz_mc mw_43 kz_mn)))) mw_677) rfl rfl rfl (by decide +kernel) ⟨Nat.le_of_ble_eq_true rfl, Nat.le_of_ble_eq_true rfl⟩) (kz_preV hdy hA hK hro hZ hN [0] (by decide) rfl [] rfl (by decide) [0, 1, 2, 3] rfl (fun _ h => by cases h) (fun _ h => by cases h) rfl (ci := 4) (q0 := 0) rfl rfl rfl) rfl rfl hl.1 rfl (lv_room (Nat.le_of_ble_eq_true rfl)) zd_N_sent_7 ⟨Nat.le_of_ble_eq_true rfl, Nat.le_of_ble_eq_true rfl⟩) hdy hA [0] [] rfl rfl (by decide) (by decide) (fun r u H locs hw hdy => ?_)
  obtain ⟨x1, rfl⟩ : ∃ z, z = u := ⟨_, rfl⟩
  try dsimp only at hw
  obtain ⟨rfl, q2, -⟩ := hw
  have hdy : kz_dy (dC, dI) vwCl A s.heap H locs [(o, .inr (4, [.int x1, .int sta, .ref mt, .ref mn, .ref ml, .ref mc, .ref mh, .ref mk, .ref mp, .ref mm, .ref mb, .ref mw, .ref mr, .ref mx, .ref me, .ref mP, .ref mQ, .ref ms, .int hs, .int (nI (sz_)), .ref mo, .ref mW, .ref mD, .ref mB, .ref mR, .ref mS]))] := hdy.sub [0] (by decide) rfl
  refine lv_if_eq (tgt := 17) hx hb zd_N_sent_10 (by decide) (fun hc10 => ?_) (fun hc10 => ?_)
  · refine lv_aload_n hx hb zd_N_sent_17 rfl (lv_at hl 0 rfl) ?_
    refine va_get (D := (dC, dI)) (ci := 4) (v := .ref mn) (C := zR_N) (T := zT_N) (N := 26) hx hb hts (fun w h => kz_c (zi_N w h)) hown hK hdy.1 0 rfl rfl 3 (by decide) (hts _ (kz_c mw_594)) (fun _ h9 => h9) rfl zd_N_sent_18 ?_
    refine lv_bipush (v := (nI (8))) hx hb zd_N_sent_21 (by decide) ?_
    refine lv_iload_n hx hb zd_N_sent_23 rfl (lv_at hl 1 rfl) ?_
    refine kz_imul hx hb zd_N_sent_24 (pk_mul _ _) ?_
    refine lv_iload_n hx hb zd_N_sent_25 rfl (lv_at hl 2 rfl) ?_
    refine kz_iadd hx hb zd_N_sent_26 (nI_add _ _) ?_
    refine kz_riald hx hb hK hro hdy.2.2 0 0 rfl rfl (vp_in_nI (by omega) (by omega)) zd_N_sent_27 ?_
    refine lv_topi (fun x3 h9 => ?_)
    obtain rfl : x3 = gmn (8 * w_ + i_) := h9.trans (by rw [nI_clamp (by omega)])
    exact kz_iret F (x1) hdy (⟨by first | assumption | rfl | omega, trivial⟩) zd_N_sent_28
  · exact absurd (by decide) hc10

set_option maxHeartbeats 4000000 in
set_option maxRecDepth 100000 in
/-- KeyMeetingModel.sent(II)I -/
theorem c_F_sent1 (l : Launch) (dC : Nat → ClassId) (dI : Nat → Nat → Nat) (cI cAA cB cL : ClassId) (o mt mn ml mc mh mk mp mm mb mw mr mx me mP mQ ms mo mW mD mB mR mS : Nat) (th : Int32) (sta : Int32) (hs : Int32) (sz_ : Nat) (gmn : Nat → Int32) (w_ : Int32) (i_ : Int32) (sz : Nat) (hbad : w_ < 0 ∨ nI 3 < w_ ∨ i_ < 0 ∨ nI 7 < i_) : Met l zy_N_sent zw_N_sent { frames := 1, cells := 0, slots := 0, locals := 22 } (kz_Pc (dC, dI) vwCl [(cI, .int), (cAA, .array .int), (cB, .byte), (cL, .long)] [] [] [.ref o, .int w_, .int i_] [(o, .inr (4, [.int th, .int sta, .ref mt, .ref mn, .ref ml, .ref mc, .ref mh, .ref mk, .ref mp, .ref mm, .ref mb, .ref mw, .ref mr, .ref mx, .ref me, .ref mP, .ref mQ, .ref ms, .int hs, .int (nI (sz_)), .ref mo, .ref mW, .ref mD, .ref mB, .ref mR, .ref mS]))] [(mn, .inl (cI, 32, .inl gmn))] sz) (va_Qi (fun (r : Int32) (u : Int32) => (u = nI 1) ∧ True) (kz_B (dC, dI) vwCl (va_A [(o, .inr (4, [.int th, .int sta, .ref mt, .ref mn, .ref ml, .ref mc, .ref mh, .ref mk, .ref mp, .ref mm, .ref mb, .ref mw, .ref mr, .ref mx, .ref me, .ref mP, .ref mQ, .ref ms, .int hs, .int (nI (sz_)), .ref mo, .ref mW, .ref mD, .ref mB, .ref mR, .ref mS]))] sz) (fun u : Int32 => [(o, .inr (4, [.int u, .int sta, .ref mt, .ref mn, .ref ml, .ref mc, .ref mh, .ref mk, .ref mp, .ref mm, .ref mb, .ref mw, .ref mr, .ref mx, .ref me, .ref mP, .ref mQ, .ref ms, .int hs, .int (nI (sz_)), .ref mo, .ref mW, .ref mD, .ref mB, .ref mR, .ref mS]))])) (va_A [(o, .inr (4, [.int th, .int sta, .ref mt, .ref mn, .ref ml, .ref mc, .ref mh, .ref mk, .ref mp, .ref mm, .ref mb, .ref mw, .ref mr, .ref mx, .ref me, .ref mP, .ref mQ, .ref ms, .int hs, .int (nI (sz_)), .ref mo, .ref mW, .ref mD, .ref mB, .ref mR, .ref mS]))] sz)) 0 0 (va_A [(o, .inr (4, [.int th, .int sta, .ref mt, .ref mn, .ref ml, .ref mc, .ref mh, .ref mk, .ref mp, .ref mm, .ref mb, .ref mw, .ref mr, .ref mx, .ref me, .ref mP, .ref mQ, .ref ms, .int hs, .int (nI (sz_)), .ref mo, .ref mW, .ref mD, .ref mB, .ref mR, .ref mS]))] sz) := by
  refine kz_met (y := zy_N_sent) (ws := zw_N_sent) (av := [.ref o, .int w_, .int i_]) (sz := sz) (Qc := fun A => va_Qi (fun (r : Int32) (u : Int32) => (u = nI 1) ∧ True) (kz_B (dC, dI) vwCl A (fun u : Int32 => [(o, .inr (4, [.int u, .int sta, .ref mt, .ref mn, .ref ml, .ref mc, .ref mh, .ref mk, .ref mp, .ref mm, .ref mb, .ref mw, .ref mr, .ref mx, .ref me, .ref mP, .ref mQ, .ref ms, .int hs, .int (nI (sz_)), .ref mo, .ref mW, .ref mD, .ref mB, .ref mR, .ref mS]))])) A) (cc := zc_N_sent) (maxL := 3) (ret := some .int) (by decide) rfl (Nat.le_of_ble_eq_true rfl) ?_
  intro p e s m below meth c A ls F hA hdy hK hro hZ hN hl
  obtain ⟨hx, hb, hml, hr, hown, hlocks, hts, hnm⟩ := id F
  have hl : lv_has ls 3 [(0, .ref o), (1, .int w_), (2, .int i_)] := hl
  refine lv_aload_n hx hb zd_N_sent_0 rfl (lv_at hl 0 rfl) ?_
  refine lv_iload_n hx hb zd_N_sent_1 rfl (lv_at hl 1 rfl) ?_
  refine lv_iload_n hx hb zd_N_sent_2 rfl (lv_at hl 2 rfl) ?_
  refine kz_calli (wk := [(o, .inr (4, [.int th, .int sta, .ref mt, .ref mn, .ref ml, .ref mc, .ref mh, .ref mk, .ref mp, .ref mm, .ref mb, .ref mw, .ref mr, .ref mx, .ref me, .ref mP, .ref mQ, .ref ms, .int hs, .int (nI (sz_)), .ref mo, .ref mW, .ref mD, .ref mB, .ref mR, .ref mS]))]) (va_runS (As := [.int w_, .int i_]) (rest := [.ref o]) ⟨hx, hb, hml, hown, hts⟩ (c_R_isNone1 l dC dI cI cAA cB cL (w_) (i_) _ (by first | omega | assumption)) (va_cwS 2 hts (kz_g (kz_mc mw_791 (kz_mc mw_792 (kz_mc mw_43 kz_mn))) mw_793) rfl rfl rfl (by decide +kernel) ⟨Nat.le_of_ble_eq_true rfl, Nat.le_of_ble_eq_true rfl⟩) (kz_preS hdy hA hK hro hZ hN [] (by decide) rfl [] rfl (by decide) [0, 1, 2, 3] rfl (fun _ h => by cases h) (fun _ h => by cases h) rfl) rfl rfl hl.1 rfl (lv_room (Nat.le_of_ble_eq_true rfl)) zd_N_sent_3 ⟨Nat.le_of_ble_eq_true rfl, Nat.le_of_ble_eq_true rfl⟩) hdy hA [] [0] rfl rfl (by decide) (by decide) (fun r u H locs hw hdy => ?_)
  try dsimp only at hw
  obtain ⟨rfl, -⟩ := hw
  have hdy : kz_dy (dC, dI) vwCl A s.heap H locs [(o, .inr (4, [.int th, .int sta, .ref mt, .ref mn, .ref ml, .ref mc, .ref mh, .ref mk, .ref mp, .ref mm, .ref mb, .ref mw, .ref mr, .ref mx, .ref me, .ref mP, .ref mQ, .ref ms, .int hs, .int (nI (sz_)), .ref mo, .ref mW, .ref mD, .ref mB, .ref mR, .ref mS]))] := hdy.sub [0] (by decide) rfl
  refine lv_iconst (v := (nI (0))) hx hb zd_N_sent_6 (by decide) ?_
  refine kz_calli (wk := []) (va_runV (As := [.int (nI (1)), .int (nI (0))]) (rest := []) ⟨hx, hb, hml, hown, hts⟩ (c_M_refused1 l dC dI cI cAA cB cL o mt mn ml mc mh mk mp mm mb mw mr mx me mP mQ ms mo mW mD mB mR mS (th) (sta) (hs) sz_ _) (cwV 2 hts (kz_g (kz_mc mw_674 (kz_mc mw_676 (kz_mc mw_20 (kz_mc mw_43 kz_mn)))) mw_677) rfl rfl rfl (by decide +kernel) ⟨Nat.le_of_ble_eq_true rfl, Nat.le_of_ble_eq_true rfl⟩) (kz_preV hdy hA hK hro hZ hN [0] (by decide) rfl [] rfl (by decide) [0, 1, 2, 3] rfl (fun _ h => by cases h) (fun _ h => by cases h) rfl (ci := 4) (q0 := 0) rfl rfl rfl) rfl rfl hl.1 rfl (lv_room (Nat.le_of_ble_eq_true rfl)) zd_N_sent_7 ⟨Nat.le_of_ble_eq_true rfl, Nat.le_of_ble_eq_true rfl⟩) hdy hA [0] [] rfl rfl (by decide) (by decide) (fun r u H locs hw hdy => ?_)
  obtain ⟨x1, rfl⟩ : ∃ z, z = u := ⟨_, rfl⟩
  try dsimp only at hw
  obtain ⟨rfl, q2, -⟩ := hw
  have hdy : kz_dy (dC, dI) vwCl A s.heap H locs [(o, .inr (4, [.int x1, .int sta, .ref mt, .ref mn, .ref ml, .ref mc, .ref mh, .ref mk, .ref mp, .ref mm, .ref mb, .ref mw, .ref mr, .ref mx, .ref me, .ref mP, .ref mQ, .ref ms, .int hs, .int (nI (sz_)), .ref mo, .ref mW, .ref mD, .ref mB, .ref mR, .ref mS]))] := hdy.sub [0] (by decide) rfl
  refine lv_if_eq (tgt := 17) hx hb zd_N_sent_10 (by decide) (fun hc10 => ?_) (fun hc10 => ?_)
  · exact absurd hc10 (by decide)
  · refine lv_iconst (v := (nI (0))) hx hb zd_N_sent_13 (by decide) ?_
    refine lv_goto (tgt := 28) hx hb zd_N_sent_14 (by decide) ?_
    exact kz_iret F (x1) hdy (⟨by first | assumption | rfl | omega, trivial⟩) zd_N_sent_28

set_option maxHeartbeats 4000000 in
set_option maxRecDepth 100000 in
/-- KeyMeetingModel.key(II)I -/
theorem c_F_key0 (l : Launch) (dC : Nat → ClassId) (dI : Nat → Nat → Nat) (cI cAA cB cL : ClassId) (o mt mn ml mc mh mk mp mm mb mw mr mx me mP mQ ms mo mW mD mB mR mS : Nat) (th : Int32) (sta : Int32) (hs : Int32) (sz_ : Nat) (gmk : Nat → Int32) (w_ : Nat) (i_ : Nat) (sz : Nat) (hw_ : w_ < 2) (hi_ : i_ < 16) (hst_ : sta = nI 3) : Met l zy_N_key zw_N_key { frames := 1, cells := 0, slots := 0, locals := 22 } (kz_Pc (dC, dI) vwCl [(cI, .int), (cAA, .array .int), (cB, .byte), (cL, .long)] [] [] [.ref o, .int (nI (w_)), .int (nI (i_))] [(o, .inr (4, [.int th, .int sta, .ref mt, .ref mn, .ref ml, .ref mc, .ref mh, .ref mk, .ref mp, .ref mm, .ref mb, .ref mw, .ref mr, .ref mx, .ref me, .ref mP, .ref mQ, .ref ms, .int hs, .int (nI (sz_)), .ref mo, .ref mW, .ref mD, .ref mB, .ref mR, .ref mS]))] [(mk, .inl (cI, 32, .inl gmk))] sz) (va_Qi (fun (r : Int32) (u : Int32) => (u = nI 0) ∧ (r = gmk (16 * w_ + i_)) ∧ True) (kz_B (dC, dI) vwCl (va_A [(o, .inr (4, [.int th, .int sta, .ref mt, .ref mn, .ref ml, .ref mc, .ref mh, .ref mk, .ref mp, .ref mm, .ref mb, .ref mw, .ref mr, .ref mx, .ref me, .ref mP, .ref mQ, .ref ms, .int hs, .int (nI (sz_)), .ref mo, .ref mW, .ref mD, .ref mB, .ref mR, .ref mS]))] sz) (fun u : Int32 => [(o, .inr (4, [.int u, .int sta, .ref mt, .ref mn, .ref ml, .ref mc, .ref mh, .ref mk, .ref mp, .ref mm, .ref mb, .ref mw, .ref mr, .ref mx, .ref me, .ref mP, .ref mQ, .ref ms, .int hs, .int (nI (sz_)), .ref mo, .ref mW, .ref mD, .ref mB, .ref mR, .ref mS]))])) (va_A [(o, .inr (4, [.int th, .int sta, .ref mt, .ref mn, .ref ml, .ref mc, .ref mh, .ref mk, .ref mp, .ref mm, .ref mb, .ref mw, .ref mr, .ref mx, .ref me, .ref mP, .ref mQ, .ref ms, .int hs, .int (nI (sz_)), .ref mo, .ref mW, .ref mD, .ref mB, .ref mR, .ref mS]))] sz)) 0 0 (va_A [(o, .inr (4, [.int th, .int sta, .ref mt, .ref mn, .ref ml, .ref mc, .ref mh, .ref mk, .ref mp, .ref mm, .ref mb, .ref mw, .ref mr, .ref mx, .ref me, .ref mP, .ref mQ, .ref ms, .int hs, .int (nI (sz_)), .ref mo, .ref mW, .ref mD, .ref mB, .ref mR, .ref mS]))] sz) := by
  refine kz_met (y := zy_N_key) (ws := zw_N_key) (av := [.ref o, .int (nI (w_)), .int (nI (i_))]) (sz := sz) (Qc := fun A => va_Qi (fun (r : Int32) (u : Int32) => (u = nI 0) ∧ (r = gmk (16 * w_ + i_)) ∧ True) (kz_B (dC, dI) vwCl A (fun u : Int32 => [(o, .inr (4, [.int u, .int sta, .ref mt, .ref mn, .ref ml, .ref mc, .ref mh, .ref mk, .ref mp, .ref mm, .ref mb, .ref mw, .ref mr, .ref mx, .ref me, .ref mP, .ref mQ, .ref ms, .int hs, .int (nI (sz_)), .ref mo, .ref mW, .ref mD, .ref mB, .ref mR, .ref mS]))])) A) (cc := zc_N_key) (maxL := 3) (ret := some .int) (by decide) rfl (Nat.le_of_ble_eq_true rfl) ?_
  intro p e s m below meth c A ls F hA hdy hK hro hZ hN hl
  obtain ⟨hx, hb, hml, hr, hown, hlocks, hts, hnm⟩ := id F
  have hl : lv_has ls 3 [(0, .ref o), (1, .int (nI (w_))), (2, .int (nI (i_)))] := hl
  refine lv_aload_n hx hb zd_N_key_0 rfl (lv_at hl 0 rfl) ?_
  refine lv_iload_n hx hb zd_N_key_1 rfl (lv_at hl 1 rfl) ?_
  refine lv_if_lt (tgt := 20) hx hb zd_N_key_2 (by decide) (fun hc2 => ?_) (fun hc2 => ?_)
  · exact absurd hc2 (nI_pos (by omega))
  · refine lv_iload_n hx hb zd_N_key_5 rfl (lv_at hl 1 rfl) ?_
    refine lv_iconst (v := (nI (1))) hx hb zd_N_key_6 (by decide) ?_
    refine lv_icmp_gt (tgt := 20) hx hb zd_N_key_7 (by decide) (fun hc7 => ?_) (fun hc7 => ?_)
    · have hc7 : 1 < w_ := (nI_ltI (by omega) (by omega)).mp hc7
      refine lv_iconst (v := (nI (1))) hx hb zd_N_key_20 (by decide) ?_
      refine lv_goto (tgt := 25) hx hb zd_N_key_21 (by decide) ?_
      refine lv_aload_n hx hb zd_N_key_25 rfl (lv_at hl 0 rfl) ?_
      refine va_get (D := (dC, dI)) (ci := 4) (v := .int sta) (C := zR_N) (T := zT_N) (N := 26) hx hb hts (fun w h => kz_c (zi_N w h)) hown hK hdy.1 0 rfl rfl 1 (by decide) (hts _ (kz_c mw_592)) (fun _ h9 => h9) rfl zd_N_key_26 ?_
      refine lv_iconst (v := (nI (3))) hx hb zd_N_key_29 (by decide) ?_
      refine lv_icmp_eq (tgt := 37) hx hb zd_N_key_30 (by decide) (fun hc30 => ?_) (fun hc30 => ?_)
      · refine lv_iconst (v := (nI (0))) hx hb zd_N_key_37 (by decide) ?_
        refine kz_calli (wk := []) (va_runV (As := [.int (nI (1)), .int (nI (0))]) (rest := []) ⟨hx, hb, hml, hown, hts⟩ (c_M_refused1 l dC dI cI cAA cB cL o mt mn ml mc mh mk mp mm mb mw mr mx me mP mQ ms mo mW mD mB mR mS (th) (sta) (hs) sz_ _) (cwV 2 hts (kz_g (kz_mc mw_674 (kz_mc mw_676 (kz_mc mw_20 (kz_mc mw_43 kz_mn)))) mw_677) rfl rfl rfl (by decide +kernel) ⟨Nat.le_of_ble_eq_true rfl, Nat.le_of_ble_eq_true rfl⟩) (kz_preV hdy hA hK hro hZ hN [0] (by decide) rfl [] rfl (by decide) [0, 1, 2, 3] rfl (fun _ h => by cases h) (fun _ h => by cases h) rfl (ci := 4) (q0 := 0) rfl rfl rfl) rfl rfl hl.1 rfl (lv_room (Nat.le_of_ble_eq_true rfl)) zd_N_key_38 ⟨Nat.le_of_ble_eq_true rfl, Nat.le_of_ble_eq_true rfl⟩) hdy hA [0] [] rfl rfl (by decide) (by decide) (fun r u H locs hw hdy => ?_)
        obtain ⟨x1, rfl⟩ : ∃ z, z = u := ⟨_, rfl⟩
        try dsimp only at hw
        obtain ⟨rfl, q2, -⟩ := hw
        have hdy : kz_dy (dC, dI) vwCl A s.heap H locs [(o, .inr (4, [.int x1, .int sta, .ref mt, .ref mn, .ref ml, .ref mc, .ref mh, .ref mk, .ref mp, .ref mm, .ref mb, .ref mw, .ref mr, .ref mx, .ref me, .ref mP, .ref mQ, .ref ms, .int hs, .int (nI (sz_)), .ref mo, .ref mW, .ref mD, .ref mB, .ref mR, .ref mS]))] := hdy.sub [0] (by decide) rfl
        refine lv_if_eq (tgt := 48) hx hb zd_N_key_41 (by decide) (fun hc41 => ?_) (fun hc41 => ?_)
        · exact absurd hc41 (by decide)
        · refine lv_iconst (v := (nI (0))) hx hb zd_N_key_44 (by decide) ?_
          refine lv_goto (tgt := 59) hx hb zd_N_key_45 (by decide) ?_
          exact kz_iret F (x1) hdy (⟨by first | assumption | rfl | omega, by first | rfl | (exfalso; omega), trivial⟩) zd_N_key_59
      · exact absurd hst_ hc30
    · have hc7 : ¬ 1 < w_ := fun h9 => hc7 ((nI_ltI (by omega) (by omega)).mpr h9)
      refine lv_iload_n hx hb zd_N_key_10 rfl (lv_at hl 2 rfl) ?_
      refine lv_if_lt (tgt := 20) hx hb zd_N_key_11 (by decide) (fun hc11 => ?_) (fun hc11 => ?_)
      · exact absurd hc11 (nI_pos (by omega))
      · refine lv_iload_n hx hb zd_N_key_14 rfl (lv_at hl 2 rfl) ?_
        refine lv_bipush (v := (nI (15))) hx hb zd_N_key_15 (by decide) ?_
        refine lv_icmp_le (tgt := 24) hx hb zd_N_key_17 (by decide) (fun hc17 => ?_) (fun hc17 => ?_)
        · have hc17 : i_ ≤ 15 := (nI_leI (by omega) (by omega)).mp hc17
          refine lv_iconst (v := (nI (0))) hx hb zd_N_key_24 (by decide) ?_
          refine lv_aload_n hx hb zd_N_key_25 rfl (lv_at hl 0 rfl) ?_
          refine va_get (D := (dC, dI)) (ci := 4) (v := .int sta) (C := zR_N) (T := zT_N) (N := 26) hx hb hts (fun w h => kz_c (zi_N w h)) hown hK hdy.1 0 rfl rfl 1 (by decide) (hts _ (kz_c mw_592)) (fun _ h9 => h9) rfl zd_N_key_26 ?_
          refine lv_iconst (v := (nI (3))) hx hb zd_N_key_29 (by decide) ?_
          refine lv_icmp_eq (tgt := 37) hx hb zd_N_key_30 (by decide) (fun hc30 => ?_) (fun hc30 => ?_)
          · refine lv_iconst (v := (nI (0))) hx hb zd_N_key_37 (by decide) ?_
            refine kz_calli (wk := []) (va_runV (As := [.int (nI (0)), .int (nI (0))]) (rest := []) ⟨hx, hb, hml, hown, hts⟩ (c_M_refused0 l dC dI cI cAA cB cL o mt mn ml mc mh mk mp mm mb mw mr mx me mP mQ ms mo mW mD mB mR mS (th) (sta) (hs) sz_ _) (cwV 2 hts (kz_g (kz_mc mw_674 (kz_mc mw_676 (kz_mc mw_20 (kz_mc mw_43 kz_mn)))) mw_677) rfl rfl rfl (by decide +kernel) ⟨Nat.le_of_ble_eq_true rfl, Nat.le_of_ble_eq_true rfl⟩) (kz_preV hdy hA hK hro hZ hN [0] (by decide) rfl [] rfl (by decide) [0, 1, 2, 3] rfl (fun _ h => by cases h) (fun _ h => by cases h) rfl (ci := 4) (q0 := 0) rfl rfl rfl) rfl rfl hl.1 rfl (lv_room (Nat.le_of_ble_eq_true rfl)) zd_N_key_38 ⟨Nat.le_of_ble_eq_true rfl, Nat.le_of_ble_eq_true rfl⟩) hdy hA [0] [] rfl rfl (by decide) (by decide) (fun r u H locs hw hdy => ?_)
            obtain ⟨x3, rfl⟩ : ∃ z, z = u := ⟨_, rfl⟩
            try dsimp only at hw
            obtain ⟨rfl, q4, -⟩ := hw
            have hdy : kz_dy (dC, dI) vwCl A s.heap H locs [(o, .inr (4, [.int x3, .int sta, .ref mt, .ref mn, .ref ml, .ref mc, .ref mh, .ref mk, .ref mp, .ref mm, .ref mb, .ref mw, .ref mr, .ref mx, .ref me, .ref mP, .ref mQ, .ref ms, .int hs, .int (nI (sz_)), .ref mo, .ref mW, .ref mD, .ref mB, .ref mR, .ref mS]))] := hdy.sub [0] (by decide) rfl
            refine lv_if_eq (tgt := 48) hx hb zd_N_key_41 (by decide) (fun hc41 => ?_) (fun hc41 => ?_)
            · refine lv_aload_n hx hb zd_N_key_48 rfl (lv_at hl 0 rfl) ?_
              refine va_get (D := (dC, dI)) (ci := 4) (v := .ref mk) (C := zR_N) (T := zT_N) (N := 26) hx hb hts (fun w h => kz_c (zi_N w h)) hown hK hdy.1 0 rfl rfl 7 (by decide) (hts _ (kz_c mw_598)) (fun _ h9 => h9) rfl zd_N_key_49 ?_
              refine lv_bipush (v := (nI (16))) hx hb zd_N_key_52 (by decide) ?_
              refine lv_iload_n hx hb zd_N_key_54 rfl (lv_at hl 1 rfl) ?_
              refine kz_imul hx hb zd_N_key_55 (pk_mul _ _) ?_
              refine lv_iload_n hx hb zd_N_key_56 rfl (lv_at hl 2 rfl) ?_
              refine kz_iadd hx hb zd_N_key_57 (nI_add _ _) ?_
              refine kz_riald hx hb hK hro hdy.2.2 0 0 rfl rfl (vp_in_nI (by omega) (by omega)) zd_N_key_58 ?_
              refine lv_topi (fun x5 h9 => ?_)
              obtain rfl : x5 = gmk (16 * w_ + i_) := h9.trans (by rw [nI_clamp (by omega)])
              exact kz_iret F (x3) hdy (⟨by first | assumption | rfl | omega, by first | rfl | (exfalso; omega), trivial⟩) zd_N_key_59
            · exact absurd (by decide) hc41
          · exact absurd hst_ hc30
        · have hc17 : ¬ i_ ≤ 15 := fun h9 => hc17 ((nI_leI (by omega) (by omega)).mpr h9)
          refine lv_iconst (v := (nI (1))) hx hb zd_N_key_20 (by decide) ?_
          refine lv_goto (tgt := 25) hx hb zd_N_key_21 (by decide) ?_
          refine lv_aload_n hx hb zd_N_key_25 rfl (lv_at hl 0 rfl) ?_
          refine va_get (D := (dC, dI)) (ci := 4) (v := .int sta) (C := zR_N) (T := zT_N) (N := 26) hx hb hts (fun w h => kz_c (zi_N w h)) hown hK hdy.1 0 rfl rfl 1 (by decide) (hts _ (kz_c mw_592)) (fun _ h9 => h9) rfl zd_N_key_26 ?_
          refine lv_iconst (v := (nI (3))) hx hb zd_N_key_29 (by decide) ?_
          refine lv_icmp_eq (tgt := 37) hx hb zd_N_key_30 (by decide) (fun hc30 => ?_) (fun hc30 => ?_)
          · refine lv_iconst (v := (nI (0))) hx hb zd_N_key_37 (by decide) ?_
            refine kz_calli (wk := []) (va_runV (As := [.int (nI (1)), .int (nI (0))]) (rest := []) ⟨hx, hb, hml, hown, hts⟩ (c_M_refused1 l dC dI cI cAA cB cL o mt mn ml mc mh mk mp mm mb mw mr mx me mP mQ ms mo mW mD mB mR mS (th) (sta) (hs) sz_ _) (cwV 2 hts (kz_g (kz_mc mw_674 (kz_mc mw_676 (kz_mc mw_20 (kz_mc mw_43 kz_mn)))) mw_677) rfl rfl rfl (by decide +kernel) ⟨Nat.le_of_ble_eq_true rfl, Nat.le_of_ble_eq_true rfl⟩) (kz_preV hdy hA hK hro hZ hN [0] (by decide) rfl [] rfl (by decide) [0, 1, 2, 3] rfl (fun _ h => by cases h) (fun _ h => by cases h) rfl (ci := 4) (q0 := 0) rfl rfl rfl) rfl rfl hl.1 rfl (lv_room (Nat.le_of_ble_eq_true rfl)) zd_N_key_38 ⟨Nat.le_of_ble_eq_true rfl, Nat.le_of_ble_eq_true rfl⟩) hdy hA [0] [] rfl rfl (by decide) (by decide) (fun r u H locs hw hdy => ?_)
            obtain ⟨x6, rfl⟩ : ∃ z, z = u := ⟨_, rfl⟩
            try dsimp only at hw
            obtain ⟨rfl, q7, -⟩ := hw
            have hdy : kz_dy (dC, dI) vwCl A s.heap H locs [(o, .inr (4, [.int x6, .int sta, .ref mt, .ref mn, .ref ml, .ref mc, .ref mh, .ref mk, .ref mp, .ref mm, .ref mb, .ref mw, .ref mr, .ref mx, .ref me, .ref mP, .ref mQ, .ref ms, .int hs, .int (nI (sz_)), .ref mo, .ref mW, .ref mD, .ref mB, .ref mR, .ref mS]))] := hdy.sub [0] (by decide) rfl
            refine lv_if_eq (tgt := 48) hx hb zd_N_key_41 (by decide) (fun hc41 => ?_) (fun hc41 => ?_)
            · exact absurd hc41 (by decide)
            · refine lv_iconst (v := (nI (0))) hx hb zd_N_key_44 (by decide) ?_
              refine lv_goto (tgt := 59) hx hb zd_N_key_45 (by decide) ?_
              exact kz_iret F (x6) hdy (⟨by first | assumption | rfl | omega, by first | rfl | (exfalso; omega), trivial⟩) zd_N_key_59
          · exact absurd hst_ hc30

set_option maxHeartbeats 4000000 in
set_option maxRecDepth 100000 in
/-- KeyMeetingModel.key(II)I -/
theorem c_F_key3 (l : Launch) (dC : Nat → ClassId) (dI : Nat → Nat → Nat) (cI cAA cB cL : ClassId) (o mt mn ml mc mh mk mp mm mb mw mr mx me mP mQ ms mo mW mD mB mR mS : Nat) (th : Int32) (sta : Int32) (hs : Int32) (sz_ : Nat) (gmk : Nat → Int32) (w_ : Nat) (i_ : Nat) (sz : Nat) (hw_ : w_ < 2) (hi_ : i_ < 16) (hst_ : ¬ sta = nI 3) : Met l zy_N_key zw_N_key { frames := 1, cells := 0, slots := 0, locals := 22 } (kz_Pc (dC, dI) vwCl [(cI, .int), (cAA, .array .int), (cB, .byte), (cL, .long)] [] [] [.ref o, .int (nI (w_)), .int (nI (i_))] [(o, .inr (4, [.int th, .int sta, .ref mt, .ref mn, .ref ml, .ref mc, .ref mh, .ref mk, .ref mp, .ref mm, .ref mb, .ref mw, .ref mr, .ref mx, .ref me, .ref mP, .ref mQ, .ref ms, .int hs, .int (nI (sz_)), .ref mo, .ref mW, .ref mD, .ref mB, .ref mR, .ref mS]))] [(mk, .inl (cI, 32, .inl gmk))] sz) (va_Qi (fun (r : Int32) (u : Int32) => (u = nI 2) ∧ True) (kz_B (dC, dI) vwCl (va_A [(o, .inr (4, [.int th, .int sta, .ref mt, .ref mn, .ref ml, .ref mc, .ref mh, .ref mk, .ref mp, .ref mm, .ref mb, .ref mw, .ref mr, .ref mx, .ref me, .ref mP, .ref mQ, .ref ms, .int hs, .int (nI (sz_)), .ref mo, .ref mW, .ref mD, .ref mB, .ref mR, .ref mS]))] sz) (fun u : Int32 => [(o, .inr (4, [.int u, .int sta, .ref mt, .ref mn, .ref ml, .ref mc, .ref mh, .ref mk, .ref mp, .ref mm, .ref mb, .ref mw, .ref mr, .ref mx, .ref me, .ref mP, .ref mQ, .ref ms, .int hs, .int (nI (sz_)), .ref mo, .ref mW, .ref mD, .ref mB, .ref mR, .ref mS]))])) (va_A [(o, .inr (4, [.int th, .int sta, .ref mt, .ref mn, .ref ml, .ref mc, .ref mh, .ref mk, .ref mp, .ref mm, .ref mb, .ref mw, .ref mr, .ref mx, .ref me, .ref mP, .ref mQ, .ref ms, .int hs, .int (nI (sz_)), .ref mo, .ref mW, .ref mD, .ref mB, .ref mR, .ref mS]))] sz)) 0 0 (va_A [(o, .inr (4, [.int th, .int sta, .ref mt, .ref mn, .ref ml, .ref mc, .ref mh, .ref mk, .ref mp, .ref mm, .ref mb, .ref mw, .ref mr, .ref mx, .ref me, .ref mP, .ref mQ, .ref ms, .int hs, .int (nI (sz_)), .ref mo, .ref mW, .ref mD, .ref mB, .ref mR, .ref mS]))] sz) := by
  refine kz_met (y := zy_N_key) (ws := zw_N_key) (av := [.ref o, .int (nI (w_)), .int (nI (i_))]) (sz := sz) (Qc := fun A => va_Qi (fun (r : Int32) (u : Int32) => (u = nI 2) ∧ True) (kz_B (dC, dI) vwCl A (fun u : Int32 => [(o, .inr (4, [.int u, .int sta, .ref mt, .ref mn, .ref ml, .ref mc, .ref mh, .ref mk, .ref mp, .ref mm, .ref mb, .ref mw, .ref mr, .ref mx, .ref me, .ref mP, .ref mQ, .ref ms, .int hs, .int (nI (sz_)), .ref mo, .ref mW, .ref mD, .ref mB, .ref mR, .ref mS]))])) A) (cc := zc_N_key) (maxL := 3) (ret := some .int) (by decide) rfl (Nat.le_of_ble_eq_true rfl) ?_
  intro p e s m below meth c A ls F hA hdy hK hro hZ hN hl
  obtain ⟨hx, hb, hml, hr, hown, hlocks, hts, hnm⟩ := id F
  have hl : lv_has ls 3 [(0, .ref o), (1, .int (nI (w_))), (2, .int (nI (i_)))] := hl
  refine lv_aload_n hx hb zd_N_key_0 rfl (lv_at hl 0 rfl) ?_
  refine lv_iload_n hx hb zd_N_key_1 rfl (lv_at hl 1 rfl) ?_
  refine lv_if_lt (tgt := 20) hx hb zd_N_key_2 (by decide) (fun hc2 => ?_) (fun hc2 => ?_)
  · exact absurd hc2 (nI_pos (by omega))
  · refine lv_iload_n hx hb zd_N_key_5 rfl (lv_at hl 1 rfl) ?_
    refine lv_iconst (v := (nI (1))) hx hb zd_N_key_6 (by decide) ?_
    refine lv_icmp_gt (tgt := 20) hx hb zd_N_key_7 (by decide) (fun hc7 => ?_) (fun hc7 => ?_)
    · have hc7 : 1 < w_ := (nI_ltI (by omega) (by omega)).mp hc7
      refine lv_iconst (v := (nI (1))) hx hb zd_N_key_20 (by decide) ?_
      refine lv_goto (tgt := 25) hx hb zd_N_key_21 (by decide) ?_
      refine lv_aload_n hx hb zd_N_key_25 rfl (lv_at hl 0 rfl) ?_
      refine va_get (D := (dC, dI)) (ci := 4) (v := .int sta) (C := zR_N) (T := zT_N) (N := 26) hx hb hts (fun w h => kz_c (zi_N w h)) hown hK hdy.1 0 rfl rfl 1 (by decide) (hts _ (kz_c mw_592)) (fun _ h9 => h9) rfl zd_N_key_26 ?_
      refine lv_iconst (v := (nI (3))) hx hb zd_N_key_29 (by decide) ?_
      refine lv_icmp_eq (tgt := 37) hx hb zd_N_key_30 (by decide) (fun hc30 => ?_) (fun hc30 => ?_)
      · exact absurd hc30 hst_
      · refine lv_iconst (v := (nI (1))) hx hb zd_N_key_33 (by decide) ?_
        refine lv_goto (tgt := 38) hx hb zd_N_key_34 (by decide) ?_
        refine kz_calli (wk := []) (va_runV (As := [.int (nI (1)), .int (nI (1))]) (rest := []) ⟨hx, hb, hml, hown, hts⟩ (c_M_refused3 l dC dI cI cAA cB cL o mt mn ml mc mh mk mp mm mb mw mr mx me mP mQ ms mo mW mD mB mR mS (th) (sta) (hs) sz_ _) (cwV 2 hts (kz_g (kz_mc mw_674 (kz_mc mw_676 (kz_mc mw_20 (kz_mc mw_43 kz_mn)))) mw_677) rfl rfl rfl (by decide +kernel) ⟨Nat.le_of_ble_eq_true rfl, Nat.le_of_ble_eq_true rfl⟩) (kz_preV hdy hA hK hro hZ hN [0] (by decide) rfl [] rfl (by decide) [0, 1, 2, 3] rfl (fun _ h => by cases h) (fun _ h => by cases h) rfl (ci := 4) (q0 := 0) rfl rfl rfl) rfl rfl hl.1 rfl (lv_room (Nat.le_of_ble_eq_true rfl)) zd_N_key_38 ⟨Nat.le_of_ble_eq_true rfl, Nat.le_of_ble_eq_true rfl⟩) hdy hA [0] [] rfl rfl (by decide) (by decide) (fun r u H locs hw hdy => ?_)
        obtain ⟨x1, rfl⟩ : ∃ z, z = u := ⟨_, rfl⟩
        try dsimp only at hw
        obtain ⟨rfl, q2, -⟩ := hw
        have hdy : kz_dy (dC, dI) vwCl A s.heap H locs [(o, .inr (4, [.int x1, .int sta, .ref mt, .ref mn, .ref ml, .ref mc, .ref mh, .ref mk, .ref mp, .ref mm, .ref mb, .ref mw, .ref mr, .ref mx, .ref me, .ref mP, .ref mQ, .ref ms, .int hs, .int (nI (sz_)), .ref mo, .ref mW, .ref mD, .ref mB, .ref mR, .ref mS]))] := hdy.sub [0] (by decide) rfl
        refine lv_if_eq (tgt := 48) hx hb zd_N_key_41 (by decide) (fun hc41 => ?_) (fun hc41 => ?_)
        · exact absurd hc41 (by decide)
        · refine lv_iconst (v := (nI (0))) hx hb zd_N_key_44 (by decide) ?_
          refine lv_goto (tgt := 59) hx hb zd_N_key_45 (by decide) ?_
          exact kz_iret F (x1) hdy (⟨by first | assumption | rfl | omega, trivial⟩) zd_N_key_59
    · have hc7 : ¬ 1 < w_ := fun h9 => hc7 ((nI_ltI (by omega) (by omega)).mpr h9)
      refine lv_iload_n hx hb zd_N_key_10 rfl (lv_at hl 2 rfl) ?_
      refine lv_if_lt (tgt := 20) hx hb zd_N_key_11 (by decide) (fun hc11 => ?_) (fun hc11 => ?_)
      · exact absurd hc11 (nI_pos (by omega))
      · refine lv_iload_n hx hb zd_N_key_14 rfl (lv_at hl 2 rfl) ?_
        refine lv_bipush (v := (nI (15))) hx hb zd_N_key_15 (by decide) ?_
        refine lv_icmp_le (tgt := 24) hx hb zd_N_key_17 (by decide) (fun hc17 => ?_) (fun hc17 => ?_)
        · have hc17 : i_ ≤ 15 := (nI_leI (by omega) (by omega)).mp hc17
          refine lv_iconst (v := (nI (0))) hx hb zd_N_key_24 (by decide) ?_
          refine lv_aload_n hx hb zd_N_key_25 rfl (lv_at hl 0 rfl) ?_
          refine va_get (D := (dC, dI)) (ci := 4) (v := .int sta) (C := zR_N) (T := zT_N) (N := 26) hx hb hts (fun w h => kz_c (zi_N w h)) hown hK hdy.1 0 rfl rfl 1 (by decide) (hts _ (kz_c mw_592)) (fun _ h9 => h9) rfl zd_N_key_26 ?_
          refine lv_iconst (v := (nI (3))) hx hb zd_N_key_29 (by decide) ?_
          refine lv_icmp_eq (tgt := 37) hx hb zd_N_key_30 (by decide) (fun hc30 => ?_) (fun hc30 => ?_)
          · exact absurd hc30 hst_
          · refine lv_iconst (v := (nI (1))) hx hb zd_N_key_33 (by decide) ?_
            refine lv_goto (tgt := 38) hx hb zd_N_key_34 (by decide) ?_
            refine kz_calli (wk := []) (va_runV (As := [.int (nI (0)), .int (nI (1))]) (rest := []) ⟨hx, hb, hml, hown, hts⟩ (c_M_refused2 l dC dI cI cAA cB cL o mt mn ml mc mh mk mp mm mb mw mr mx me mP mQ ms mo mW mD mB mR mS (th) (sta) (hs) sz_ _) (cwV 2 hts (kz_g (kz_mc mw_674 (kz_mc mw_676 (kz_mc mw_20 (kz_mc mw_43 kz_mn)))) mw_677) rfl rfl rfl (by decide +kernel) ⟨Nat.le_of_ble_eq_true rfl, Nat.le_of_ble_eq_true rfl⟩) (kz_preV hdy hA hK hro hZ hN [0] (by decide) rfl [] rfl (by decide) [0, 1, 2, 3] rfl (fun _ h => by cases h) (fun _ h => by cases h) rfl (ci := 4) (q0 := 0) rfl rfl rfl) rfl rfl hl.1 rfl (lv_room (Nat.le_of_ble_eq_true rfl)) zd_N_key_38 ⟨Nat.le_of_ble_eq_true rfl, Nat.le_of_ble_eq_true rfl⟩) hdy hA [0] [] rfl rfl (by decide) (by decide) (fun r u H locs hw hdy => ?_)
            obtain ⟨x3, rfl⟩ : ∃ z, z = u := ⟨_, rfl⟩
            try dsimp only at hw
            obtain ⟨rfl, q4, -⟩ := hw
            have hdy : kz_dy (dC, dI) vwCl A s.heap H locs [(o, .inr (4, [.int x3, .int sta, .ref mt, .ref mn, .ref ml, .ref mc, .ref mh, .ref mk, .ref mp, .ref mm, .ref mb, .ref mw, .ref mr, .ref mx, .ref me, .ref mP, .ref mQ, .ref ms, .int hs, .int (nI (sz_)), .ref mo, .ref mW, .ref mD, .ref mB, .ref mR, .ref mS]))] := hdy.sub [0] (by decide) rfl
            refine lv_if_eq (tgt := 48) hx hb zd_N_key_41 (by decide) (fun hc41 => ?_) (fun hc41 => ?_)
            · exact absurd hc41 (by decide)
            · refine lv_iconst (v := (nI (0))) hx hb zd_N_key_44 (by decide) ?_
              refine lv_goto (tgt := 59) hx hb zd_N_key_45 (by decide) ?_
              exact kz_iret F (x3) hdy (⟨by first | assumption | rfl | omega, trivial⟩) zd_N_key_59
        · have hc17 : ¬ i_ ≤ 15 := fun h9 => hc17 ((nI_leI (by omega) (by omega)).mpr h9)
          refine lv_iconst (v := (nI (1))) hx hb zd_N_key_20 (by decide) ?_
          refine lv_goto (tgt := 25) hx hb zd_N_key_21 (by decide) ?_
          refine lv_aload_n hx hb zd_N_key_25 rfl (lv_at hl 0 rfl) ?_
          refine va_get (D := (dC, dI)) (ci := 4) (v := .int sta) (C := zR_N) (T := zT_N) (N := 26) hx hb hts (fun w h => kz_c (zi_N w h)) hown hK hdy.1 0 rfl rfl 1 (by decide) (hts _ (kz_c mw_592)) (fun _ h9 => h9) rfl zd_N_key_26 ?_
          refine lv_iconst (v := (nI (3))) hx hb zd_N_key_29 (by decide) ?_
          refine lv_icmp_eq (tgt := 37) hx hb zd_N_key_30 (by decide) (fun hc30 => ?_) (fun hc30 => ?_)
          · exact absurd hc30 hst_
          · refine lv_iconst (v := (nI (1))) hx hb zd_N_key_33 (by decide) ?_
            refine lv_goto (tgt := 38) hx hb zd_N_key_34 (by decide) ?_
            refine kz_calli (wk := []) (va_runV (As := [.int (nI (1)), .int (nI (1))]) (rest := []) ⟨hx, hb, hml, hown, hts⟩ (c_M_refused3 l dC dI cI cAA cB cL o mt mn ml mc mh mk mp mm mb mw mr mx me mP mQ ms mo mW mD mB mR mS (th) (sta) (hs) sz_ _) (cwV 2 hts (kz_g (kz_mc mw_674 (kz_mc mw_676 (kz_mc mw_20 (kz_mc mw_43 kz_mn)))) mw_677) rfl rfl rfl (by decide +kernel) ⟨Nat.le_of_ble_eq_true rfl, Nat.le_of_ble_eq_true rfl⟩) (kz_preV hdy hA hK hro hZ hN [0] (by decide) rfl [] rfl (by decide) [0, 1, 2, 3] rfl (fun _ h => by cases h) (fun _ h => by cases h) rfl (ci := 4) (q0 := 0) rfl rfl rfl) rfl rfl hl.1 rfl (lv_room (Nat.le_of_ble_eq_true rfl)) zd_N_key_38 ⟨Nat.le_of_ble_eq_true rfl, Nat.le_of_ble_eq_true rfl⟩) hdy hA [0] [] rfl rfl (by decide) (by decide) (fun r u H locs hw hdy => ?_)
            obtain ⟨x5, rfl⟩ : ∃ z, z = u := ⟨_, rfl⟩
            try dsimp only at hw
            obtain ⟨rfl, q6, -⟩ := hw
            have hdy : kz_dy (dC, dI) vwCl A s.heap H locs [(o, .inr (4, [.int x5, .int sta, .ref mt, .ref mn, .ref ml, .ref mc, .ref mh, .ref mk, .ref mp, .ref mm, .ref mb, .ref mw, .ref mr, .ref mx, .ref me, .ref mP, .ref mQ, .ref ms, .int hs, .int (nI (sz_)), .ref mo, .ref mW, .ref mD, .ref mB, .ref mR, .ref mS]))] := hdy.sub [0] (by decide) rfl
            refine lv_if_eq (tgt := 48) hx hb zd_N_key_41 (by decide) (fun hc41 => ?_) (fun hc41 => ?_)
            · exact absurd hc41 (by decide)
            · refine lv_iconst (v := (nI (0))) hx hb zd_N_key_44 (by decide) ?_
              refine lv_goto (tgt := 59) hx hb zd_N_key_45 (by decide) ?_
              exact kz_iret F (x5) hdy (⟨by first | assumption | rfl | omega, trivial⟩) zd_N_key_59

set_option maxHeartbeats 4000000 in
set_option maxRecDepth 100000 in
/-- KeyMeetingModel.key(II)I -/
theorem c_F_key1 (l : Launch) (dC : Nat → ClassId) (dI : Nat → Nat → Nat) (cI cAA cB cL : ClassId) (o mt mn ml mc mh mk mp mm mb mw mr mx me mP mQ ms mo mW mD mB mR mS : Nat) (th : Int32) (sta : Int32) (hs : Int32) (sz_ : Nat) (gmk : Nat → Int32) (w_ : Int32) (i_ : Int32) (sz : Nat) (hbad : w_ < 0 ∨ nI 1 < w_ ∨ i_ < 0 ∨ nI 15 < i_) : Met l zy_N_key zw_N_key { frames := 1, cells := 0, slots := 0, locals := 22 } (kz_Pc (dC, dI) vwCl [(cI, .int), (cAA, .array .int), (cB, .byte), (cL, .long)] [] [] [.ref o, .int w_, .int i_] [(o, .inr (4, [.int th, .int sta, .ref mt, .ref mn, .ref ml, .ref mc, .ref mh, .ref mk, .ref mp, .ref mm, .ref mb, .ref mw, .ref mr, .ref mx, .ref me, .ref mP, .ref mQ, .ref ms, .int hs, .int (nI (sz_)), .ref mo, .ref mW, .ref mD, .ref mB, .ref mR, .ref mS]))] [(mk, .inl (cI, 32, .inl gmk))] sz) (va_Qi (fun (r : Int32) (u : Int32) => (u = nI 1) ∧ True) (kz_B (dC, dI) vwCl (va_A [(o, .inr (4, [.int th, .int sta, .ref mt, .ref mn, .ref ml, .ref mc, .ref mh, .ref mk, .ref mp, .ref mm, .ref mb, .ref mw, .ref mr, .ref mx, .ref me, .ref mP, .ref mQ, .ref ms, .int hs, .int (nI (sz_)), .ref mo, .ref mW, .ref mD, .ref mB, .ref mR, .ref mS]))] sz) (fun u : Int32 => [(o, .inr (4, [.int u, .int sta, .ref mt, .ref mn, .ref ml, .ref mc, .ref mh, .ref mk, .ref mp, .ref mm, .ref mb, .ref mw, .ref mr, .ref mx, .ref me, .ref mP, .ref mQ, .ref ms, .int hs, .int (nI (sz_)), .ref mo, .ref mW, .ref mD, .ref mB, .ref mR, .ref mS]))])) (va_A [(o, .inr (4, [.int th, .int sta, .ref mt, .ref mn, .ref ml, .ref mc, .ref mh, .ref mk, .ref mp, .ref mm, .ref mb, .ref mw, .ref mr, .ref mx, .ref me, .ref mP, .ref mQ, .ref ms, .int hs, .int (nI (sz_)), .ref mo, .ref mW, .ref mD, .ref mB, .ref mR, .ref mS]))] sz)) 0 0 (va_A [(o, .inr (4, [.int th, .int sta, .ref mt, .ref mn, .ref ml, .ref mc, .ref mh, .ref mk, .ref mp, .ref mm, .ref mb, .ref mw, .ref mr, .ref mx, .ref me, .ref mP, .ref mQ, .ref ms, .int hs, .int (nI (sz_)), .ref mo, .ref mW, .ref mD, .ref mB, .ref mR, .ref mS]))] sz) := by
  refine kz_met (y := zy_N_key) (ws := zw_N_key) (av := [.ref o, .int w_, .int i_]) (sz := sz) (Qc := fun A => va_Qi (fun (r : Int32) (u : Int32) => (u = nI 1) ∧ True) (kz_B (dC, dI) vwCl A (fun u : Int32 => [(o, .inr (4, [.int u, .int sta, .ref mt, .ref mn, .ref ml, .ref mc, .ref mh, .ref mk, .ref mp, .ref mm, .ref mb, .ref mw, .ref mr, .ref mx, .ref me, .ref mP, .ref mQ, .ref ms, .int hs, .int (nI (sz_)), .ref mo, .ref mW, .ref mD, .ref mB, .ref mR, .ref mS]))])) A) (cc := zc_N_key) (maxL := 3) (ret := some .int) (by decide) rfl (Nat.le_of_ble_eq_true rfl) ?_
  intro p e s m below meth c A ls F hA hdy hK hro hZ hN hl
  obtain ⟨hx, hb, hml, hr, hown, hlocks, hts, hnm⟩ := id F
  have hl : lv_has ls 3 [(0, .ref o), (1, .int w_), (2, .int i_)] := hl
  refine lv_aload_n hx hb zd_N_key_0 rfl (lv_at hl 0 rfl) ?_
  refine lv_iload_n hx hb zd_N_key_1 rfl (lv_at hl 1 rfl) ?_
  refine lv_if_lt (tgt := 20) hx hb zd_N_key_2 (by decide) (fun hc2 => ?_) (fun hc2 => ?_)
  · refine lv_iconst (v := (nI (1))) hx hb zd_N_key_20 (by decide) ?_
    refine lv_goto (tgt := 25) hx hb zd_N_key_21 (by decide) ?_
    refine lv_aload_n hx hb zd_N_key_25 rfl (lv_at hl 0 rfl) ?_
    refine va_get (D := (dC, dI)) (ci := 4) (v := .int sta) (C := zR_N) (T := zT_N) (N := 26) hx hb hts (fun w h => kz_c (zi_N w h)) hown hK hdy.1 0 rfl rfl 1 (by decide) (hts _ (kz_c mw_592)) (fun _ h9 => h9) rfl zd_N_key_26 ?_
    refine lv_iconst (v := (nI (3))) hx hb zd_N_key_29 (by decide) ?_
    refine lv_icmp_eq (tgt := 37) hx hb zd_N_key_30 (by decide) (fun hc30 => ?_) (fun hc30 => ?_)
    · refine lv_iconst (v := (nI (0))) hx hb zd_N_key_37 (by decide) ?_
      refine kz_calli (wk := []) (va_runV (As := [.int (nI (1)), .int (nI (0))]) (rest := []) ⟨hx, hb, hml, hown, hts⟩ (c_M_refused1 l dC dI cI cAA cB cL o mt mn ml mc mh mk mp mm mb mw mr mx me mP mQ ms mo mW mD mB mR mS (th) (sta) (hs) sz_ _) (cwV 2 hts (kz_g (kz_mc mw_674 (kz_mc mw_676 (kz_mc mw_20 (kz_mc mw_43 kz_mn)))) mw_677) rfl rfl rfl (by decide +kernel) ⟨Nat.le_of_ble_eq_true rfl, Nat.le_of_ble_eq_true rfl⟩) (kz_preV hdy hA hK hro hZ hN [0] (by decide) rfl [] rfl (by decide) [0, 1, 2, 3] rfl (fun _ h => by cases h) (fun _ h => by cases h) rfl (ci := 4) (q0 := 0) rfl rfl rfl) rfl rfl hl.1 rfl (lv_room (Nat.le_of_ble_eq_true rfl)) zd_N_key_38 ⟨Nat.le_of_ble_eq_true rfl, Nat.le_of_ble_eq_true rfl⟩) hdy hA [0] [] rfl rfl (by decide) (by decide) (fun r u H locs hw hdy => ?_)
      obtain ⟨x1, rfl⟩ : ∃ z, z = u := ⟨_, rfl⟩
      try dsimp only at hw
      obtain ⟨rfl, q2, -⟩ := hw
      have hdy : kz_dy (dC, dI) vwCl A s.heap H locs [(o, .inr (4, [.int x1, .int sta, .ref mt, .ref mn, .ref ml, .ref mc, .ref mh, .ref mk, .ref mp, .ref mm, .ref mb, .ref mw, .ref mr, .ref mx, .ref me, .ref mP, .ref mQ, .ref ms, .int hs, .int (nI (sz_)), .ref mo, .ref mW, .ref mD, .ref mB, .ref mR, .ref mS]))] := hdy.sub [0] (by decide) rfl
      refine lv_if_eq (tgt := 48) hx hb zd_N_key_41 (by decide) (fun hc41 => ?_) (fun hc41 => ?_)
      · exact absurd hc41 (by decide)
      · refine lv_iconst (v := (nI (0))) hx hb zd_N_key_44 (by decide) ?_
        refine lv_goto (tgt := 59) hx hb zd_N_key_45 (by decide) ?_
        exact kz_iret F (x1) hdy (⟨by first | assumption | rfl | omega, trivial⟩) zd_N_key_59
    · refine lv_iconst (v := (nI (1))) hx hb zd_N_key_33 (by decide) ?_
      refine lv_goto (tgt := 38) hx hb zd_N_key_34 (by decide) ?_
      refine kz_calli (wk := []) (va_runV (As := [.int (nI (1)), .int (nI (1))]) (rest := []) ⟨hx, hb, hml, hown, hts⟩ (c_M_refused3 l dC dI cI cAA cB cL o mt mn ml mc mh mk mp mm mb mw mr mx me mP mQ ms mo mW mD mB mR mS (th) (sta) (hs) sz_ _) (cwV 2 hts (kz_g (kz_mc mw_674 (kz_mc mw_676 (kz_mc mw_20 (kz_mc mw_43 kz_mn)))) mw_677) rfl rfl rfl (by decide +kernel) ⟨Nat.le_of_ble_eq_true rfl, Nat.le_of_ble_eq_true rfl⟩) (kz_preV hdy hA hK hro hZ hN [0] (by decide) rfl [] rfl (by decide) [0, 1, 2, 3] rfl (fun _ h => by cases h) (fun _ h => by cases h) rfl (ci := 4) (q0 := 0) rfl rfl rfl) rfl rfl hl.1 rfl (lv_room (Nat.le_of_ble_eq_true rfl)) zd_N_key_38 ⟨Nat.le_of_ble_eq_true rfl, Nat.le_of_ble_eq_true rfl⟩) hdy hA [0] [] rfl rfl (by decide) (by decide) (fun r u H locs hw hdy => ?_)
      obtain ⟨x3, rfl⟩ : ∃ z, z = u := ⟨_, rfl⟩
      try dsimp only at hw
      obtain ⟨rfl, q4, -⟩ := hw
      have hdy : kz_dy (dC, dI) vwCl A s.heap H locs [(o, .inr (4, [.int x3, .int sta, .ref mt, .ref mn, .ref ml, .ref mc, .ref mh, .ref mk, .ref mp, .ref mm, .ref mb, .ref mw, .ref mr, .ref mx, .ref me, .ref mP, .ref mQ, .ref ms, .int hs, .int (nI (sz_)), .ref mo, .ref mW, .ref mD, .ref mB, .ref mR, .ref mS]))] := hdy.sub [0] (by decide) rfl
      refine lv_if_eq (tgt := 48) hx hb zd_N_key_41 (by decide) (fun hc41 => ?_) (fun hc41 => ?_)
      · exact absurd hc41 (by decide)
      · refine lv_iconst (v := (nI (0))) hx hb zd_N_key_44 (by decide) ?_
        refine lv_goto (tgt := 59) hx hb zd_N_key_45 (by decide) ?_
        exact kz_iret F (x3) hdy (⟨by first | assumption | rfl | omega, trivial⟩) zd_N_key_59
  · refine lv_iload_n hx hb zd_N_key_5 rfl (lv_at hl 1 rfl) ?_
    refine lv_iconst (v := (nI (1))) hx hb zd_N_key_6 (by decide) ?_
    refine lv_icmp_gt (tgt := 20) hx hb zd_N_key_7 (by decide) (fun hc7 => ?_) (fun hc7 => ?_)
    · refine lv_iconst (v := (nI (1))) hx hb zd_N_key_20 (by decide) ?_
      refine lv_goto (tgt := 25) hx hb zd_N_key_21 (by decide) ?_
      refine lv_aload_n hx hb zd_N_key_25 rfl (lv_at hl 0 rfl) ?_
      refine va_get (D := (dC, dI)) (ci := 4) (v := .int sta) (C := zR_N) (T := zT_N) (N := 26) hx hb hts (fun w h => kz_c (zi_N w h)) hown hK hdy.1 0 rfl rfl 1 (by decide) (hts _ (kz_c mw_592)) (fun _ h9 => h9) rfl zd_N_key_26 ?_
      refine lv_iconst (v := (nI (3))) hx hb zd_N_key_29 (by decide) ?_
      refine lv_icmp_eq (tgt := 37) hx hb zd_N_key_30 (by decide) (fun hc30 => ?_) (fun hc30 => ?_)
      · refine lv_iconst (v := (nI (0))) hx hb zd_N_key_37 (by decide) ?_
        refine kz_calli (wk := []) (va_runV (As := [.int (nI (1)), .int (nI (0))]) (rest := []) ⟨hx, hb, hml, hown, hts⟩ (c_M_refused1 l dC dI cI cAA cB cL o mt mn ml mc mh mk mp mm mb mw mr mx me mP mQ ms mo mW mD mB mR mS (th) (sta) (hs) sz_ _) (cwV 2 hts (kz_g (kz_mc mw_674 (kz_mc mw_676 (kz_mc mw_20 (kz_mc mw_43 kz_mn)))) mw_677) rfl rfl rfl (by decide +kernel) ⟨Nat.le_of_ble_eq_true rfl, Nat.le_of_ble_eq_true rfl⟩) (kz_preV hdy hA hK hro hZ hN [0] (by decide) rfl [] rfl (by decide) [0, 1, 2, 3] rfl (fun _ h => by cases h) (fun _ h => by cases h) rfl (ci := 4) (q0 := 0) rfl rfl rfl) rfl rfl hl.1 rfl (lv_room (Nat.le_of_ble_eq_true rfl)) zd_N_key_38 ⟨Nat.le_of_ble_eq_true rfl, Nat.le_of_ble_eq_true rfl⟩) hdy hA [0] [] rfl rfl (by decide) (by decide) (fun r u H locs hw hdy => ?_)
        obtain ⟨x5, rfl⟩ : ∃ z, z = u := ⟨_, rfl⟩
        try dsimp only at hw
        obtain ⟨rfl, q6, -⟩ := hw
        have hdy : kz_dy (dC, dI) vwCl A s.heap H locs [(o, .inr (4, [.int x5, .int sta, .ref mt, .ref mn, .ref ml, .ref mc, .ref mh, .ref mk, .ref mp, .ref mm, .ref mb, .ref mw, .ref mr, .ref mx, .ref me, .ref mP, .ref mQ, .ref ms, .int hs, .int (nI (sz_)), .ref mo, .ref mW, .ref mD, .ref mB, .ref mR, .ref mS]))] := hdy.sub [0] (by decide) rfl
        refine lv_if_eq (tgt := 48) hx hb zd_N_key_41 (by decide) (fun hc41 => ?_) (fun hc41 => ?_)
        · exact absurd hc41 (by decide)
        · refine lv_iconst (v := (nI (0))) hx hb zd_N_key_44 (by decide) ?_
          refine lv_goto (tgt := 59) hx hb zd_N_key_45 (by decide) ?_
          exact kz_iret F (x5) hdy (⟨by first | assumption | rfl | omega, trivial⟩) zd_N_key_59
      · refine lv_iconst (v := (nI (1))) hx hb zd_N_key_33 (by decide) ?_
        refine lv_goto (tgt := 38) hx hb zd_N_key_34 (by decide) ?_
        refine kz_calli (wk := []) (va_runV (As := [.int (nI (1)), .int (nI (1))]) (rest := []) ⟨hx, hb, hml, hown, hts⟩ (c_M_refused3 l dC dI cI cAA cB cL o mt mn ml mc mh mk mp mm mb mw mr mx me mP mQ ms mo mW mD mB mR mS (th) (sta) (hs) sz_ _) (cwV 2 hts (kz_g (kz_mc mw_674 (kz_mc mw_676 (kz_mc mw_20 (kz_mc mw_43 kz_mn)))) mw_677) rfl rfl rfl (by decide +kernel) ⟨Nat.le_of_ble_eq_true rfl, Nat.le_of_ble_eq_true rfl⟩) (kz_preV hdy hA hK hro hZ hN [0] (by decide) rfl [] rfl (by decide) [0, 1, 2, 3] rfl (fun _ h => by cases h) (fun _ h => by cases h) rfl (ci := 4) (q0 := 0) rfl rfl rfl) rfl rfl hl.1 rfl (lv_room (Nat.le_of_ble_eq_true rfl)) zd_N_key_38 ⟨Nat.le_of_ble_eq_true rfl, Nat.le_of_ble_eq_true rfl⟩) hdy hA [0] [] rfl rfl (by decide) (by decide) (fun r u H locs hw hdy => ?_)
        obtain ⟨x7, rfl⟩ : ∃ z, z = u := ⟨_, rfl⟩
        try dsimp only at hw
        obtain ⟨rfl, q8, -⟩ := hw
        have hdy : kz_dy (dC, dI) vwCl A s.heap H locs [(o, .inr (4, [.int x7, .int sta, .ref mt, .ref mn, .ref ml, .ref mc, .ref mh, .ref mk, .ref mp, .ref mm, .ref mb, .ref mw, .ref mr, .ref mx, .ref me, .ref mP, .ref mQ, .ref ms, .int hs, .int (nI (sz_)), .ref mo, .ref mW, .ref mD, .ref mB, .ref mR, .ref mS]))] := hdy.sub [0] (by decide) rfl
        refine lv_if_eq (tgt := 48) hx hb zd_N_key_41 (by decide) (fun hc41 => ?_) (fun hc41 => ?_)
        · exact absurd hc41 (by decide)
        · refine lv_iconst (v := (nI (0))) hx hb zd_N_key_44 (by decide) ?_
          refine lv_goto (tgt := 59) hx hb zd_N_key_45 (by decide) ?_
          exact kz_iret F (x7) hdy (⟨by first | assumption | rfl | omega, trivial⟩) zd_N_key_59
    · refine lv_iload_n hx hb zd_N_key_10 rfl (lv_at hl 2 rfl) ?_
      refine lv_if_lt (tgt := 20) hx hb zd_N_key_11 (by decide) (fun hc11 => ?_) (fun hc11 => ?_)
      · refine lv_iconst (v := (nI (1))) hx hb zd_N_key_20 (by decide) ?_
        refine lv_goto (tgt := 25) hx hb zd_N_key_21 (by decide) ?_
        refine lv_aload_n hx hb zd_N_key_25 rfl (lv_at hl 0 rfl) ?_
        refine va_get (D := (dC, dI)) (ci := 4) (v := .int sta) (C := zR_N) (T := zT_N) (N := 26) hx hb hts (fun w h => kz_c (zi_N w h)) hown hK hdy.1 0 rfl rfl 1 (by decide) (hts _ (kz_c mw_592)) (fun _ h9 => h9) rfl zd_N_key_26 ?_
        refine lv_iconst (v := (nI (3))) hx hb zd_N_key_29 (by decide) ?_
        refine lv_icmp_eq (tgt := 37) hx hb zd_N_key_30 (by decide) (fun hc30 => ?_) (fun hc30 => ?_)
        · refine lv_iconst (v := (nI (0))) hx hb zd_N_key_37 (by decide) ?_
          refine kz_calli (wk := []) (va_runV (As := [.int (nI (1)), .int (nI (0))]) (rest := []) ⟨hx, hb, hml, hown, hts⟩ (c_M_refused1 l dC dI cI cAA cB cL o mt mn ml mc mh mk mp mm mb mw mr mx me mP mQ ms mo mW mD mB mR mS (th) (sta) (hs) sz_ _) (cwV 2 hts (kz_g (kz_mc mw_674 (kz_mc mw_676 (kz_mc mw_20 (kz_mc mw_43 kz_mn)))) mw_677) rfl rfl rfl (by decide +kernel) ⟨Nat.le_of_ble_eq_true rfl, Nat.le_of_ble_eq_true rfl⟩) (kz_preV hdy hA hK hro hZ hN [0] (by decide) rfl [] rfl (by decide) [0, 1, 2, 3] rfl (fun _ h => by cases h) (fun _ h => by cases h) rfl (ci := 4) (q0 := 0) rfl rfl rfl) rfl rfl hl.1 rfl (lv_room (Nat.le_of_ble_eq_true rfl)) zd_N_key_38 ⟨Nat.le_of_ble_eq_true rfl, Nat.le_of_ble_eq_true rfl⟩) hdy hA [0] [] rfl rfl (by decide) (by decide) (fun r u H locs hw hdy => ?_)
          obtain ⟨x9, rfl⟩ : ∃ z, z = u := ⟨_, rfl⟩
          try dsimp only at hw
          obtain ⟨rfl, q10, -⟩ := hw
          have hdy : kz_dy (dC, dI) vwCl A s.heap H locs [(o, .inr (4, [.int x9, .int sta, .ref mt, .ref mn, .ref ml, .ref mc, .ref mh, .ref mk, .ref mp, .ref mm, .ref mb, .ref mw, .ref mr, .ref mx, .ref me, .ref mP, .ref mQ, .ref ms, .int hs, .int (nI (sz_)), .ref mo, .ref mW, .ref mD, .ref mB, .ref mR, .ref mS]))] := hdy.sub [0] (by decide) rfl
          refine lv_if_eq (tgt := 48) hx hb zd_N_key_41 (by decide) (fun hc41 => ?_) (fun hc41 => ?_)
          · exact absurd hc41 (by decide)
          · refine lv_iconst (v := (nI (0))) hx hb zd_N_key_44 (by decide) ?_
            refine lv_goto (tgt := 59) hx hb zd_N_key_45 (by decide) ?_
            exact kz_iret F (x9) hdy (⟨by first | assumption | rfl | omega, trivial⟩) zd_N_key_59
        · refine lv_iconst (v := (nI (1))) hx hb zd_N_key_33 (by decide) ?_
          refine lv_goto (tgt := 38) hx hb zd_N_key_34 (by decide) ?_
          refine kz_calli (wk := []) (va_runV (As := [.int (nI (1)), .int (nI (1))]) (rest := []) ⟨hx, hb, hml, hown, hts⟩ (c_M_refused3 l dC dI cI cAA cB cL o mt mn ml mc mh mk mp mm mb mw mr mx me mP mQ ms mo mW mD mB mR mS (th) (sta) (hs) sz_ _) (cwV 2 hts (kz_g (kz_mc mw_674 (kz_mc mw_676 (kz_mc mw_20 (kz_mc mw_43 kz_mn)))) mw_677) rfl rfl rfl (by decide +kernel) ⟨Nat.le_of_ble_eq_true rfl, Nat.le_of_ble_eq_true rfl⟩) (kz_preV hdy hA hK hro hZ hN [0] (by decide) rfl [] rfl (by decide) [0, 1, 2, 3] rfl (fun _ h => by cases h) (fun _ h => by cases h) rfl (ci := 4) (q0 := 0) rfl rfl rfl) rfl rfl hl.1 rfl (lv_room (Nat.le_of_ble_eq_true rfl)) zd_N_key_38 ⟨Nat.le_of_ble_eq_true rfl, Nat.le_of_ble_eq_true rfl⟩) hdy hA [0] [] rfl rfl (by decide) (by decide) (fun r u H locs hw hdy => ?_)
          obtain ⟨x11, rfl⟩ : ∃ z, z = u := ⟨_, rfl⟩
          try dsimp only at hw
          obtain ⟨rfl, q12, -⟩ := hw
          have hdy : kz_dy (dC, dI) vwCl A s.heap H locs [(o, .inr (4, [.int x11, .int sta, .ref mt, .ref mn, .ref ml, .ref mc, .ref mh, .ref mk, .ref mp, .ref mm, .ref mb, .ref mw, .ref mr, .ref mx, .ref me, .ref mP, .ref mQ, .ref ms, .int hs, .int (nI (sz_)), .ref mo, .ref mW, .ref mD, .ref mB, .ref mR, .ref mS]))] := hdy.sub [0] (by decide) rfl
          refine lv_if_eq (tgt := 48) hx hb zd_N_key_41 (by decide) (fun hc41 => ?_) (fun hc41 => ?_)
          · exact absurd hc41 (by decide)
          · refine lv_iconst (v := (nI (0))) hx hb zd_N_key_44 (by decide) ?_
            refine lv_goto (tgt := 59) hx hb zd_N_key_45 (by decide) ?_
            exact kz_iret F (x11) hdy (⟨by first | assumption | rfl | omega, trivial⟩) zd_N_key_59
      · refine lv_iload_n hx hb zd_N_key_14 rfl (lv_at hl 2 rfl) ?_
        refine lv_bipush (v := (nI (15))) hx hb zd_N_key_15 (by decide) ?_
        refine lv_icmp_le (tgt := 24) hx hb zd_N_key_17 (by decide) (fun hc17 => ?_) (fun hc17 => ?_)
        · rcases hbad with h9 | h9 | h9 | h9 <;> first | contradiction | exact (kz_nle h9 (by assumption)).elim
        · refine lv_iconst (v := (nI (1))) hx hb zd_N_key_20 (by decide) ?_
          refine lv_goto (tgt := 25) hx hb zd_N_key_21 (by decide) ?_
          refine lv_aload_n hx hb zd_N_key_25 rfl (lv_at hl 0 rfl) ?_
          refine va_get (D := (dC, dI)) (ci := 4) (v := .int sta) (C := zR_N) (T := zT_N) (N := 26) hx hb hts (fun w h => kz_c (zi_N w h)) hown hK hdy.1 0 rfl rfl 1 (by decide) (hts _ (kz_c mw_592)) (fun _ h9 => h9) rfl zd_N_key_26 ?_
          refine lv_iconst (v := (nI (3))) hx hb zd_N_key_29 (by decide) ?_
          refine lv_icmp_eq (tgt := 37) hx hb zd_N_key_30 (by decide) (fun hc30 => ?_) (fun hc30 => ?_)
          · refine lv_iconst (v := (nI (0))) hx hb zd_N_key_37 (by decide) ?_
            refine kz_calli (wk := []) (va_runV (As := [.int (nI (1)), .int (nI (0))]) (rest := []) ⟨hx, hb, hml, hown, hts⟩ (c_M_refused1 l dC dI cI cAA cB cL o mt mn ml mc mh mk mp mm mb mw mr mx me mP mQ ms mo mW mD mB mR mS (th) (sta) (hs) sz_ _) (cwV 2 hts (kz_g (kz_mc mw_674 (kz_mc mw_676 (kz_mc mw_20 (kz_mc mw_43 kz_mn)))) mw_677) rfl rfl rfl (by decide +kernel) ⟨Nat.le_of_ble_eq_true rfl, Nat.le_of_ble_eq_true rfl⟩) (kz_preV hdy hA hK hro hZ hN [0] (by decide) rfl [] rfl (by decide) [0, 1, 2, 3] rfl (fun _ h => by cases h) (fun _ h => by cases h) rfl (ci := 4) (q0 := 0) rfl rfl rfl) rfl rfl hl.1 rfl (lv_room (Nat.le_of_ble_eq_true rfl)) zd_N_key_38 ⟨Nat.le_of_ble_eq_true rfl, Nat.le_of_ble_eq_true rfl⟩) hdy hA [0] [] rfl rfl (by decide) (by decide) (fun r u H locs hw hdy => ?_)
            obtain ⟨x13, rfl⟩ : ∃ z, z = u := ⟨_, rfl⟩
            try dsimp only at hw
            obtain ⟨rfl, q14, -⟩ := hw
            have hdy : kz_dy (dC, dI) vwCl A s.heap H locs [(o, .inr (4, [.int x13, .int sta, .ref mt, .ref mn, .ref ml, .ref mc, .ref mh, .ref mk, .ref mp, .ref mm, .ref mb, .ref mw, .ref mr, .ref mx, .ref me, .ref mP, .ref mQ, .ref ms, .int hs, .int (nI (sz_)), .ref mo, .ref mW, .ref mD, .ref mB, .ref mR, .ref mS]))] := hdy.sub [0] (by decide) rfl
            refine lv_if_eq (tgt := 48) hx hb zd_N_key_41 (by decide) (fun hc41 => ?_) (fun hc41 => ?_)
            · exact absurd hc41 (by decide)
            · refine lv_iconst (v := (nI (0))) hx hb zd_N_key_44 (by decide) ?_
              refine lv_goto (tgt := 59) hx hb zd_N_key_45 (by decide) ?_
              exact kz_iret F (x13) hdy (⟨by first | assumption | rfl | omega, trivial⟩) zd_N_key_59
          · refine lv_iconst (v := (nI (1))) hx hb zd_N_key_33 (by decide) ?_
            refine lv_goto (tgt := 38) hx hb zd_N_key_34 (by decide) ?_
            refine kz_calli (wk := []) (va_runV (As := [.int (nI (1)), .int (nI (1))]) (rest := []) ⟨hx, hb, hml, hown, hts⟩ (c_M_refused3 l dC dI cI cAA cB cL o mt mn ml mc mh mk mp mm mb mw mr mx me mP mQ ms mo mW mD mB mR mS (th) (sta) (hs) sz_ _) (cwV 2 hts (kz_g (kz_mc mw_674 (kz_mc mw_676 (kz_mc mw_20 (kz_mc mw_43 kz_mn)))) mw_677) rfl rfl rfl (by decide +kernel) ⟨Nat.le_of_ble_eq_true rfl, Nat.le_of_ble_eq_true rfl⟩) (kz_preV hdy hA hK hro hZ hN [0] (by decide) rfl [] rfl (by decide) [0, 1, 2, 3] rfl (fun _ h => by cases h) (fun _ h => by cases h) rfl (ci := 4) (q0 := 0) rfl rfl rfl) rfl rfl hl.1 rfl (lv_room (Nat.le_of_ble_eq_true rfl)) zd_N_key_38 ⟨Nat.le_of_ble_eq_true rfl, Nat.le_of_ble_eq_true rfl⟩) hdy hA [0] [] rfl rfl (by decide) (by decide) (fun r u H locs hw hdy => ?_)
            obtain ⟨x15, rfl⟩ : ∃ z, z = u := ⟨_, rfl⟩
            try dsimp only at hw
            obtain ⟨rfl, q16, -⟩ := hw
            have hdy : kz_dy (dC, dI) vwCl A s.heap H locs [(o, .inr (4, [.int x15, .int sta, .ref mt, .ref mn, .ref ml, .ref mc, .ref mh, .ref mk, .ref mp, .ref mm, .ref mb, .ref mw, .ref mr, .ref mx, .ref me, .ref mP, .ref mQ, .ref ms, .int hs, .int (nI (sz_)), .ref mo, .ref mW, .ref mD, .ref mB, .ref mR, .ref mS]))] := hdy.sub [0] (by decide) rfl
            refine lv_if_eq (tgt := 48) hx hb zd_N_key_41 (by decide) (fun hc41 => ?_) (fun hc41 => ?_)
            · exact absurd hc41 (by decide)
            · refine lv_iconst (v := (nI (0))) hx hb zd_N_key_44 (by decide) ?_
              refine lv_goto (tgt := 59) hx hb zd_N_key_45 (by decide) ?_
              exact kz_iret F (x15) hdy (⟨by first | assumption | rfl | omega, trivial⟩) zd_N_key_59

set_option maxHeartbeats 4000000 in
set_option maxRecDepth 100000 in
/-- KeyMeetingModel.secret(I)I -/
theorem c_F_secret0 (l : Launch) (dC : Nat → ClassId) (dI : Nat → Nat → Nat) (cI cAA cB cL : ClassId) (o mt mn ml mc mh mk mp mm mb mw mr mx me mP mQ ms mo mW mD mB mR mS : Nat) (th : Int32) (sta : Int32) (hs : Int32) (sz_ : Nat) (gmP : Nat → Nat) (gmQ : Nat → Nat) (gms : Nat → Nat) (gmx : Nat → Nat) (gmt : Nat → Int32) (i_ : Nat) (sz : Nat) (hd_gmP : ∀ j, gmP j < 65536) (hd_gmQ : ∀ j, gmQ j < 65536) (hd_gms : ∀ j, gms j < 4294967296) (hd_gmx : ∀ j, gmx j < 65536) (hi_ : i_ < 8) : Met l zy_N_secret zw_N_secret { frames := 2, cells := 0, slots := 0, locals := 54 } (kz_Pc (dC, dI) vwCl [(cI, .int), (cAA, .array .int), (cB, .byte), (cL, .long)] [] [] [.ref o, .int (nI (i_))] [(o, .inr (4, [.int th, .int sta, .ref mt, .ref mn, .ref ml, .ref mc, .ref mh, .ref mk, .ref mp, .ref mm, .ref mb, .ref mw, .ref mr, .ref mx, .ref me, .ref mP, .ref mQ, .ref ms, .int hs, .int (nI (sz_)), .ref mo, .ref mW, .ref mD, .ref mB, .ref mR, .ref mS])), (mP, .inl (cI, 16, .inl (kz_dg gmP))), (mQ, .inl (cI, 16, .inl (kz_dg gmQ))), (ms, .inl (cI, 18, .inl (kz_dg gms))), (mx, .inl (cI, 32, .inl (kz_dg gmx)))] [(mt, .inl (cI, 56, .inl gmt))] sz) (va_Qi (fun (r : Int32) (u : Int32 × Int32 × (Nat → Nat) × (Nat → Nat) × (Nat → Nat) × (Nat → Nat)) => (∀ j, u.2.2.1 j < 65536) ∧ (∀ j, u.2.2.2.1 j < 65536) ∧ (∀ j, u.2.2.2.2.1 j < 4294967296) ∧ (∀ j, u.2.2.2.2.2 j < 65536) ∧ (u.1 = nI 0) ∧ (kx_sec (kv_val (kv_fig gmt 16) 8) (kv_val (kv_fig gmt 24) 8) i_ r) ∧ True) (kz_B (dC, dI) vwCl (va_A [(o, .inr (4, [.int th, .int sta, .ref mt, .ref mn, .ref ml, .ref mc, .ref mh, .ref mk, .ref mp, .ref mm, .ref mb, .ref mw, .ref mr, .ref mx, .ref me, .ref mP, .ref mQ, .ref ms, .int hs, .int (nI (sz_)), .ref mo, .ref mW, .ref mD, .ref mB, .ref mR, .ref mS])), (mP, .inl (cI, 16, .inl (kz_dg gmP))), (mQ, .inl (cI, 16, .inl (kz_dg gmQ))), (ms, .inl (cI, 18, .inl (kz_dg gms))), (mx, .inl (cI, 32, .inl (kz_dg gmx)))] sz) (fun u : Int32 × Int32 × (Nat → Nat) × (Nat → Nat) × (Nat → Nat) × (Nat → Nat) => [(o, .inr (4, [.int u.1, .int sta, .ref mt, .ref mn, .ref ml, .ref mc, .ref mh, .ref mk, .ref mp, .ref mm, .ref mb, .ref mw, .ref mr, .ref mx, .ref me, .ref mP, .ref mQ, .ref ms, .int u.2.1, .int (nI (sz_)), .ref mo, .ref mW, .ref mD, .ref mB, .ref mR, .ref mS])), (mP, .inl (cI, 16, .inl (kz_dg u.2.2.1))), (mQ, .inl (cI, 16, .inl (kz_dg u.2.2.2.1))), (ms, .inl (cI, 18, .inl (kz_dg u.2.2.2.2.1))), (mx, .inl (cI, 32, .inl (kz_dg u.2.2.2.2.2)))])) (va_A [(o, .inr (4, [.int th, .int sta, .ref mt, .ref mn, .ref ml, .ref mc, .ref mh, .ref mk, .ref mp, .ref mm, .ref mb, .ref mw, .ref mr, .ref mx, .ref me, .ref mP, .ref mQ, .ref ms, .int hs, .int (nI (sz_)), .ref mo, .ref mW, .ref mD, .ref mB, .ref mR, .ref mS])), (mP, .inl (cI, 16, .inl (kz_dg gmP))), (mQ, .inl (cI, 16, .inl (kz_dg gmQ))), (ms, .inl (cI, 18, .inl (kz_dg gms))), (mx, .inl (cI, 32, .inl (kz_dg gmx)))] sz)) 0 0 (va_A [(o, .inr (4, [.int th, .int sta, .ref mt, .ref mn, .ref ml, .ref mc, .ref mh, .ref mk, .ref mp, .ref mm, .ref mb, .ref mw, .ref mr, .ref mx, .ref me, .ref mP, .ref mQ, .ref ms, .int hs, .int (nI (sz_)), .ref mo, .ref mW, .ref mD, .ref mB, .ref mR, .ref mS])), (mP, .inl (cI, 16, .inl (kz_dg gmP))), (mQ, .inl (cI, 16, .inl (kz_dg gmQ))), (ms, .inl (cI, 18, .inl (kz_dg gms))), (mx, .inl (cI, 32, .inl (kz_dg gmx)))] sz) := by
  refine kz_met (y := zy_N_secret) (ws := zw_N_secret) (av := [.ref o, .int (nI (i_))]) (sz := sz) (Qc := fun A => va_Qi (fun (r : Int32) (u : Int32 × Int32 × (Nat → Nat) × (Nat → Nat) × (Nat → Nat) × (Nat → Nat)) => (∀ j, u.2.2.1 j < 65536) ∧ (∀ j, u.2.2.2.1 j < 65536) ∧ (∀ j, u.2.2.2.2.1 j < 4294967296) ∧ (∀ j, u.2.2.2.2.2 j < 65536) ∧ (u.1 = nI 0) ∧ (kx_sec (kv_val (kv_fig gmt 16) 8) (kv_val (kv_fig gmt 24) 8) i_ r) ∧ True) (kz_B (dC, dI) vwCl A (fun u : Int32 × Int32 × (Nat → Nat) × (Nat → Nat) × (Nat → Nat) × (Nat → Nat) => [(o, .inr (4, [.int u.1, .int sta, .ref mt, .ref mn, .ref ml, .ref mc, .ref mh, .ref mk, .ref mp, .ref mm, .ref mb, .ref mw, .ref mr, .ref mx, .ref me, .ref mP, .ref mQ, .ref ms, .int u.2.1, .int (nI (sz_)), .ref mo, .ref mW, .ref mD, .ref mB, .ref mR, .ref mS])), (mP, .inl (cI, 16, .inl (kz_dg u.2.2.1))), (mQ, .inl (cI, 16, .inl (kz_dg u.2.2.2.1))), (ms, .inl (cI, 18, .inl (kz_dg u.2.2.2.2.1))), (mx, .inl (cI, 32, .inl (kz_dg u.2.2.2.2.2)))])) A) (cc := zc_N_secret) (maxL := 2) (ret := some .int) (by decide) rfl (Nat.le_of_ble_eq_true rfl) ?_
  intro p e s m below meth c A ls F hA hdy hK hro hZ hN hl
  obtain ⟨hx, hb, hml, hr, hown, hlocks, hts, hnm⟩ := id F
  have hl : lv_has ls 2 [(0, .ref o), (1, .int (nI (i_)))] := hl
  refine lv_aload_n hx hb zd_N_secret_0 rfl (lv_at hl 0 rfl) ?_
  refine lv_iload_n hx hb zd_N_secret_1 rfl (lv_at hl 1 rfl) ?_
  refine lv_if_lt (tgt := 11) hx hb zd_N_secret_2 (by decide) (fun hc2 => ?_) (fun hc2 => ?_)
  · exact absurd hc2 (nI_pos (by omega))
  · refine lv_iload_n hx hb zd_N_secret_5 rfl (lv_at hl 1 rfl) ?_
    refine lv_bipush (v := (nI (7))) hx hb zd_N_secret_6 (by decide) ?_
    refine lv_icmp_le (tgt := 15) hx hb zd_N_secret_8 (by decide) (fun hc8 => ?_) (fun hc8 => ?_)
    · have hc8 : i_ ≤ 7 := (nI_leI (by omega) (by omega)).mp hc8
      refine lv_iconst (v := (nI (0))) hx hb zd_N_secret_15 (by decide) ?_
      refine lv_iconst (v := (nI (0))) hx hb zd_N_secret_16 (by decide) ?_
      refine kz_calli (wk := [(mP, .inl (cI, 16, .inl (kz_dg gmP))), (mQ, .inl (cI, 16, .inl (kz_dg gmQ))), (ms, .inl (cI, 18, .inl (kz_dg gms))), (mx, .inl (cI, 32, .inl (kz_dg gmx)))]) (va_runV (As := [.int (nI (0)), .int (nI (0))]) (rest := []) ⟨hx, hb, hml, hown, hts⟩ (c_M_refused0 l dC dI cI cAA cB cL o mt mn ml mc mh mk mp mm mb mw mr mx me mP mQ ms mo mW mD mB mR mS (th) (sta) (hs) sz_ _) (cwV 2 hts (kz_g (kz_mc mw_674 (kz_mc mw_676 (kz_mc mw_20 (kz_mc mw_43 kz_mn)))) mw_677) rfl rfl rfl (by decide +kernel) ⟨Nat.le_of_ble_eq_true rfl, Nat.le_of_ble_eq_true rfl⟩) (kz_preV hdy hA hK hro hZ hN [0] (by decide) rfl [] rfl (by decide) [0, 1, 2, 3] rfl (fun _ h => by cases h) (fun _ h => by cases h) rfl (ci := 4) (q0 := 0) rfl rfl rfl) rfl rfl hl.1 rfl (lv_room (Nat.le_of_ble_eq_true rfl)) zd_N_secret_17 ⟨Nat.le_of_ble_eq_true rfl, Nat.le_of_ble_eq_true rfl⟩) hdy hA [0] [1, 2, 3, 4] rfl rfl (by decide) (by decide) (fun r u H locs hw hdy => ?_)
      obtain ⟨x1, rfl⟩ : ∃ z, z = u := ⟨_, rfl⟩
      try dsimp only at hw
      obtain ⟨rfl, q2, -⟩ := hw
      have hdy : kz_dy (dC, dI) vwCl A s.heap H locs [(o, .inr (4, [.int x1, .int sta, .ref mt, .ref mn, .ref ml, .ref mc, .ref mh, .ref mk, .ref mp, .ref mm, .ref mb, .ref mw, .ref mr, .ref mx, .ref me, .ref mP, .ref mQ, .ref ms, .int hs, .int (nI (sz_)), .ref mo, .ref mW, .ref mD, .ref mB, .ref mR, .ref mS])), (mP, .inl (cI, 16, .inl (kz_dg gmP))), (mQ, .inl (cI, 16, .inl (kz_dg gmQ))), (ms, .inl (cI, 18, .inl (kz_dg gms))), (mx, .inl (cI, 32, .inl (kz_dg gmx)))] := hdy.sub [4, 0, 1, 2, 3] (by decide) rfl
      refine lv_if_eq (tgt := 25) hx hb zd_N_secret_20 (by decide) (fun hc20 => ?_) (fun hc20 => ?_)
      · refine lv_aload_n hx hb zd_N_secret_25 rfl (lv_at hl 0 rfl) ?_
        refine kz_callv (wk := []) (va_runV (As := []) (rest := []) ⟨hx, hb, hml, hown, hts⟩ (c_F_find l dC dI cI cAA cB cL o mt mn ml mc mh mk mp mm mb mw mr mx me mP mQ ms mo mW mD mB mR mS (x1) (sta) (hs) sz_ gmP gmQ gms gmx gmt _ hd_gmP hd_gmQ hd_gms hd_gmx) (cwV 0 hts (kz_g (kz_mc mw_694 (kz_mc mw_696 (kz_mc mw_22 (kz_mc mw_43 kz_mn)))) mw_697) rfl rfl rfl (by decide +kernel) ⟨Nat.le_of_ble_eq_true rfl, Nat.le_of_ble_eq_true rfl⟩) (kz_preV hdy hA hK hro hZ hN [0, 1, 2, 3, 4] (by decide) rfl [(true, 0)] rfl (by decide) [0, 1, 2, 3] rfl (fun _ h => by cases h) (fun _ h => by cases h) rfl (ci := 4) (q0 := 0) rfl rfl rfl) rfl rfl hl.1 rfl (lv_room (Nat.le_of_ble_eq_true rfl)) zd_N_secret_26 ⟨Nat.le_of_ble_eq_true rfl, Nat.le_of_ble_eq_true rfl⟩) hdy hA [0, 1, 2, 3, 4] [] rfl rfl (by decide) (by decide) (fun u H locs hw hdy => ?_)
        obtain ⟨x3, d4, d5, d6, d7⟩ := u
        try dsimp only at hw
        obtain ⟨hd_d4, hd_d5, hd_d6, hd_d7, q8, q9, -⟩ := hw
        have hdy : kz_dy (dC, dI) vwCl A s.heap H locs [(o, .inr (4, [.int x1, .int sta, .ref mt, .ref mn, .ref ml, .ref mc, .ref mh, .ref mk, .ref mp, .ref mm, .ref mb, .ref mw, .ref mr, .ref mx, .ref me, .ref mP, .ref mQ, .ref ms, .int x3, .int (nI (sz_)), .ref mo, .ref mW, .ref mD, .ref mB, .ref mR, .ref mS])), (mP, .inl (cI, 16, .inl (kz_dg d4))), (mQ, .inl (cI, 16, .inl (kz_dg d5))), (ms, .inl (cI, 18, .inl (kz_dg d6))), (mx, .inl (cI, 32, .inl (kz_dg d7)))] := hdy.sub [0, 1, 2, 3, 4] (by decide) rfl
        refine lv_aload_n hx hb zd_N_secret_29 rfl (lv_at hl 0 rfl) ?_
        refine va_get (D := (dC, dI)) (ci := 4) (v := .int x3) (C := zR_N) (T := zT_N) (N := 26) hx hb hts (fun w h => kz_c (zi_N w h)) hown hK hdy.1 0 rfl rfl 18 (by decide) (hts _ (kz_c mw_609)) (fun _ h9 => h9) rfl zd_N_secret_30 ?_
        refine lv_if_eq (tgt := 65) hx hb zd_N_secret_33 (by decide) (fun hc33 => ?_) (fun hc33 => ?_)
        · refine lv_iconst (v := (nI (0))) hx hb zd_N_secret_65 (by decide) ?_
          exact kz_iret F (x1, x3, d4, d5, d6, d7) hdy (⟨hd_d4, hd_d5, hd_d6, hd_d7, by first | assumption | rfl | omega, by exact kx_sec0 q8 hc33, trivial⟩) zd_N_secret_66
        · have hfl := q9 (q8.resolve_left (fun h => hc33 h.1)).1
          have hb14 := hfl (14 - 2 * i_) (by omega)
          have hb15 := hfl (15 - 2 * i_) (by omega)
          refine lv_aload_n hx hb zd_N_secret_36 rfl (lv_at hl 0 rfl) ?_
          refine va_get (D := (dC, dI)) (ci := 4) (v := .ref ms) (C := zR_N) (T := zT_N) (N := 26) hx hb hts (fun w h => kz_c (zi_N w h)) hown hK hdy.1 0 rfl rfl 17 (by decide) (hts _ (kz_c mw_608)) (fun _ h9 => h9) rfl zd_N_secret_37 ?_
          refine lv_bipush (v := (nI (15))) hx hb zd_N_secret_40 (by decide) ?_
          refine lv_iconst (v := (nI (2))) hx hb zd_N_secret_42 (by decide) ?_
          refine lv_iload_n hx hb zd_N_secret_43 rfl (lv_at hl 1 rfl) ?_
          refine kz_imul hx hb zd_N_secret_44 (pk_mul _ _) ?_
          refine kz_isub hx hb zd_N_secret_45 (pk_sub (by omega)) ?_
          refine va_iald hx hb hK hdy.1 3 0 rfl rfl (vp_in_nI (by omega) (by omega)) zd_N_secret_46 ?_
          refine lv_topi (fun x10 h9 => ?_)
          obtain rfl : x10 = nI (d6 (15 - (2 * i_))) := h9.trans (kz_dgl d6 (by omega))
          have hbx10 := hd_d6 (15 - (2 * i_))
          refine lv_bipush (v := (nI (16))) hx hb zd_N_secret_47 (by decide) ?_
          refine lv_ishl hx hb zd_N_secret_49 ?_
          refine lv_topi (fun x11 h9 => ?_)
          obtain rfl : x11 = nI ((d6 (15 - (2 * i_))) * 65536) := h9.trans (kz_shl16 _)
          refine lv_aload_n hx hb zd_N_secret_50 rfl (lv_at hl 0 rfl) ?_
          refine va_get (D := (dC, dI)) (ci := 4) (v := .ref ms) (C := zR_N) (T := zT_N) (N := 26) hx hb hts (fun w h => kz_c (zi_N w h)) hown hK hdy.1 0 rfl rfl 17 (by decide) (hts _ (kz_c mw_608)) (fun _ h9 => h9) rfl zd_N_secret_51 ?_
          refine lv_bipush (v := (nI (14))) hx hb zd_N_secret_54 (by decide) ?_
          refine lv_iconst (v := (nI (2))) hx hb zd_N_secret_56 (by decide) ?_
          refine lv_iload_n hx hb zd_N_secret_57 rfl (lv_at hl 1 rfl) ?_
          refine kz_imul hx hb zd_N_secret_58 (pk_mul _ _) ?_
          refine kz_isub hx hb zd_N_secret_59 (pk_sub (by omega)) ?_
          refine va_iald hx hb hK hdy.1 3 0 rfl rfl (vp_in_nI (by omega) (by omega)) zd_N_secret_60 ?_
          refine lv_topi (fun x12 h9 => ?_)
          obtain rfl : x12 = nI (d6 (14 - (2 * i_))) := h9.trans (kz_dgl d6 (by omega))
          have hbx12 := hd_d6 (14 - (2 * i_))
          refine lv_ior hx hb zd_N_secret_61 ?_
          refine lv_topi (fun x13 h9 => ?_)
          obtain rfl : x13 = nI ((d6 (15 - (2 * i_))) * 65536 + (d6 (14 - (2 * i_)))) := h9.trans (kz_or16 (by omega))
          refine lv_goto (tgt := 66) hx hb zd_N_secret_62 (by decide) ?_
          exact kz_iret F (x1, x3, d4, d5, d6, d7) hdy (⟨hd_d4, hd_d5, hd_d6, hd_d7, by first | assumption | rfl | omega, by exact kv_sec1 q8 hc33 hi_ hfl, trivial⟩) zd_N_secret_66
      · exact absurd (by decide) hc20
    · have hc8 : ¬ i_ ≤ 7 := fun h9 => hc8 ((nI_leI (by omega) (by omega)).mpr h9)
      refine lv_iconst (v := (nI (1))) hx hb zd_N_secret_11 (by decide) ?_
      refine lv_goto (tgt := 16) hx hb zd_N_secret_12 (by decide) ?_
      refine lv_iconst (v := (nI (0))) hx hb zd_N_secret_16 (by decide) ?_
      refine kz_calli (wk := [(mP, .inl (cI, 16, .inl (kz_dg gmP))), (mQ, .inl (cI, 16, .inl (kz_dg gmQ))), (ms, .inl (cI, 18, .inl (kz_dg gms))), (mx, .inl (cI, 32, .inl (kz_dg gmx)))]) (va_runV (As := [.int (nI (1)), .int (nI (0))]) (rest := []) ⟨hx, hb, hml, hown, hts⟩ (c_M_refused1 l dC dI cI cAA cB cL o mt mn ml mc mh mk mp mm mb mw mr mx me mP mQ ms mo mW mD mB mR mS (th) (sta) (hs) sz_ _) (cwV 2 hts (kz_g (kz_mc mw_674 (kz_mc mw_676 (kz_mc mw_20 (kz_mc mw_43 kz_mn)))) mw_677) rfl rfl rfl (by decide +kernel) ⟨Nat.le_of_ble_eq_true rfl, Nat.le_of_ble_eq_true rfl⟩) (kz_preV hdy hA hK hro hZ hN [0] (by decide) rfl [] rfl (by decide) [0, 1, 2, 3] rfl (fun _ h => by cases h) (fun _ h => by cases h) rfl (ci := 4) (q0 := 0) rfl rfl rfl) rfl rfl hl.1 rfl (lv_room (Nat.le_of_ble_eq_true rfl)) zd_N_secret_17 ⟨Nat.le_of_ble_eq_true rfl, Nat.le_of_ble_eq_true rfl⟩) hdy hA [0] [1, 2, 3, 4] rfl rfl (by decide) (by decide) (fun r u H locs hw hdy => ?_)
      obtain ⟨x14, rfl⟩ : ∃ z, z = u := ⟨_, rfl⟩
      try dsimp only at hw
      obtain ⟨rfl, q15, -⟩ := hw
      have hdy : kz_dy (dC, dI) vwCl A s.heap H locs [(o, .inr (4, [.int x14, .int sta, .ref mt, .ref mn, .ref ml, .ref mc, .ref mh, .ref mk, .ref mp, .ref mm, .ref mb, .ref mw, .ref mr, .ref mx, .ref me, .ref mP, .ref mQ, .ref ms, .int hs, .int (nI (sz_)), .ref mo, .ref mW, .ref mD, .ref mB, .ref mR, .ref mS])), (mP, .inl (cI, 16, .inl (kz_dg gmP))), (mQ, .inl (cI, 16, .inl (kz_dg gmQ))), (ms, .inl (cI, 18, .inl (kz_dg gms))), (mx, .inl (cI, 32, .inl (kz_dg gmx)))] := hdy.sub [4, 0, 1, 2, 3] (by decide) rfl
      refine lv_if_eq (tgt := 25) hx hb zd_N_secret_20 (by decide) (fun hc20 => ?_) (fun hc20 => ?_)
      · exact absurd hc20 (by decide)
      · refine lv_iconst (v := (nI (0))) hx hb zd_N_secret_23 (by decide) ?_
        exact kz_iret F (x14, hs, gmP, gmQ, gms, gmx) hdy (⟨hd_gmP, hd_gmQ, hd_gms, hd_gmx, by first | assumption | rfl | omega, by exfalso; omega, trivial⟩) zd_N_secret_24

set_option maxHeartbeats 4000000 in
set_option maxRecDepth 100000 in
/-- KeyMeetingModel.secret(I)I -/
theorem c_F_secret1 (l : Launch) (dC : Nat → ClassId) (dI : Nat → Nat → Nat) (cI cAA cB cL : ClassId) (o mt mn ml mc mh mk mp mm mb mw mr mx me mP mQ ms mo mW mD mB mR mS : Nat) (th : Int32) (sta : Int32) (hs : Int32) (sz_ : Nat) (i_ : Int32) (sz : Nat) (hbad : i_ < 0 ∨ nI 7 < i_) : Met l zy_N_secret zw_N_secret { frames := 2, cells := 0, slots := 0, locals := 54 } (kz_Pc (dC, dI) vwCl [(cI, .int), (cAA, .array .int), (cB, .byte), (cL, .long)] [] [] [.ref o, .int i_] [(o, .inr (4, [.int th, .int sta, .ref mt, .ref mn, .ref ml, .ref mc, .ref mh, .ref mk, .ref mp, .ref mm, .ref mb, .ref mw, .ref mr, .ref mx, .ref me, .ref mP, .ref mQ, .ref ms, .int hs, .int (nI (sz_)), .ref mo, .ref mW, .ref mD, .ref mB, .ref mR, .ref mS]))] [] sz) (va_Qi (fun (r : Int32) (u : Int32) => (u = nI 1) ∧ True) (kz_B (dC, dI) vwCl (va_A [(o, .inr (4, [.int th, .int sta, .ref mt, .ref mn, .ref ml, .ref mc, .ref mh, .ref mk, .ref mp, .ref mm, .ref mb, .ref mw, .ref mr, .ref mx, .ref me, .ref mP, .ref mQ, .ref ms, .int hs, .int (nI (sz_)), .ref mo, .ref mW, .ref mD, .ref mB, .ref mR, .ref mS]))] sz) (fun u : Int32 => [(o, .inr (4, [.int u, .int sta, .ref mt, .ref mn, .ref ml, .ref mc, .ref mh, .ref mk, .ref mp, .ref mm, .ref mb, .ref mw, .ref mr, .ref mx, .ref me, .ref mP, .ref mQ, .ref ms, .int hs, .int (nI (sz_)), .ref mo, .ref mW, .ref mD, .ref mB, .ref mR, .ref mS]))])) (va_A [(o, .inr (4, [.int th, .int sta, .ref mt, .ref mn, .ref ml, .ref mc, .ref mh, .ref mk, .ref mp, .ref mm, .ref mb, .ref mw, .ref mr, .ref mx, .ref me, .ref mP, .ref mQ, .ref ms, .int hs, .int (nI (sz_)), .ref mo, .ref mW, .ref mD, .ref mB, .ref mR, .ref mS]))] sz)) 0 0 (va_A [(o, .inr (4, [.int th, .int sta, .ref mt, .ref mn, .ref ml, .ref mc, .ref mh, .ref mk, .ref mp, .ref mm, .ref mb, .ref mw, .ref mr, .ref mx, .ref me, .ref mP, .ref mQ, .ref ms, .int hs, .int (nI (sz_)), .ref mo, .ref mW, .ref mD, .ref mB, .ref mR, .ref mS]))] sz) := by
  refine kz_met (y := zy_N_secret) (ws := zw_N_secret) (av := [.ref o, .int i_]) (sz := sz) (Qc := fun A => va_Qi (fun (r : Int32) (u : Int32) => (u = nI 1) ∧ True) (kz_B (dC, dI) vwCl A (fun u : Int32 => [(o, .inr (4, [.int u, .int sta, .ref mt, .ref mn, .ref ml, .ref mc, .ref mh, .ref mk, .ref mp, .ref mm, .ref mb, .ref mw, .ref mr, .ref mx, .ref me, .ref mP, .ref mQ, .ref ms, .int hs, .int (nI (sz_)), .ref mo, .ref mW, .ref mD, .ref mB, .ref mR, .ref mS]))])) A) (cc := zc_N_secret) (maxL := 2) (ret := some .int) (by decide) rfl (Nat.le_of_ble_eq_true rfl) ?_
  intro p e s m below meth c A ls F hA hdy hK hro hZ hN hl
  obtain ⟨hx, hb, hml, hr, hown, hlocks, hts, hnm⟩ := id F
  have hl : lv_has ls 2 [(0, .ref o), (1, .int i_)] := hl
  refine lv_aload_n hx hb zd_N_secret_0 rfl (lv_at hl 0 rfl) ?_
  refine lv_iload_n hx hb zd_N_secret_1 rfl (lv_at hl 1 rfl) ?_
  refine lv_if_lt (tgt := 11) hx hb zd_N_secret_2 (by decide) (fun hc2 => ?_) (fun hc2 => ?_)
  · refine lv_iconst (v := (nI (1))) hx hb zd_N_secret_11 (by decide) ?_
    refine lv_goto (tgt := 16) hx hb zd_N_secret_12 (by decide) ?_
    refine lv_iconst (v := (nI (0))) hx hb zd_N_secret_16 (by decide) ?_
    refine kz_calli (wk := []) (va_runV (As := [.int (nI (1)), .int (nI (0))]) (rest := []) ⟨hx, hb, hml, hown, hts⟩ (c_M_refused1 l dC dI cI cAA cB cL o mt mn ml mc mh mk mp mm mb mw mr mx me mP mQ ms mo mW mD mB mR mS (th) (sta) (hs) sz_ _) (cwV 2 hts (kz_g (kz_mc mw_674 (kz_mc mw_676 (kz_mc mw_20 (kz_mc mw_43 kz_mn)))) mw_677) rfl rfl rfl (by decide +kernel) ⟨Nat.le_of_ble_eq_true rfl, Nat.le_of_ble_eq_true rfl⟩) (kz_preV hdy hA hK hro hZ hN [0] (by decide) rfl [] rfl (by decide) [0, 1, 2, 3] rfl (fun _ h => by cases h) (fun _ h => by cases h) rfl (ci := 4) (q0 := 0) rfl rfl rfl) rfl rfl hl.1 rfl (lv_room (Nat.le_of_ble_eq_true rfl)) zd_N_secret_17 ⟨Nat.le_of_ble_eq_true rfl, Nat.le_of_ble_eq_true rfl⟩) hdy hA [0] [] rfl rfl (by decide) (by decide) (fun r u H locs hw hdy => ?_)
    obtain ⟨x1, rfl⟩ : ∃ z, z = u := ⟨_, rfl⟩
    try dsimp only at hw
    obtain ⟨rfl, q2, -⟩ := hw
    have hdy : kz_dy (dC, dI) vwCl A s.heap H locs [(o, .inr (4, [.int x1, .int sta, .ref mt, .ref mn, .ref ml, .ref mc, .ref mh, .ref mk, .ref mp, .ref mm, .ref mb, .ref mw, .ref mr, .ref mx, .ref me, .ref mP, .ref mQ, .ref ms, .int hs, .int (nI (sz_)), .ref mo, .ref mW, .ref mD, .ref mB, .ref mR, .ref mS]))] := hdy.sub [0] (by decide) rfl
    refine lv_if_eq (tgt := 25) hx hb zd_N_secret_20 (by decide) (fun hc20 => ?_) (fun hc20 => ?_)
    · exact absurd hc20 (by decide)
    · refine lv_iconst (v := (nI (0))) hx hb zd_N_secret_23 (by decide) ?_
      exact kz_iret F (x1) hdy (⟨by first | assumption | rfl | omega, trivial⟩) zd_N_secret_24
  · refine lv_iload_n hx hb zd_N_secret_5 rfl (lv_at hl 1 rfl) ?_
    refine lv_bipush (v := (nI (7))) hx hb zd_N_secret_6 (by decide) ?_
    refine lv_icmp_le (tgt := 15) hx hb zd_N_secret_8 (by decide) (fun hc8 => ?_) (fun hc8 => ?_)
    · rcases hbad with h9 | h9 <;> first | contradiction | exact (kz_nle h9 (by assumption)).elim
    · refine lv_iconst (v := (nI (1))) hx hb zd_N_secret_11 (by decide) ?_
      refine lv_goto (tgt := 16) hx hb zd_N_secret_12 (by decide) ?_
      refine lv_iconst (v := (nI (0))) hx hb zd_N_secret_16 (by decide) ?_
      refine kz_calli (wk := []) (va_runV (As := [.int (nI (1)), .int (nI (0))]) (rest := []) ⟨hx, hb, hml, hown, hts⟩ (c_M_refused1 l dC dI cI cAA cB cL o mt mn ml mc mh mk mp mm mb mw mr mx me mP mQ ms mo mW mD mB mR mS (th) (sta) (hs) sz_ _) (cwV 2 hts (kz_g (kz_mc mw_674 (kz_mc mw_676 (kz_mc mw_20 (kz_mc mw_43 kz_mn)))) mw_677) rfl rfl rfl (by decide +kernel) ⟨Nat.le_of_ble_eq_true rfl, Nat.le_of_ble_eq_true rfl⟩) (kz_preV hdy hA hK hro hZ hN [0] (by decide) rfl [] rfl (by decide) [0, 1, 2, 3] rfl (fun _ h => by cases h) (fun _ h => by cases h) rfl (ci := 4) (q0 := 0) rfl rfl rfl) rfl rfl hl.1 rfl (lv_room (Nat.le_of_ble_eq_true rfl)) zd_N_secret_17 ⟨Nat.le_of_ble_eq_true rfl, Nat.le_of_ble_eq_true rfl⟩) hdy hA [0] [] rfl rfl (by decide) (by decide) (fun r u H locs hw hdy => ?_)
      obtain ⟨x3, rfl⟩ : ∃ z, z = u := ⟨_, rfl⟩
      try dsimp only at hw
      obtain ⟨rfl, q4, -⟩ := hw
      have hdy : kz_dy (dC, dI) vwCl A s.heap H locs [(o, .inr (4, [.int x3, .int sta, .ref mt, .ref mn, .ref ml, .ref mc, .ref mh, .ref mk, .ref mp, .ref mm, .ref mb, .ref mw, .ref mr, .ref mx, .ref me, .ref mP, .ref mQ, .ref ms, .int hs, .int (nI (sz_)), .ref mo, .ref mW, .ref mD, .ref mB, .ref mR, .ref mS]))] := hdy.sub [0] (by decide) rfl
      refine lv_if_eq (tgt := 25) hx hb zd_N_secret_20 (by decide) (fun hc20 => ?_) (fun hc20 => ?_)
      · exact absurd hc20 (by decide)
      · refine lv_iconst (v := (nI (0))) hx hb zd_N_secret_23 (by decide) ?_
        exact kz_iret F (x3) hdy (⟨by first | assumption | rfl | omega, trivial⟩) zd_N_secret_24

set_option maxHeartbeats 4000000 in
set_option maxRecDepth 100000 in
/-- KeyMeetingModel.number(III)V -/
theorem c_F_number (l : Launch) (dC : Nat → ClassId) (dI : Nat → Nat → Nat) (cI cAA cB cL : ClassId) (o mt mn ml mc mh mk mp mm mb mw mr mx me mP mQ ms mo mW mD mB mR mS : Nat) (th : Int32) (sta : Int32) (hs : Int32) (sz_ : Nat) (gmt : Nat → Int32) (w_ : Nat) (i_ : Nat) (v : Int32) (sz : Nat) (hw_ : w_ < 7) (hi_ : i_ < 8) : Met l zy_N_number zw_N_number { frames := 1, cells := 0, slots := 0, locals := 22 } (kz_Pc (dC, dI) vwCl [(cI, .int), (cAA, .array .int), (cB, .byte), (cL, .long)] [] [] [.ref o, .int (nI (w_)), .int (nI (i_)), .int v] [(o, .inr (4, [.int th, .int sta, .ref mt, .ref mn, .ref ml, .ref mc, .ref mh, .ref mk, .ref mp, .ref mm, .ref mb, .ref mw, .ref mr, .ref mx, .ref me, .ref mP, .ref mQ, .ref ms, .int hs, .int (nI (sz_)), .ref mo, .ref mW, .ref mD, .ref mB, .ref mR, .ref mS])), (mt, .inl (cI, 56, .inl gmt))] [] sz) (va_Qv (fun (u : Int32 × (Nat → Int32)) => (u.1 = nI 0) ∧ (u.2 = upd gmt (8 * w_ + i_) v) ∧ True) (kz_B (dC, dI) vwCl (va_A [(o, .inr (4, [.int th, .int sta, .ref mt, .ref mn, .ref ml, .ref mc, .ref mh, .ref mk, .ref mp, .ref mm, .ref mb, .ref mw, .ref mr, .ref mx, .ref me, .ref mP, .ref mQ, .ref ms, .int hs, .int (nI (sz_)), .ref mo, .ref mW, .ref mD, .ref mB, .ref mR, .ref mS])), (mt, .inl (cI, 56, .inl gmt))] sz) (fun u : Int32 × (Nat → Int32) => [(o, .inr (4, [.int u.1, .int sta, .ref mt, .ref mn, .ref ml, .ref mc, .ref mh, .ref mk, .ref mp, .ref mm, .ref mb, .ref mw, .ref mr, .ref mx, .ref me, .ref mP, .ref mQ, .ref ms, .int hs, .int (nI (sz_)), .ref mo, .ref mW, .ref mD, .ref mB, .ref mR, .ref mS])), (mt, .inl (cI, 56, .inl u.2))])) (va_A [(o, .inr (4, [.int th, .int sta, .ref mt, .ref mn, .ref ml, .ref mc, .ref mh, .ref mk, .ref mp, .ref mm, .ref mb, .ref mw, .ref mr, .ref mx, .ref me, .ref mP, .ref mQ, .ref ms, .int hs, .int (nI (sz_)), .ref mo, .ref mW, .ref mD, .ref mB, .ref mR, .ref mS])), (mt, .inl (cI, 56, .inl gmt))] sz)) 0 0 (va_A [(o, .inr (4, [.int th, .int sta, .ref mt, .ref mn, .ref ml, .ref mc, .ref mh, .ref mk, .ref mp, .ref mm, .ref mb, .ref mw, .ref mr, .ref mx, .ref me, .ref mP, .ref mQ, .ref ms, .int hs, .int (nI (sz_)), .ref mo, .ref mW, .ref mD, .ref mB, .ref mR, .ref mS])), (mt, .inl (cI, 56, .inl gmt))] sz) := by
  refine kz_met (y := zy_N_number) (ws := zw_N_number) (av := [.ref o, .int (nI (w_)), .int (nI (i_)), .int v]) (sz := sz) (Qc := fun A => va_Qv (fun (u : Int32 × (Nat → Int32)) => (u.1 = nI 0) ∧ (u.2 = upd gmt (8 * w_ + i_) v) ∧ True) (kz_B (dC, dI) vwCl A (fun u : Int32 × (Nat → Int32) => [(o, .inr (4, [.int u.1, .int sta, .ref mt, .ref mn, .ref ml, .ref mc, .ref mh, .ref mk, .ref mp, .ref mm, .ref mb, .ref mw, .ref mr, .ref mx, .ref me, .ref mP, .ref mQ, .ref ms, .int hs, .int (nI (sz_)), .ref mo, .ref mW, .ref mD, .ref mB, .ref mR, .ref mS])), (mt, .inl (cI, 56, .inl u.2))])) A) (cc := zc_N_number) (maxL := 4) (ret := none) (by decide) rfl (Nat.le_of_ble_eq_true rfl) ?_
  intro p e s m below meth c A ls F hA hdy hK hro hZ hN hl
  obtain ⟨hx, hb, hml, hr, hown, hlocks, hts, hnm⟩ := id F
  have hl : lv_has ls 4 [(0, .ref o), (1, .int (nI (w_))), (2, .int (nI (i_))), (3, .int v)] := hl
  refine lv_aload_n hx hb zd_N_number_0 rfl (lv_at hl 0 rfl) ?_
  refine lv_iload_n hx hb zd_N_number_1 rfl (lv_at hl 1 rfl) ?_
  refine lv_if_lt (tgt := 21) hx hb zd_N_number_2 (by decide) (fun hc2 => ?_) (fun hc2 => ?_)
  · exact absurd hc2 (nI_pos (by omega))
  · refine lv_iload_n hx hb zd_N_number_5 rfl (lv_at hl 1 rfl) ?_
    refine lv_bipush (v := (nI (6))) hx hb zd_N_number_6 (by decide) ?_
    refine lv_icmp_gt (tgt := 21) hx hb zd_N_number_8 (by decide) (fun hc8 => ?_) (fun hc8 => ?_)
    · have hc8 : 6 < w_ := (nI_ltI (by omega) (by omega)).mp hc8
      refine lv_iconst (v := (nI (1))) hx hb zd_N_number_21 (by decide) ?_
      refine lv_goto (tgt := 26) hx hb zd_N_number_22 (by decide) ?_
      refine lv_iconst (v := (nI (0))) hx hb zd_N_number_26 (by decide) ?_
      refine kz_calli (wk := [(mt, .inl (cI, 56, .inl gmt))]) (va_runV (As := [.int (nI (1)), .int (nI (0))]) (rest := []) ⟨hx, hb, hml, hown, hts⟩ (c_M_refused1 l dC dI cI cAA cB cL o mt mn ml mc mh mk mp mm mb mw mr mx me mP mQ ms mo mW mD mB mR mS (th) (sta) (hs) sz_ _) (cwV 2 hts (kz_g (kz_mc mw_674 (kz_mc mw_676 (kz_mc mw_20 (kz_mc mw_43 kz_mn)))) mw_677) rfl rfl rfl (by decide +kernel) ⟨Nat.le_of_ble_eq_true rfl, Nat.le_of_ble_eq_true rfl⟩) (kz_preV hdy hA hK hro hZ hN [0] (by decide) rfl [] rfl (by decide) [0, 1, 2, 3] rfl (fun _ h => by cases h) (fun _ h => by cases h) rfl (ci := 4) (q0 := 0) rfl rfl rfl) rfl rfl hl.1 rfl (lv_room (Nat.le_of_ble_eq_true rfl)) zd_N_number_27 ⟨Nat.le_of_ble_eq_true rfl, Nat.le_of_ble_eq_true rfl⟩) hdy hA [0] [1] rfl rfl (by decide) (by decide) (fun r u H locs hw hdy => ?_)
      obtain ⟨x1, rfl⟩ : ∃ z, z = u := ⟨_, rfl⟩
      try dsimp only at hw
      obtain ⟨rfl, q2, -⟩ := hw
      have hdy : kz_dy (dC, dI) vwCl A s.heap H locs [(o, .inr (4, [.int x1, .int sta, .ref mt, .ref mn, .ref ml, .ref mc, .ref mh, .ref mk, .ref mp, .ref mm, .ref mb, .ref mw, .ref mr, .ref mx, .ref me, .ref mP, .ref mQ, .ref ms, .int hs, .int (nI (sz_)), .ref mo, .ref mW, .ref mD, .ref mB, .ref mR, .ref mS])), (mt, .inl (cI, 56, .inl gmt))] := hdy.sub [1, 0] (by decide) rfl
      refine lv_if_ne (tgt := 45) hx hb zd_N_number_30 (by decide) (fun hc30 => ?_) (fun hc30 => ?_)
      · exact kz_vret F (x1, gmt) hdy (⟨by first | assumption | rfl | omega, by first | assumption | (exfalso; omega), trivial⟩) zd_N_number_45
      · exact absurd hc30 (by decide)
    · have hc8 : ¬ 6 < w_ := fun h9 => hc8 ((nI_ltI (by omega) (by omega)).mpr h9)
      refine lv_iload_n hx hb zd_N_number_11 rfl (lv_at hl 2 rfl) ?_
      refine lv_if_lt (tgt := 21) hx hb zd_N_number_12 (by decide) (fun hc12 => ?_) (fun hc12 => ?_)
      · exact absurd hc12 (nI_pos (by omega))
      · refine lv_iload_n hx hb zd_N_number_15 rfl (lv_at hl 2 rfl) ?_
        refine lv_bipush (v := (nI (7))) hx hb zd_N_number_16 (by decide) ?_
        refine lv_icmp_le (tgt := 25) hx hb zd_N_number_18 (by decide) (fun hc18 => ?_) (fun hc18 => ?_)
        · have hc18 : i_ ≤ 7 := (nI_leI (by omega) (by omega)).mp hc18
          refine lv_iconst (v := (nI (0))) hx hb zd_N_number_25 (by decide) ?_
          refine lv_iconst (v := (nI (0))) hx hb zd_N_number_26 (by decide) ?_
          refine kz_calli (wk := [(mt, .inl (cI, 56, .inl gmt))]) (va_runV (As := [.int (nI (0)), .int (nI (0))]) (rest := []) ⟨hx, hb, hml, hown, hts⟩ (c_M_refused0 l dC dI cI cAA cB cL o mt mn ml mc mh mk mp mm mb mw mr mx me mP mQ ms mo mW mD mB mR mS (th) (sta) (hs) sz_ _) (cwV 2 hts (kz_g (kz_mc mw_674 (kz_mc mw_676 (kz_mc mw_20 (kz_mc mw_43 kz_mn)))) mw_677) rfl rfl rfl (by decide +kernel) ⟨Nat.le_of_ble_eq_true rfl, Nat.le_of_ble_eq_true rfl⟩) (kz_preV hdy hA hK hro hZ hN [0] (by decide) rfl [] rfl (by decide) [0, 1, 2, 3] rfl (fun _ h => by cases h) (fun _ h => by cases h) rfl (ci := 4) (q0 := 0) rfl rfl rfl) rfl rfl hl.1 rfl (lv_room (Nat.le_of_ble_eq_true rfl)) zd_N_number_27 ⟨Nat.le_of_ble_eq_true rfl, Nat.le_of_ble_eq_true rfl⟩) hdy hA [0] [1] rfl rfl (by decide) (by decide) (fun r u H locs hw hdy => ?_)
          obtain ⟨x3, rfl⟩ : ∃ z, z = u := ⟨_, rfl⟩
          try dsimp only at hw
          obtain ⟨rfl, q4, -⟩ := hw
          have hdy : kz_dy (dC, dI) vwCl A s.heap H locs [(o, .inr (4, [.int x3, .int sta, .ref mt, .ref mn, .ref ml, .ref mc, .ref mh, .ref mk, .ref mp, .ref mm, .ref mb, .ref mw, .ref mr, .ref mx, .ref me, .ref mP, .ref mQ, .ref ms, .int hs, .int (nI (sz_)), .ref mo, .ref mW, .ref mD, .ref mB, .ref mR, .ref mS])), (mt, .inl (cI, 56, .inl gmt))] := hdy.sub [1, 0] (by decide) rfl
          refine lv_if_ne (tgt := 45) hx hb zd_N_number_30 (by decide) (fun hc30 => ?_) (fun hc30 => ?_)
          · exact absurd (by decide) hc30
          · refine lv_aload_n hx hb zd_N_number_33 rfl (lv_at hl 0 rfl) ?_
            refine va_get (D := (dC, dI)) (ci := 4) (v := .ref mt) (C := zR_N) (T := zT_N) (N := 26) hx hb hts (fun w h => kz_c (zi_N w h)) hown hK hdy.1 0 rfl rfl 2 (by decide) (hts _ (kz_c mw_593)) (fun _ h9 => h9) rfl zd_N_number_34 ?_
            refine lv_bipush (v := (nI (8))) hx hb zd_N_number_37 (by decide) ?_
            refine lv_iload_n hx hb zd_N_number_39 rfl (lv_at hl 1 rfl) ?_
            refine kz_imul hx hb zd_N_number_40 (pk_mul _ _) ?_
            refine lv_iload_n hx hb zd_N_number_41 rfl (lv_at hl 2 rfl) ?_
            refine kz_iadd hx hb zd_N_number_42 (nI_add _ _) ?_
            refine lv_iload_n hx hb zd_N_number_43 rfl (lv_at hl 3 rfl) ?_
            refine va_iast hx hb hK hdy.1 hdy.2.1 hdy.2.2 1 0 rfl rfl (vp_in_nI (by omega) (by omega)) zd_N_number_44 (fun H locs hP hD hS => ?_)
            rw [nI_clamp (by omega)] at hP hD
            obtain ⟨f5, ef5, hdy⟩ : ∃ f5 : Nat → Int32, f5 = upd gmt (8 * w_ + i_) (v) ∧ kz_dy (dC, dI) vwCl A s.heap H locs [(o, .inr (4, [.int x3, .int sta, .ref mt, .ref mn, .ref ml, .ref mc, .ref mh, .ref mk, .ref mp, .ref mm, .ref mb, .ref mw, .ref mr, .ref mx, .ref me, .ref mP, .ref mQ, .ref ms, .int hs, .int (nI (sz_)), .ref mo, .ref mW, .ref mD, .ref mB, .ref mR, .ref mS])), (mt, .inl (cI, 56, .inl f5))] := ⟨_, rfl, hP, hD, hS⟩
            exact kz_vret F (x3, f5) hdy (⟨by first | assumption | rfl | omega, by first | assumption | (exfalso; omega), trivial⟩) zd_N_number_45
        · have hc18 : ¬ i_ ≤ 7 := fun h9 => hc18 ((nI_leI (by omega) (by omega)).mpr h9)
          refine lv_iconst (v := (nI (1))) hx hb zd_N_number_21 (by decide) ?_
          refine lv_goto (tgt := 26) hx hb zd_N_number_22 (by decide) ?_
          refine lv_iconst (v := (nI (0))) hx hb zd_N_number_26 (by decide) ?_
          refine kz_calli (wk := [(mt, .inl (cI, 56, .inl gmt))]) (va_runV (As := [.int (nI (1)), .int (nI (0))]) (rest := []) ⟨hx, hb, hml, hown, hts⟩ (c_M_refused1 l dC dI cI cAA cB cL o mt mn ml mc mh mk mp mm mb mw mr mx me mP mQ ms mo mW mD mB mR mS (th) (sta) (hs) sz_ _) (cwV 2 hts (kz_g (kz_mc mw_674 (kz_mc mw_676 (kz_mc mw_20 (kz_mc mw_43 kz_mn)))) mw_677) rfl rfl rfl (by decide +kernel) ⟨Nat.le_of_ble_eq_true rfl, Nat.le_of_ble_eq_true rfl⟩) (kz_preV hdy hA hK hro hZ hN [0] (by decide) rfl [] rfl (by decide) [0, 1, 2, 3] rfl (fun _ h => by cases h) (fun _ h => by cases h) rfl (ci := 4) (q0 := 0) rfl rfl rfl) rfl rfl hl.1 rfl (lv_room (Nat.le_of_ble_eq_true rfl)) zd_N_number_27 ⟨Nat.le_of_ble_eq_true rfl, Nat.le_of_ble_eq_true rfl⟩) hdy hA [0] [1] rfl rfl (by decide) (by decide) (fun r u H locs hw hdy => ?_)
          obtain ⟨x6, rfl⟩ : ∃ z, z = u := ⟨_, rfl⟩
          try dsimp only at hw
          obtain ⟨rfl, q7, -⟩ := hw
          have hdy : kz_dy (dC, dI) vwCl A s.heap H locs [(o, .inr (4, [.int x6, .int sta, .ref mt, .ref mn, .ref ml, .ref mc, .ref mh, .ref mk, .ref mp, .ref mm, .ref mb, .ref mw, .ref mr, .ref mx, .ref me, .ref mP, .ref mQ, .ref ms, .int hs, .int (nI (sz_)), .ref mo, .ref mW, .ref mD, .ref mB, .ref mR, .ref mS])), (mt, .inl (cI, 56, .inl gmt))] := hdy.sub [1, 0] (by decide) rfl
          refine lv_if_ne (tgt := 45) hx hb zd_N_number_30 (by decide) (fun hc30 => ?_) (fun hc30 => ?_)
          · exact kz_vret F (x6, gmt) hdy (⟨by first | assumption | rfl | omega, by first | assumption | (exfalso; omega), trivial⟩) zd_N_number_45
          · exact absurd hc30 (by decide)

set_option maxHeartbeats 4000000 in
set_option maxRecDepth 100000 in
/-- KeyMeetingModel.small(IJ)V -/
theorem c_F_small0 (l : Launch) (dC : Nat → ClassId) (dI : Nat → Nat → Nat) (cI cAA cB cL : ClassId) (o mt mn ml mc mh mk mp mm mb mw mr mx me mP mQ ms mo mW mD mB mR mS : Nat) (th : Int32) (sta : Int32) (hs : Int32) (sz_ : Nat) (gmt : Nat → Int32) (w_ : Nat) (vn : Nat) (sz : Nat) (hw_ : w_ < 7) (hv_ : vn < 9223372036854775808) : Met l zy_N_small zw_N_small { frames := 1, cells := 0, slots := 0, locals := 22 } (kz_Pc (dC, dI) vwCl [(cI, .int), (cAA, .array .int), (cB, .byte), (cL, .long)] [] [] [.ref o, .int (nI (w_)), .long (kz_lz (((vn : Nat) : Int)))] [(o, .inr (4, [.int th, .int sta, .ref mt, .ref mn, .ref ml, .ref mc, .ref mh, .ref mk, .ref mp, .ref mm, .ref mb, .ref mw, .ref mr, .ref mx, .ref me, .ref mP, .ref mQ, .ref ms, .int hs, .int (nI (sz_)), .ref mo, .ref mW, .ref mD, .ref mB, .ref mR, .ref mS])), (mt, .inl (cI, 56, .inl gmt))] [] sz) (va_Qv (fun (u : Int32 × (Nat → Int32)) => (u.1 = nI 0) ∧ (∀ j, j < 8 → u.2 (8 * w_ + j) = nI (kx_smallrow vn j)) ∧ (∀ j, (j < 8 * w_ ∨ 8 * w_ + 8 ≤ j) → u.2 j = gmt j) ∧ True) (kz_B (dC, dI) vwCl (va_A [(o, .inr (4, [.int th, .int sta, .ref mt, .ref mn, .ref ml, .ref mc, .ref mh, .ref mk, .ref mp, .ref mm, .ref mb, .ref mw, .ref mr, .ref mx, .ref me, .ref mP, .ref mQ, .ref ms, .int hs, .int (nI (sz_)), .ref mo, .ref mW, .ref mD, .ref mB, .ref mR, .ref mS])), (mt, .inl (cI, 56, .inl gmt))] sz) (fun u : Int32 × (Nat → Int32) => [(o, .inr (4, [.int u.1, .int sta, .ref mt, .ref mn, .ref ml, .ref mc, .ref mh, .ref mk, .ref mp, .ref mm, .ref mb, .ref mw, .ref mr, .ref mx, .ref me, .ref mP, .ref mQ, .ref ms, .int hs, .int (nI (sz_)), .ref mo, .ref mW, .ref mD, .ref mB, .ref mR, .ref mS])), (mt, .inl (cI, 56, .inl u.2))])) (va_A [(o, .inr (4, [.int th, .int sta, .ref mt, .ref mn, .ref ml, .ref mc, .ref mh, .ref mk, .ref mp, .ref mm, .ref mb, .ref mw, .ref mr, .ref mx, .ref me, .ref mP, .ref mQ, .ref ms, .int hs, .int (nI (sz_)), .ref mo, .ref mW, .ref mD, .ref mB, .ref mR, .ref mS])), (mt, .inl (cI, 56, .inl gmt))] sz)) 0 0 (va_A [(o, .inr (4, [.int th, .int sta, .ref mt, .ref mn, .ref ml, .ref mc, .ref mh, .ref mk, .ref mp, .ref mm, .ref mb, .ref mw, .ref mr, .ref mx, .ref me, .ref mP, .ref mQ, .ref ms, .int hs, .int (nI (sz_)), .ref mo, .ref mW, .ref mD, .ref mB, .ref mR, .ref mS])), (mt, .inl (cI, 56, .inl gmt))] sz) := by
  refine kz_met (y := zy_N_small) (ws := zw_N_small) (av := [.ref o, .int (nI (w_)), .long (kz_lz (((vn : Nat) : Int)))]) (sz := sz) (Qc := fun A => va_Qv (fun (u : Int32 × (Nat → Int32)) => (u.1 = nI 0) ∧ (∀ j, j < 8 → u.2 (8 * w_ + j) = nI (kx_smallrow vn j)) ∧ (∀ j, (j < 8 * w_ ∨ 8 * w_ + 8 ≤ j) → u.2 j = gmt j) ∧ True) (kz_B (dC, dI) vwCl A (fun u : Int32 × (Nat → Int32) => [(o, .inr (4, [.int u.1, .int sta, .ref mt, .ref mn, .ref ml, .ref mc, .ref mh, .ref mk, .ref mp, .ref mm, .ref mb, .ref mw, .ref mr, .ref mx, .ref me, .ref mP, .ref mQ, .ref ms, .int hs, .int (nI (sz_)), .ref mo, .ref mW, .ref mD, .ref mB, .ref mR, .ref mS])), (mt, .inl (cI, 56, .inl u.2))])) A) (cc := zc_N_small) (maxL := 6) (ret := none) (by decide) rfl (Nat.le_of_ble_eq_true rfl) ?_
  intro p e s m below meth c A ls F hA hdy hK hro hZ hN hl
  obtain ⟨hx, hb, hml, hr, hown, hlocks, hts, hnm⟩ := id F
  have hl : lv_has ls 6 [(0, .ref o), (1, .int (nI (w_))), (2, .long (kz_lz (((vn : Nat) : Int))))] := hl
  refine lv_iload_n hx hb zd_N_small_0 rfl (lv_at hl 1 rfl) ?_
  refine lv_if_lt (tgt := 10) hx hb zd_N_small_1 (by decide) (fun hc1 => ?_) (fun hc1 => ?_)
  · exact absurd hc1 (nI_pos (by omega))
  · refine lv_iload_n hx hb zd_N_small_4 rfl (lv_at hl 1 rfl) ?_
    refine lv_bipush (v := (nI (6))) hx hb zd_N_small_5 (by decide) ?_
    refine lv_icmp_le (tgt := 14) hx hb zd_N_small_7 (by decide) (fun hc7 => ?_) (fun hc7 => ?_)
    · have hc7 : w_ ≤ 6 := (nI_leI (by omega) (by omega)).mp hc7
      refine lv_iconst (v := (nI (0))) hx hb zd_N_small_14 (by decide) ?_
      refine lv_istore (lv' := [(4, .int (nI (0))), (0, .ref o), (1, .int (nI (w_))), (2, .long (kz_lz (((vn : Nat) : Int))))]) hx hb zd_N_small_15 hl (by decide) rfl (fun ls hl => ?_)
      refine lv_aload_n hx hb zd_N_small_17 rfl (lv_at hl 1 rfl) ?_
      refine lv_iload hx hb zd_N_small_18 (lv_at hl 0 rfl) ?_
      refine lv_lload_n hx hb zd_N_small_20 rfl (lv_at hl 3 rfl) ?_
      refine lv_lconst (v := 0) hx hb zd_N_small_21 (by decide) ?_
      refine lv_topl (fun yl1 h9 => ?_)
      obtain rfl : yl1 = kz_lz (0) := h9.trans (kz_lz_c0)
      refine kz_lge (tgt := 30) hx hb zd_N_small_22 zd_N_small_23 (by decide) (fun hc23 => ?_) (fun hc23 => ?_)
      · have hc23 : ¬ (((vn : Nat) : Int)) < 0 := fun h9 => hc23 ((kz_lz_lt (by omega) (by omega) (by omega) (by omega)).mpr h9)
        refine lv_iconst (v := (nI (0))) hx hb zd_N_small_30 (by decide) ?_
        refine kz_calli (wk := [(mt, .inl (cI, 56, .inl gmt))]) (va_runV (As := [.int (nI (0)), .int (nI (0))]) (rest := []) ⟨hx, hb, hml, hown, hts⟩ (c_M_refused0 l dC dI cI cAA cB cL o mt mn ml mc mh mk mp mm mb mw mr mx me mP mQ ms mo mW mD mB mR mS (th) (sta) (hs) sz_ _) (cwV 2 hts (kz_g (kz_mc mw_674 (kz_mc mw_676 (kz_mc mw_20 (kz_mc mw_43 kz_mn)))) mw_677) rfl rfl rfl (by decide +kernel) ⟨Nat.le_of_ble_eq_true rfl, Nat.le_of_ble_eq_true rfl⟩) (kz_preV hdy hA hK hro hZ hN [0] (by decide) rfl [] rfl (by decide) [0, 1, 2, 3] rfl (fun _ h => by cases h) (fun _ h => by cases h) rfl (ci := 4) (q0 := 0) rfl rfl rfl) rfl rfl hl.1 rfl (lv_room (Nat.le_of_ble_eq_true rfl)) zd_N_small_31 ⟨Nat.le_of_ble_eq_true rfl, Nat.le_of_ble_eq_true rfl⟩) hdy hA [0] [1] rfl rfl (by decide) (by decide) (fun r u H locs hw hdy => ?_)
        obtain ⟨x2, rfl⟩ : ∃ z, z = u := ⟨_, rfl⟩
        try dsimp only at hw
        obtain ⟨rfl, q3, -⟩ := hw
        have hdy : kz_dy (dC, dI) vwCl A s.heap H locs [(o, .inr (4, [.int x2, .int sta, .ref mt, .ref mn, .ref ml, .ref mc, .ref mh, .ref mk, .ref mp, .ref mm, .ref mb, .ref mw, .ref mr, .ref mx, .ref me, .ref mP, .ref mQ, .ref ms, .int hs, .int (nI (sz_)), .ref mo, .ref mW, .ref mD, .ref mB, .ref mR, .ref mS])), (mt, .inl (cI, 56, .inl gmt))] := hdy.sub [1, 0] (by decide) rfl
        refine lv_if_ne (tgt := 92) hx hb zd_N_small_34 (by decide) (fun hc34 => ?_) (fun hc34 => ?_)
        · exact absurd (by decide) hc34
        · refine lv_iconst (v := (nI (0))) hx hb zd_N_small_37 (by decide) ?_
          refine lv_istore (lv' := [(5, .int (nI (0))), (4, .int (nI (0))), (0, .ref o), (1, .int (nI (w_))), (2, .long (kz_lz (((vn : Nat) : Int))))]) hx hb zd_N_small_38 hl (by decide) rfl (fun ls hl => ?_)
          have lp40 : ∀ (n40 k40 : Nat) (f4 : Nat → Int32) (H : Heap) (locs : List Loc) (ls : Array Slot), k40 ≤ 8 → 8 - k40 < n40 → (∀ j, j < k40 → f4 (8 * w_ + j) = nI (kx_smallrow vn j)) → (∀ j, (j < 8 * w_ ∨ 8 * w_ + 8 ≤ j) → f4 j = gmt j) → kz_dy (dC, dI) vwCl A s.heap H locs [(o, .inr (4, [.int x2, .int sta, .ref mt, .ref mn, .ref ml, .ref mc, .ref mh, .ref mk, .ref mp, .ref mm, .ref mb, .ref mw, .ref mr, .ref mx, .ref me, .ref mP, .ref mQ, .ref ms, .int hs, .int (nI (sz_)), .ref mo, .ref mW, .ref mD, .ref mB, .ref mR, .ref mS])), (mt, .inl (cI, 56, .inl f4))] → lv_has ls 6 [(5, .int (nI (k40))), (4, .int (nI (0))), (0, .ref o), (1, .int (nI (w_))), (2, .long (kz_lz (((vn : Nat) : Int))))] → W p l e { frames := 1, cells := 0, slots := 0, locals := 22 } s m ([.ref o, .int (nI (w_)), .long (kz_lz (((vn : Nat) : Int)))] : List Value).toArray below meth c H locs 0 0 (MQ below (va_Qv (fun (u : Int32 × (Nat → Int32)) => (u.1 = nI 0) ∧ (∀ j, j < 8 → u.2 (8 * w_ + j) = nI (kx_smallrow vn j)) ∧ (∀ j, (j < 8 * w_ ∨ 8 * w_ + 8 ≤ j) → u.2 j = gmt j) ∧ True) (kz_B (dC, dI) vwCl A (fun u : Int32 × (Nat → Int32) => [(o, .inr (4, [.int u.1, .int sta, .ref mt, .ref mn, .ref ml, .ref mc, .ref mh, .ref mk, .ref mp, .ref mm, .ref mb, .ref mw, .ref mr, .ref mx, .ref me, .ref mP, .ref mQ, .ref ms, .int hs, .int (nI (sz_)), .ref mo, .ref mW, .ref mD, .ref mB, .ref mR, .ref mS])), (mt, .inl (cI, 56, .inl u.2))])) A) ([.ref o, .int (nI (w_)), .long (kz_lz (((vn : Nat) : Int)))] : List Value).toArray s 0 0 A) (F0 m 40 ls []) := by
            intro n40
            induction n40 with
            | zero => intro k40; intros; omega
            | succ n40 ih40 =>
              intro k40 f4 H locs ls hi40 hn40 hA1 hB1 hdy hl
              refine lv_iload hx hb zd_N_small_40 (lv_at hl 0 rfl) ?_
              refine lv_bipush (v := (nI (8))) hx hb zd_N_small_42 (by decide) ?_
              refine lv_icmp_ge (tgt := 92) hx hb zd_N_small_44 (by decide) (fun hc44 => ?_) (fun hc44 => ?_)
              · have hc44 : 8 ≤ k40 := (nI_leI (by omega) (by omega)).mp hc44
                exact kz_vret F (x2, f4) hdy (⟨by first | assumption | rfl | omega, by first | exact (fun j hj => hA1 j (by omega)) | (exfalso; omega), by first | exact hB1 | (exfalso; omega), trivial⟩) zd_N_small_92
              · have hc44 : ¬ 8 ≤ k40 := fun h9 => hc44 ((nI_leI (by omega) (by omega)).mpr h9)
                refine lv_aload_n hx hb zd_N_small_47 rfl (lv_at hl 2 rfl) ?_
                refine va_get (D := (dC, dI)) (ci := 4) (v := .ref mt) (C := zR_N) (T := zT_N) (N := 26) hx hb hts (fun w h => kz_c (zi_N w h)) hown hK hdy.1 0 rfl rfl 2 (by decide) (hts _ (kz_c mw_593)) (fun _ h9 => h9) rfl zd_N_small_48 ?_
                refine lv_bipush (v := (nI (8))) hx hb zd_N_small_51 (by decide) ?_
                refine lv_iload_n hx hb zd_N_small_53 rfl (lv_at hl 3 rfl) ?_
                refine kz_imul hx hb zd_N_small_54 (pk_mul _ _) ?_
                refine lv_iload hx hb zd_N_small_55 (lv_at hl 0 rfl) ?_
                refine kz_iadd hx hb zd_N_small_57 (nI_add _ _) ?_
                refine lv_iload hx hb zd_N_small_58 (lv_at hl 0 rfl) ?_
                refine lv_bipush (v := (nI (6))) hx hb zd_N_small_60 (by decide) ?_
                refine lv_icmp_ge (tgt := 69) hx hb zd_N_small_62 (by decide) (fun hc62 => ?_) (fun hc62 => ?_)
                · have hc62 : 6 ≤ k40 := (nI_leI (by omega) (by omega)).mp hc62
                  refine lv_iload hx hb zd_N_small_69 (lv_at hl 0 rfl) ?_
                  refine lv_bipush (v := (nI (6))) hx hb zd_N_small_71 (by decide) ?_
                  refine lv_icmp_ne (tgt := 83) hx hb zd_N_small_73 (by decide) (fun hc73 => ?_) (fun hc73 => ?_)
                  · have hc73 : ¬ k40 = 6 := fun h9 => hc73 ((kx_nIeq (by omega) (by omega)).mpr h9)
                    refine lv_lload_n hx hb zd_N_small_83 rfl (lv_at hl 4 rfl) ?_
                    refine lv_l2i hx hb zd_N_small_84 (kz_lz_i32 (((vn : Nat) : Int))) ?_
                    refine va_iast hx hb hK hdy.1 hdy.2.1 hdy.2.2 1 0 rfl rfl (vp_in_nI (by omega) (by omega)) zd_N_small_85 (fun H locs hP hD hS => ?_)
                    rw [nI_clamp (by omega)] at hP hD
                    obtain ⟨f5, ef5, hdy⟩ : ∃ f5 : Nat → Int32, f5 = upd f4 (8 * w_ + k40) ((nI (((((vn : Nat) : Int)) % 4294967296).toNat))) ∧ kz_dy (dC, dI) vwCl A s.heap H locs [(o, .inr (4, [.int x2, .int sta, .ref mt, .ref mn, .ref ml, .ref mc, .ref mh, .ref mk, .ref mp, .ref mm, .ref mb, .ref mw, .ref mr, .ref mx, .ref me, .ref mP, .ref mQ, .ref ms, .int hs, .int (nI (sz_)), .ref mo, .ref mW, .ref mD, .ref mB, .ref mR, .ref mS])), (mt, .inl (cI, 56, .inl f5))] := ⟨_, rfl, hP, hD, hS⟩
                    refine lv_iinc (v := (nI (k40 + 1))) (lv' := [(5, .int (nI (k40 + 1))), (4, .int (nI (0))), (0, .ref o), (1, .int (nI (w_))), (2, .long (kz_lz (((vn : Nat) : Int))))]) hx hb zd_N_small_86 hl (k := 0) rfl (nI_1 _) (by decide) rfl (fun ls hl => ?_)
                    refine lv_goto (tgt := 40) hx hb zd_N_small_89 (by decide) ?_
                    have hi9_hA16 : ∀ j, j < k40 + 1 → f5 (8 * w_ + j) = nI (kx_smallrow vn j) := by rw [ef5]; exact kz_fillw (F := fun j => nI (kx_smallrow vn j)) hA1 (by show _ = nI (kx_smallrow vn k40); first | exact kx_sr0 (by omega) | exact kx_sr6 (by omega) (by omega) | exact kx_sr7 (by omega) (by omega))
                    have hi9_hB17 : ∀ j, (j < 8 * w_ ∨ 8 * w_ + 8 ≤ j) → f5 j = gmt j := by rw [ef5]; exact kz_keepw (by omega) hB1
                    exact ih40 (k40 + 1) f5 _ _ _ (by omega) (by omega) hi9_hA16 hi9_hB17 hdy (lv_sub hl [0, 1, 2, 3, 4] rfl)
                  · have hc73 : k40 = 6 := (kx_nIeq (by omega) (by omega)).mp hc73
                    refine lv_lload_n hx hb zd_N_small_76 rfl (lv_at hl 4 rfl) ?_
                    refine lv_bipush (v := (nI (32))) hx hb zd_N_small_77 (by decide) ?_
                    refine lv_lshr hx hb zd_N_small_79 (kz_lz_shr32 (z := (((vn : Nat) : Int))) (by omega) (by omega)) ?_
                    refine lv_goto (tgt := 84) hx hb zd_N_small_80 (by decide) ?_
                    refine lv_l2i hx hb zd_N_small_84 (kz_lz_i32 ((((vn : Nat) : Int)) / 4294967296)) ?_
                    refine va_iast hx hb hK hdy.1 hdy.2.1 hdy.2.2 1 0 rfl rfl (vp_in_nI (by omega) (by omega)) zd_N_small_85 (fun H locs hP hD hS => ?_)
                    rw [nI_clamp (by omega)] at hP hD
                    obtain ⟨f8, ef8, hdy⟩ : ∃ f8 : Nat → Int32, f8 = upd f4 (8 * w_ + k40) ((nI ((((((vn : Nat) : Int)) / 4294967296) % 4294967296).toNat))) ∧ kz_dy (dC, dI) vwCl A s.heap H locs [(o, .inr (4, [.int x2, .int sta, .ref mt, .ref mn, .ref ml, .ref mc, .ref mh, .ref mk, .ref mp, .ref mm, .ref mb, .ref mw, .ref mr, .ref mx, .ref me, .ref mP, .ref mQ, .ref ms, .int hs, .int (nI (sz_)), .ref mo, .ref mW, .ref mD, .ref mB, .ref mR, .ref mS])), (mt, .inl (cI, 56, .inl f8))] := ⟨_, rfl, hP, hD, hS⟩
                    refine lv_iinc (v := (nI (k40 + 1))) (lv' := [(5, .int (nI (k40 + 1))), (4, .int (nI (0))), (0, .ref o), (1, .int (nI (w_))), (2, .long (kz_lz (((vn : Nat) : Int))))]) hx hb zd_N_small_86 hl (k := 0) rfl (nI_1 _) (by decide) rfl (fun ls hl => ?_)
                    refine lv_goto (tgt := 40) hx hb zd_N_small_89 (by decide) ?_
                    have hi9_hA19 : ∀ j, j < k40 + 1 → f8 (8 * w_ + j) = nI (kx_smallrow vn j) := by rw [ef8]; exact kz_fillw (F := fun j => nI (kx_smallrow vn j)) hA1 (by show _ = nI (kx_smallrow vn k40); first | exact kx_sr0 (by omega) | exact kx_sr6 (by omega) (by omega) | exact kx_sr7 (by omega) (by omega))
                    have hi9_hB110 : ∀ j, (j < 8 * w_ ∨ 8 * w_ + 8 ≤ j) → f8 j = gmt j := by rw [ef8]; exact kz_keepw (by omega) hB1
                    exact ih40 (k40 + 1) f8 _ _ _ (by omega) (by omega) hi9_hA19 hi9_hB110 hdy (lv_sub hl [0, 1, 2, 3, 4] rfl)
                · have hc62 : ¬ 6 ≤ k40 := fun h9 => hc62 ((nI_leI (by omega) (by omega)).mpr h9)
                  refine lv_iconst (v := (nI (0))) hx hb zd_N_small_65 (by decide) ?_
                  refine lv_goto (tgt := 85) hx hb zd_N_small_66 (by decide) ?_
                  refine va_iast hx hb hK hdy.1 hdy.2.1 hdy.2.2 1 0 rfl rfl (vp_in_nI (by omega) (by omega)) zd_N_small_85 (fun H locs hP hD hS => ?_)
                  rw [nI_clamp (by omega)] at hP hD
                  obtain ⟨f11, ef11, hdy⟩ : ∃ f11 : Nat → Int32, f11 = upd f4 (8 * w_ + k40) ((nI (0))) ∧ kz_dy (dC, dI) vwCl A s.heap H locs [(o, .inr (4, [.int x2, .int sta, .ref mt, .ref mn, .ref ml, .ref mc, .ref mh, .ref mk, .ref mp, .ref mm, .ref mb, .ref mw, .ref mr, .ref mx, .ref me, .ref mP, .ref mQ, .ref ms, .int hs, .int (nI (sz_)), .ref mo, .ref mW, .ref mD, .ref mB, .ref mR, .ref mS])), (mt, .inl (cI, 56, .inl f11))] := ⟨_, rfl, hP, hD, hS⟩
                  refine lv_iinc (v := (nI (k40 + 1))) (lv' := [(5, .int (nI (k40 + 1))), (4, .int (nI (0))), (0, .ref o), (1, .int (nI (w_))), (2, .long (kz_lz (((vn : Nat) : Int))))]) hx hb zd_N_small_86 hl (k := 0) rfl (nI_1 _) (by decide) rfl (fun ls hl => ?_)
                  refine lv_goto (tgt := 40) hx hb zd_N_small_89 (by decide) ?_
                  have hi9_hA112 : ∀ j, j < k40 + 1 → f11 (8 * w_ + j) = nI (kx_smallrow vn j) := by rw [ef11]; exact kz_fillw (F := fun j => nI (kx_smallrow vn j)) hA1 (by show _ = nI (kx_smallrow vn k40); first | exact kx_sr0 (by omega) | exact kx_sr6 (by omega) (by omega) | exact kx_sr7 (by omega) (by omega))
                  have hi9_hB113 : ∀ j, (j < 8 * w_ ∨ 8 * w_ + 8 ≤ j) → f11 j = gmt j := by rw [ef11]; exact kz_keepw (by omega) hB1
                  exact ih40 (k40 + 1) f11 _ _ _ (by omega) (by omega) hi9_hA112 hi9_hB113 hdy (lv_sub hl [0, 1, 2, 3, 4] rfl)
          have hi9_hA114 : ∀ j, j < 0 → gmt (8 * w_ + j) = nI (kx_smallrow vn j) := by intro j hj; omega
          have hi9_hB115 : ∀ j, (j < 8 * w_ ∨ 8 * w_ + 8 ≤ j) → gmt j = gmt j := by exact fun _ _ => rfl
          exact lp40 (8 - 0 + 1) 0 gmt _ _ _ (by omega) (by omega) hi9_hA114 hi9_hB115 hdy (lv_sub hl [0, 1, 2, 3, 4] rfl)
      · have hc23 : (((vn : Nat) : Int)) < 0 := (kz_lz_lt (by omega) (by omega) (by omega) (by omega)).mp hc23
        exfalso; omega
    · have hc7 : ¬ w_ ≤ 6 := fun h9 => hc7 ((nI_leI (by omega) (by omega)).mpr h9)
      refine lv_iconst (v := (nI (1))) hx hb zd_N_small_10 (by decide) ?_
      refine lv_goto (tgt := 15) hx hb zd_N_small_11 (by decide) ?_
      refine lv_istore (lv' := [(4, .int (nI (1))), (0, .ref o), (1, .int (nI (w_))), (2, .long (kz_lz (((vn : Nat) : Int))))]) hx hb zd_N_small_15 hl (by decide) rfl (fun ls hl => ?_)
      refine lv_aload_n hx hb zd_N_small_17 rfl (lv_at hl 1 rfl) ?_
      refine lv_iload hx hb zd_N_small_18 (lv_at hl 0 rfl) ?_
      refine lv_lload_n hx hb zd_N_small_20 rfl (lv_at hl 3 rfl) ?_
      refine lv_lconst (v := 0) hx hb zd_N_small_21 (by decide) ?_
      refine lv_topl (fun yl16 h9 => ?_)
      obtain rfl : yl16 = kz_lz (0) := h9.trans (kz_lz_c0)
      refine kz_lge (tgt := 30) hx hb zd_N_small_22 zd_N_small_23 (by decide) (fun hc23 => ?_) (fun hc23 => ?_)
      · have hc23 : ¬ (((vn : Nat) : Int)) < 0 := fun h9 => hc23 ((kz_lz_lt (by omega) (by omega) (by omega) (by omega)).mpr h9)
        refine lv_iconst (v := (nI (0))) hx hb zd_N_small_30 (by decide) ?_
        refine kz_calli (wk := [(mt, .inl (cI, 56, .inl gmt))]) (va_runV (As := [.int (nI (1)), .int (nI (0))]) (rest := []) ⟨hx, hb, hml, hown, hts⟩ (c_M_refused1 l dC dI cI cAA cB cL o mt mn ml mc mh mk mp mm mb mw mr mx me mP mQ ms mo mW mD mB mR mS (th) (sta) (hs) sz_ _) (cwV 2 hts (kz_g (kz_mc mw_674 (kz_mc mw_676 (kz_mc mw_20 (kz_mc mw_43 kz_mn)))) mw_677) rfl rfl rfl (by decide +kernel) ⟨Nat.le_of_ble_eq_true rfl, Nat.le_of_ble_eq_true rfl⟩) (kz_preV hdy hA hK hro hZ hN [0] (by decide) rfl [] rfl (by decide) [0, 1, 2, 3] rfl (fun _ h => by cases h) (fun _ h => by cases h) rfl (ci := 4) (q0 := 0) rfl rfl rfl) rfl rfl hl.1 rfl (lv_room (Nat.le_of_ble_eq_true rfl)) zd_N_small_31 ⟨Nat.le_of_ble_eq_true rfl, Nat.le_of_ble_eq_true rfl⟩) hdy hA [0] [1] rfl rfl (by decide) (by decide) (fun r u H locs hw hdy => ?_)
        obtain ⟨x17, rfl⟩ : ∃ z, z = u := ⟨_, rfl⟩
        try dsimp only at hw
        obtain ⟨rfl, q18, -⟩ := hw
        have hdy : kz_dy (dC, dI) vwCl A s.heap H locs [(o, .inr (4, [.int x17, .int sta, .ref mt, .ref mn, .ref ml, .ref mc, .ref mh, .ref mk, .ref mp, .ref mm, .ref mb, .ref mw, .ref mr, .ref mx, .ref me, .ref mP, .ref mQ, .ref ms, .int hs, .int (nI (sz_)), .ref mo, .ref mW, .ref mD, .ref mB, .ref mR, .ref mS])), (mt, .inl (cI, 56, .inl gmt))] := hdy.sub [1, 0] (by decide) rfl
        refine lv_if_ne (tgt := 92) hx hb zd_N_small_34 (by decide) (fun hc34 => ?_) (fun hc34 => ?_)
        · exact kz_vret F (x17, gmt) hdy (⟨by first | assumption | rfl | omega, by first | exact (fun j hj => hA1 j (by omega)) | (exfalso; omega), by first | exact hB1 | (exfalso; omega), trivial⟩) zd_N_small_92
        · exact absurd hc34 (by decide)
      · have hc23 : (((vn : Nat) : Int)) < 0 := (kz_lz_lt (by omega) (by omega) (by omega) (by omega)).mp hc23
        exfalso; omega

set_option maxHeartbeats 4000000 in
set_option maxRecDepth 100000 in
/-- KeyMeetingModel.small(IJ)V -/
theorem c_F_small2 (l : Launch) (dC : Nat → ClassId) (dI : Nat → Nat → Nat) (cI cAA cB cL : ClassId) (o mt mn ml mc mh mk mp mm mb mw mr mx me mP mQ ms mo mW mD mB mR mS : Nat) (th : Int32) (sta : Int32) (hs : Int32) (sz_ : Nat) (gmt : Nat → Int32) (w_ : Nat) (v : Int64) (sz : Nat) (hw_ : w_ < 7) (hv_ : v < 0) : Met l zy_N_small zw_N_small { frames := 1, cells := 0, slots := 0, locals := 22 } (kz_Pc (dC, dI) vwCl [(cI, .int), (cAA, .array .int), (cB, .byte), (cL, .long)] [] [] [.ref o, .int (nI (w_)), .long v] [(o, .inr (4, [.int th, .int sta, .ref mt, .ref mn, .ref ml, .ref mc, .ref mh, .ref mk, .ref mp, .ref mm, .ref mb, .ref mw, .ref mr, .ref mx, .ref me, .ref mP, .ref mQ, .ref ms, .int hs, .int (nI (sz_)), .ref mo, .ref mW, .ref mD, .ref mB, .ref mR, .ref mS]))] [(mt, .inl (cI, 56, .inl gmt))] sz) (va_Qv (fun (u : Int32) => (u = nI 2) ∧ True) (kz_B (dC, dI) vwCl (va_A [(o, .inr (4, [.int th, .int sta, .ref mt, .ref mn, .ref ml, .ref mc, .ref mh, .ref mk, .ref mp, .ref mm, .ref mb, .ref mw, .ref mr, .ref mx, .ref me, .ref mP, .ref mQ, .ref ms, .int hs, .int (nI (sz_)), .ref mo, .ref mW, .ref mD, .ref mB, .ref mR, .ref mS]))] sz) (fun u : Int32 => [(o, .inr (4, [.int u, .int sta, .ref mt, .ref mn, .ref ml, .ref mc, .ref mh, .ref mk, .ref mp, .ref mm, .ref mb, .ref mw, .ref mr, .ref mx, .ref me, .ref mP, .ref mQ, .ref ms, .int hs, .int (nI (sz_)), .ref mo, .ref mW, .ref mD, .ref mB, .ref mR, .ref mS]))])) (va_A [(o, .inr (4, [.int th, .int sta, .ref mt, .ref mn, .ref ml, .ref mc, .ref mh, .ref mk, .ref mp, .ref mm, .ref mb, .ref mw, .ref mr, .ref mx, .ref me, .ref mP, .ref mQ, .ref ms, .int hs, .int (nI (sz_)), .ref mo, .ref mW, .ref mD, .ref mB, .ref mR, .ref mS]))] sz)) 0 0 (va_A [(o, .inr (4, [.int th, .int sta, .ref mt, .ref mn, .ref ml, .ref mc, .ref mh, .ref mk, .ref mp, .ref mm, .ref mb, .ref mw, .ref mr, .ref mx, .ref me, .ref mP, .ref mQ, .ref ms, .int hs, .int (nI (sz_)), .ref mo, .ref mW, .ref mD, .ref mB, .ref mR, .ref mS]))] sz) := by
  refine kz_met (y := zy_N_small) (ws := zw_N_small) (av := [.ref o, .int (nI (w_)), .long v]) (sz := sz) (Qc := fun A => va_Qv (fun (u : Int32) => (u = nI 2) ∧ True) (kz_B (dC, dI) vwCl A (fun u : Int32 => [(o, .inr (4, [.int u, .int sta, .ref mt, .ref mn, .ref ml, .ref mc, .ref mh, .ref mk, .ref mp, .ref mm, .ref mb, .ref mw, .ref mr, .ref mx, .ref me, .ref mP, .ref mQ, .ref ms, .int hs, .int (nI (sz_)), .ref mo, .ref mW, .ref mD, .ref mB, .ref mR, .ref mS]))])) A) (cc := zc_N_small) (maxL := 6) (ret := none) (by decide) rfl (Nat.le_of_ble_eq_true rfl) ?_
  intro p e s m below meth c A ls F hA hdy hK hro hZ hN hl
  obtain ⟨hx, hb, hml, hr, hown, hlocks, hts, hnm⟩ := id F
  have hl : lv_has ls 6 [(0, .ref o), (1, .int (nI (w_))), (2, .long v)] := hl
  refine lv_iload_n hx hb zd_N_small_0 rfl (lv_at hl 1 rfl) ?_
  refine lv_if_lt (tgt := 10) hx hb zd_N_small_1 (by decide) (fun hc1 => ?_) (fun hc1 => ?_)
  · exact absurd hc1 (nI_pos (by omega))
  · refine lv_iload_n hx hb zd_N_small_4 rfl (lv_at hl 1 rfl) ?_
    refine lv_bipush (v := (nI (6))) hx hb zd_N_small_5 (by decide) ?_
    refine lv_icmp_le (tgt := 14) hx hb zd_N_small_7 (by decide) (fun hc7 => ?_) (fun hc7 => ?_)
    · have hc7 : w_ ≤ 6 := (nI_leI (by omega) (by omega)).mp hc7
      refine lv_iconst (v := (nI (0))) hx hb zd_N_small_14 (by decide) ?_
      refine lv_istore (lv' := [(4, .int (nI (0))), (0, .ref o), (1, .int (nI (w_))), (2, .long v)]) hx hb zd_N_small_15 hl (by decide) rfl (fun ls hl => ?_)
      refine lv_aload_n hx hb zd_N_small_17 rfl (lv_at hl 1 rfl) ?_
      refine lv_iload hx hb zd_N_small_18 (lv_at hl 0 rfl) ?_
      refine lv_lload_n hx hb zd_N_small_20 rfl (lv_at hl 3 rfl) ?_
      refine lv_lconst (v := 0) hx hb zd_N_small_21 (by decide) ?_
      refine lv_topl (fun yl1 h9 => ?_)
      obtain rfl : yl1 = kz_lz (0) := h9.trans (kz_lz_c0)
      refine kz_lge (tgt := 30) hx hb zd_N_small_22 zd_N_small_23 (by decide) (fun hc23 => ?_) (fun hc23 => ?_)
      · exact absurd hv_ hc23
      · refine lv_iconst (v := (nI (1))) hx hb zd_N_small_26 (by decide) ?_
        refine lv_goto (tgt := 31) hx hb zd_N_small_27 (by decide) ?_
        refine kz_calli (wk := []) (va_runV (As := [.int (nI (0)), .int (nI (1))]) (rest := []) ⟨hx, hb, hml, hown, hts⟩ (c_M_refused2 l dC dI cI cAA cB cL o mt mn ml mc mh mk mp mm mb mw mr mx me mP mQ ms mo mW mD mB mR mS (th) (sta) (hs) sz_ _) (cwV 2 hts (kz_g (kz_mc mw_674 (kz_mc mw_676 (kz_mc mw_20 (kz_mc mw_43 kz_mn)))) mw_677) rfl rfl rfl (by decide +kernel) ⟨Nat.le_of_ble_eq_true rfl, Nat.le_of_ble_eq_true rfl⟩) (kz_preV hdy hA hK hro hZ hN [0] (by decide) rfl [] rfl (by decide) [0, 1, 2, 3] rfl (fun _ h => by cases h) (fun _ h => by cases h) rfl (ci := 4) (q0 := 0) rfl rfl rfl) rfl rfl hl.1 rfl (lv_room (Nat.le_of_ble_eq_true rfl)) zd_N_small_31 ⟨Nat.le_of_ble_eq_true rfl, Nat.le_of_ble_eq_true rfl⟩) hdy hA [0] [] rfl rfl (by decide) (by decide) (fun r u H locs hw hdy => ?_)
        obtain ⟨x2, rfl⟩ : ∃ z, z = u := ⟨_, rfl⟩
        try dsimp only at hw
        obtain ⟨rfl, q3, -⟩ := hw
        have hdy : kz_dy (dC, dI) vwCl A s.heap H locs [(o, .inr (4, [.int x2, .int sta, .ref mt, .ref mn, .ref ml, .ref mc, .ref mh, .ref mk, .ref mp, .ref mm, .ref mb, .ref mw, .ref mr, .ref mx, .ref me, .ref mP, .ref mQ, .ref ms, .int hs, .int (nI (sz_)), .ref mo, .ref mW, .ref mD, .ref mB, .ref mR, .ref mS]))] := hdy.sub [0] (by decide) rfl
        refine lv_if_ne (tgt := 92) hx hb zd_N_small_34 (by decide) (fun hc34 => ?_) (fun hc34 => ?_)
        · exact kz_vret F (x2) hdy (⟨by first | assumption | rfl | omega, trivial⟩) zd_N_small_92
        · exact absurd hc34 (by decide)
    · have hc7 : ¬ w_ ≤ 6 := fun h9 => hc7 ((nI_leI (by omega) (by omega)).mpr h9)
      refine lv_iconst (v := (nI (1))) hx hb zd_N_small_10 (by decide) ?_
      refine lv_goto (tgt := 15) hx hb zd_N_small_11 (by decide) ?_
      refine lv_istore (lv' := [(4, .int (nI (1))), (0, .ref o), (1, .int (nI (w_))), (2, .long v)]) hx hb zd_N_small_15 hl (by decide) rfl (fun ls hl => ?_)
      refine lv_aload_n hx hb zd_N_small_17 rfl (lv_at hl 1 rfl) ?_
      refine lv_iload hx hb zd_N_small_18 (lv_at hl 0 rfl) ?_
      refine lv_lload_n hx hb zd_N_small_20 rfl (lv_at hl 3 rfl) ?_
      refine lv_lconst (v := 0) hx hb zd_N_small_21 (by decide) ?_
      refine lv_topl (fun yl4 h9 => ?_)
      obtain rfl : yl4 = kz_lz (0) := h9.trans (kz_lz_c0)
      refine kz_lge (tgt := 30) hx hb zd_N_small_22 zd_N_small_23 (by decide) (fun hc23 => ?_) (fun hc23 => ?_)
      · exact absurd hv_ hc23
      · refine lv_iconst (v := (nI (1))) hx hb zd_N_small_26 (by decide) ?_
        refine lv_goto (tgt := 31) hx hb zd_N_small_27 (by decide) ?_
        refine kz_calli (wk := []) (va_runV (As := [.int (nI (1)), .int (nI (1))]) (rest := []) ⟨hx, hb, hml, hown, hts⟩ (c_M_refused3 l dC dI cI cAA cB cL o mt mn ml mc mh mk mp mm mb mw mr mx me mP mQ ms mo mW mD mB mR mS (th) (sta) (hs) sz_ _) (cwV 2 hts (kz_g (kz_mc mw_674 (kz_mc mw_676 (kz_mc mw_20 (kz_mc mw_43 kz_mn)))) mw_677) rfl rfl rfl (by decide +kernel) ⟨Nat.le_of_ble_eq_true rfl, Nat.le_of_ble_eq_true rfl⟩) (kz_preV hdy hA hK hro hZ hN [0] (by decide) rfl [] rfl (by decide) [0, 1, 2, 3] rfl (fun _ h => by cases h) (fun _ h => by cases h) rfl (ci := 4) (q0 := 0) rfl rfl rfl) rfl rfl hl.1 rfl (lv_room (Nat.le_of_ble_eq_true rfl)) zd_N_small_31 ⟨Nat.le_of_ble_eq_true rfl, Nat.le_of_ble_eq_true rfl⟩) hdy hA [0] [] rfl rfl (by decide) (by decide) (fun r u H locs hw hdy => ?_)
        obtain ⟨x5, rfl⟩ : ∃ z, z = u := ⟨_, rfl⟩
        try dsimp only at hw
        obtain ⟨rfl, q6, -⟩ := hw
        have hdy : kz_dy (dC, dI) vwCl A s.heap H locs [(o, .inr (4, [.int x5, .int sta, .ref mt, .ref mn, .ref ml, .ref mc, .ref mh, .ref mk, .ref mp, .ref mm, .ref mb, .ref mw, .ref mr, .ref mx, .ref me, .ref mP, .ref mQ, .ref ms, .int hs, .int (nI (sz_)), .ref mo, .ref mW, .ref mD, .ref mB, .ref mR, .ref mS]))] := hdy.sub [0] (by decide) rfl
        refine lv_if_ne (tgt := 92) hx hb zd_N_small_34 (by decide) (fun hc34 => ?_) (fun hc34 => ?_)
        · exact kz_vret F (x5) hdy (⟨by first | assumption | rfl | omega, trivial⟩) zd_N_small_92
        · exact absurd hc34 (by decide)

set_option maxHeartbeats 4000000 in
set_option maxRecDepth 100000 in
/-- KeyMeetingModel.number(III)V -/
theorem c_R_number1 (l : Launch) (dC : Nat → ClassId) (dI : Nat → Nat → Nat) (cI cAA cB cL : ClassId) (o mt mn ml mc mh mk mp mm mb mw mr mx me mP mQ ms mo mW mD mB mR mS : Nat) (th : Int32) (sta : Int32) (hs : Int32) (sz_ : Nat) (gmt : Nat → Int32) (w_ : Int32) (i_ : Int32) (v : Int32) (sz : Nat) (hbad : w_ < 0 ∨ nI 6 < w_ ∨ i_ < 0 ∨ nI 7 < i_) : Met l zy_N_number zw_N_number { frames := 1, cells := 0, slots := 0, locals := 22 } (kz_Pc (dC, dI) vwCl [(cI, .int), (cAA, .array .int), (cB, .byte), (cL, .long)] [] [] [.ref o, .int w_, .int i_, .int v] [(o, .inr (4, [.int th, .int sta, .ref mt, .ref mn, .ref ml, .ref mc, .ref mh, .ref mk, .ref mp, .ref mm, .ref mb, .ref mw, .ref mr, .ref mx, .ref me, .ref mP, .ref mQ, .ref ms, .int hs, .int (nI (sz_)), .ref mo, .ref mW, .ref mD, .ref mB, .ref mR, .ref mS]))] [(mt, .inl (cI, 56, .inl gmt))] sz) (va_Qv (fun (u : Int32) => (u = nI 1) ∧ True) (kz_B (dC, dI) vwCl (va_A [(o, .inr (4, [.int th, .int sta, .ref mt, .ref mn, .ref ml, .ref mc, .ref mh, .ref mk, .ref mp, .ref mm, .ref mb, .ref mw, .ref mr, .ref mx, .ref me, .ref mP, .ref mQ, .ref ms, .int hs, .int (nI (sz_)), .ref mo, .ref mW, .ref mD, .ref mB, .ref mR, .ref mS]))] sz) (fun u : Int32 => [(o, .inr (4, [.int u, .int sta, .ref mt, .ref mn, .ref ml, .ref mc, .ref mh, .ref mk, .ref mp, .ref mm, .ref mb, .ref mw, .ref mr, .ref mx, .ref me, .ref mP, .ref mQ, .ref ms, .int hs, .int (nI (sz_)), .ref mo, .ref mW, .ref mD, .ref mB, .ref mR, .ref mS]))])) (va_A [(o, .inr (4, [.int th, .int sta, .ref mt, .ref mn, .ref ml, .ref mc, .ref mh, .ref mk, .ref mp, .ref mm, .ref mb, .ref mw, .ref mr, .ref mx, .ref me, .ref mP, .ref mQ, .ref ms, .int hs, .int (nI (sz_)), .ref mo, .ref mW, .ref mD, .ref mB, .ref mR, .ref mS]))] sz)) 0 0 (va_A [(o, .inr (4, [.int th, .int sta, .ref mt, .ref mn, .ref ml, .ref mc, .ref mh, .ref mk, .ref mp, .ref mm, .ref mb, .ref mw, .ref mr, .ref mx, .ref me, .ref mP, .ref mQ, .ref ms, .int hs, .int (nI (sz_)), .ref mo, .ref mW, .ref mD, .ref mB, .ref mR, .ref mS]))] sz) := by
  refine kz_met (y := zy_N_number) (ws := zw_N_number) (av := [.ref o, .int w_, .int i_, .int v]) (sz := sz) (Qc := fun A => va_Qv (fun (u : Int32) => (u = nI 1) ∧ True) (kz_B (dC, dI) vwCl A (fun u : Int32 => [(o, .inr (4, [.int u, .int sta, .ref mt, .ref mn, .ref ml, .ref mc, .ref mh, .ref mk, .ref mp, .ref mm, .ref mb, .ref mw, .ref mr, .ref mx, .ref me, .ref mP, .ref mQ, .ref ms, .int hs, .int (nI (sz_)), .ref mo, .ref mW, .ref mD, .ref mB, .ref mR, .ref mS]))])) A) (cc := zc_N_number) (maxL := 4) (ret := none) (by decide) rfl (Nat.le_of_ble_eq_true rfl) ?_
  intro p e s m below meth c A ls F hA hdy hK hro hZ hN hl
  obtain ⟨hx, hb, hml, hr, hown, hlocks, hts, hnm⟩ := id F
  have hl : lv_has ls 4 [(0, .ref o), (1, .int w_), (2, .int i_), (3, .int v)] := hl
  refine lv_aload_n hx hb zd_N_number_0 rfl (lv_at hl 0 rfl) ?_
  refine lv_iload_n hx hb zd_N_number_1 rfl (lv_at hl 1 rfl) ?_
  refine lv_if_lt (tgt := 21) hx hb zd_N_number_2 (by decide) (fun hc2 => ?_) (fun hc2 => ?_)
  · refine lv_iconst (v := (nI (1))) hx hb zd_N_number_21 (by decide) ?_
    refine lv_goto (tgt := 26) hx hb zd_N_number_22 (by decide) ?_
    refine lv_iconst (v := (nI (0))) hx hb zd_N_number_26 (by decide) ?_
    refine kz_calli (wk := []) (va_runV (As := [.int (nI (1)), .int (nI (0))]) (rest := []) ⟨hx, hb, hml, hown, hts⟩ (c_M_refused1 l dC dI cI cAA cB cL o mt mn ml mc mh mk mp mm mb mw mr mx me mP mQ ms mo mW mD mB mR mS (th) (sta) (hs) sz_ _) (cwV 2 hts (kz_g (kz_mc mw_674 (kz_mc mw_676 (kz_mc mw_20 (kz_mc mw_43 kz_mn)))) mw_677) rfl rfl rfl (by decide +kernel) ⟨Nat.le_of_ble_eq_true rfl, Nat.le_of_ble_eq_true rfl⟩) (kz_preV hdy hA hK hro hZ hN [0] (by decide) rfl [] rfl (by decide) [0, 1, 2, 3] rfl (fun _ h => by cases h) (fun _ h => by cases h) rfl (ci := 4) (q0 := 0) rfl rfl rfl) rfl rfl hl.1 rfl (lv_room (Nat.le_of_ble_eq_true rfl)) zd_N_number_27 ⟨Nat.le_of_ble_eq_true rfl, Nat.le_of_ble_eq_true rfl⟩) hdy hA [0] [] rfl rfl (by decide) (by decide) (fun r u H locs hw hdy => ?_)
    obtain ⟨x1, rfl⟩ : ∃ z, z = u := ⟨_, rfl⟩
    try dsimp only at hw
    obtain ⟨rfl, q2, -⟩ := hw
    have hdy : kz_dy (dC, dI) vwCl A s.heap H locs [(o, .inr (4, [.int x1, .int sta, .ref mt, .ref mn, .ref ml, .ref mc, .ref mh, .ref mk, .ref mp, .ref mm, .ref mb, .ref mw, .ref mr, .ref mx, .ref me, .ref mP, .ref mQ, .ref ms, .int hs, .int (nI (sz_)), .ref mo, .ref mW, .ref mD, .ref mB, .ref mR, .ref mS]))] := hdy.sub [0] (by decide) rfl
    refine lv_if_ne (tgt := 45) hx hb zd_N_number_30 (by decide) (fun hc30 => ?_) (fun hc30 => ?_)
    · exact kz_vret F (x1) hdy (⟨by first | assumption | rfl | omega, trivial⟩) zd_N_number_45
    · exact absurd hc30 (by decide)
  · refine lv_iload_n hx hb zd_N_number_5 rfl (lv_at hl 1 rfl) ?_
    refine lv_bipush (v := (nI (6))) hx hb zd_N_number_6 (by decide) ?_
    refine lv_icmp_gt (tgt := 21) hx hb zd_N_number_8 (by decide) (fun hc8 => ?_) (fun hc8 => ?_)
    · refine lv_iconst (v := (nI (1))) hx hb zd_N_number_21 (by decide) ?_
      refine lv_goto (tgt := 26) hx hb zd_N_number_22 (by decide) ?_
      refine lv_iconst (v := (nI (0))) hx hb zd_N_number_26 (by decide) ?_
      refine kz_calli (wk := []) (va_runV (As := [.int (nI (1)), .int (nI (0))]) (rest := []) ⟨hx, hb, hml, hown, hts⟩ (c_M_refused1 l dC dI cI cAA cB cL o mt mn ml mc mh mk mp mm mb mw mr mx me mP mQ ms mo mW mD mB mR mS (th) (sta) (hs) sz_ _) (cwV 2 hts (kz_g (kz_mc mw_674 (kz_mc mw_676 (kz_mc mw_20 (kz_mc mw_43 kz_mn)))) mw_677) rfl rfl rfl (by decide +kernel) ⟨Nat.le_of_ble_eq_true rfl, Nat.le_of_ble_eq_true rfl⟩) (kz_preV hdy hA hK hro hZ hN [0] (by decide) rfl [] rfl (by decide) [0, 1, 2, 3] rfl (fun _ h => by cases h) (fun _ h => by cases h) rfl (ci := 4) (q0 := 0) rfl rfl rfl) rfl rfl hl.1 rfl (lv_room (Nat.le_of_ble_eq_true rfl)) zd_N_number_27 ⟨Nat.le_of_ble_eq_true rfl, Nat.le_of_ble_eq_true rfl⟩) hdy hA [0] [] rfl rfl (by decide) (by decide) (fun r u H locs hw hdy => ?_)
      obtain ⟨x3, rfl⟩ : ∃ z, z = u := ⟨_, rfl⟩
      try dsimp only at hw
      obtain ⟨rfl, q4, -⟩ := hw
      have hdy : kz_dy (dC, dI) vwCl A s.heap H locs [(o, .inr (4, [.int x3, .int sta, .ref mt, .ref mn, .ref ml, .ref mc, .ref mh, .ref mk, .ref mp, .ref mm, .ref mb, .ref mw, .ref mr, .ref mx, .ref me, .ref mP, .ref mQ, .ref ms, .int hs, .int (nI (sz_)), .ref mo, .ref mW, .ref mD, .ref mB, .ref mR, .ref mS]))] := hdy.sub [0] (by decide) rfl
      refine lv_if_ne (tgt := 45) hx hb zd_N_number_30 (by decide) (fun hc30 => ?_) (fun hc30 => ?_)
      · exact kz_vret F (x3) hdy (⟨by first | assumption | rfl | omega, trivial⟩) zd_N_number_45
      · exact absurd hc30 (by decide)
    · refine lv_iload_n hx hb zd_N_number_11 rfl (lv_at hl 2 rfl) ?_
      refine lv_if_lt (tgt := 21) hx hb zd_N_number_12 (by decide) (fun hc12 => ?_) (fun hc12 => ?_)
      · refine lv_iconst (v := (nI (1))) hx hb zd_N_number_21 (by decide) ?_
        refine lv_goto (tgt := 26) hx hb zd_N_number_22 (by decide) ?_
        refine lv_iconst (v := (nI (0))) hx hb zd_N_number_26 (by decide) ?_
        refine kz_calli (wk := []) (va_runV (As := [.int (nI (1)), .int (nI (0))]) (rest := []) ⟨hx, hb, hml, hown, hts⟩ (c_M_refused1 l dC dI cI cAA cB cL o mt mn ml mc mh mk mp mm mb mw mr mx me mP mQ ms mo mW mD mB mR mS (th) (sta) (hs) sz_ _) (cwV 2 hts (kz_g (kz_mc mw_674 (kz_mc mw_676 (kz_mc mw_20 (kz_mc mw_43 kz_mn)))) mw_677) rfl rfl rfl (by decide +kernel) ⟨Nat.le_of_ble_eq_true rfl, Nat.le_of_ble_eq_true rfl⟩) (kz_preV hdy hA hK hro hZ hN [0] (by decide) rfl [] rfl (by decide) [0, 1, 2, 3] rfl (fun _ h => by cases h) (fun _ h => by cases h) rfl (ci := 4) (q0 := 0) rfl rfl rfl) rfl rfl hl.1 rfl (lv_room (Nat.le_of_ble_eq_true rfl)) zd_N_number_27 ⟨Nat.le_of_ble_eq_true rfl, Nat.le_of_ble_eq_true rfl⟩) hdy hA [0] [] rfl rfl (by decide) (by decide) (fun r u H locs hw hdy => ?_)
        obtain ⟨x5, rfl⟩ : ∃ z, z = u := ⟨_, rfl⟩
        try dsimp only at hw
        obtain ⟨rfl, q6, -⟩ := hw
        have hdy : kz_dy (dC, dI) vwCl A s.heap H locs [(o, .inr (4, [.int x5, .int sta, .ref mt, .ref mn, .ref ml, .ref mc, .ref mh, .ref mk, .ref mp, .ref mm, .ref mb, .ref mw, .ref mr, .ref mx, .ref me, .ref mP, .ref mQ, .ref ms, .int hs, .int (nI (sz_)), .ref mo, .ref mW, .ref mD, .ref mB, .ref mR, .ref mS]))] := hdy.sub [0] (by decide) rfl
        refine lv_if_ne (tgt := 45) hx hb zd_N_number_30 (by decide) (fun hc30 => ?_) (fun hc30 => ?_)
        · exact kz_vret F (x5) hdy (⟨by first | assumption | rfl | omega, trivial⟩) zd_N_number_45
        · exact absurd hc30 (by decide)
      · refine lv_iload_n hx hb zd_N_number_15 rfl (lv_at hl 2 rfl) ?_
        refine lv_bipush (v := (nI (7))) hx hb zd_N_number_16 (by decide) ?_
        refine lv_icmp_le (tgt := 25) hx hb zd_N_number_18 (by decide) (fun hc18 => ?_) (fun hc18 => ?_)
        · rcases hbad with h9 | h9 | h9 | h9 <;> first | contradiction | exact (kz_nle h9 (by assumption)).elim
        · refine lv_iconst (v := (nI (1))) hx hb zd_N_number_21 (by decide) ?_
          refine lv_goto (tgt := 26) hx hb zd_N_number_22 (by decide) ?_
          refine lv_iconst (v := (nI (0))) hx hb zd_N_number_26 (by decide) ?_
          refine kz_calli (wk := []) (va_runV (As := [.int (nI (1)), .int (nI (0))]) (rest := []) ⟨hx, hb, hml, hown, hts⟩ (c_M_refused1 l dC dI cI cAA cB cL o mt mn ml mc mh mk mp mm mb mw mr mx me mP mQ ms mo mW mD mB mR mS (th) (sta) (hs) sz_ _) (cwV 2 hts (kz_g (kz_mc mw_674 (kz_mc mw_676 (kz_mc mw_20 (kz_mc mw_43 kz_mn)))) mw_677) rfl rfl rfl (by decide +kernel) ⟨Nat.le_of_ble_eq_true rfl, Nat.le_of_ble_eq_true rfl⟩) (kz_preV hdy hA hK hro hZ hN [0] (by decide) rfl [] rfl (by decide) [0, 1, 2, 3] rfl (fun _ h => by cases h) (fun _ h => by cases h) rfl (ci := 4) (q0 := 0) rfl rfl rfl) rfl rfl hl.1 rfl (lv_room (Nat.le_of_ble_eq_true rfl)) zd_N_number_27 ⟨Nat.le_of_ble_eq_true rfl, Nat.le_of_ble_eq_true rfl⟩) hdy hA [0] [] rfl rfl (by decide) (by decide) (fun r u H locs hw hdy => ?_)
          obtain ⟨x7, rfl⟩ : ∃ z, z = u := ⟨_, rfl⟩
          try dsimp only at hw
          obtain ⟨rfl, q8, -⟩ := hw
          have hdy : kz_dy (dC, dI) vwCl A s.heap H locs [(o, .inr (4, [.int x7, .int sta, .ref mt, .ref mn, .ref ml, .ref mc, .ref mh, .ref mk, .ref mp, .ref mm, .ref mb, .ref mw, .ref mr, .ref mx, .ref me, .ref mP, .ref mQ, .ref ms, .int hs, .int (nI (sz_)), .ref mo, .ref mW, .ref mD, .ref mB, .ref mR, .ref mS]))] := hdy.sub [0] (by decide) rfl
          refine lv_if_ne (tgt := 45) hx hb zd_N_number_30 (by decide) (fun hc30 => ?_) (fun hc30 => ?_)
          · exact kz_vret F (x7) hdy (⟨by first | assumption | rfl | omega, trivial⟩) zd_N_number_45
          · exact absurd hc30 (by decide)

set_option maxHeartbeats 4000000 in
set_option maxRecDepth 100000 in
/-- KeyMeetingModel.small(IJ)V -/
theorem c_R_small1 (l : Launch) (dC : Nat → ClassId) (dI : Nat → Nat → Nat) (cI cAA cB cL : ClassId) (o mt mn ml mc mh mk mp mm mb mw mr mx me mP mQ ms mo mW mD mB mR mS : Nat) (th : Int32) (sta : Int32) (hs : Int32) (sz_ : Nat) (gmt : Nat → Int32) (w_ : Int32) (v : Int64) (sz : Nat) (hbad : w_ < 0 ∨ nI 6 < w_) : Met l zy_N_small zw_N_small { frames := 1, cells := 0, slots := 0, locals := 22 } (kz_Pc (dC, dI) vwCl [(cI, .int), (cAA, .array .int), (cB, .byte), (cL, .long)] [] [] [.ref o, .int w_, .long v] [(o, .inr (4, [.int th, .int sta, .ref mt, .ref mn, .ref ml, .ref mc, .ref mh, .ref mk, .ref mp, .ref mm, .ref mb, .ref mw, .ref mr, .ref mx, .ref me, .ref mP, .ref mQ, .ref ms, .int hs, .int (nI (sz_)), .ref mo, .ref mW, .ref mD, .ref mB, .ref mR, .ref mS]))] [(mt, .inl (cI, 56, .inl gmt))] sz) (va_Qv (fun (u : Int32) => (u = nI 1) ∧ True) (kz_B (dC, dI) vwCl (va_A [(o, .inr (4, [.int th, .int sta, .ref mt, .ref mn, .ref ml, .ref mc, .ref mh, .ref mk, .ref mp, .ref mm, .ref mb, .ref mw, .ref mr, .ref mx, .ref me, .ref mP, .ref mQ, .ref ms, .int hs, .int (nI (sz_)), .ref mo, .ref mW, .ref mD, .ref mB, .ref mR, .ref mS]))] sz) (fun u : Int32 => [(o, .inr (4, [.int u, .int sta, .ref mt, .ref mn, .ref ml, .ref mc, .ref mh, .ref mk, .ref mp, .ref mm, .ref mb, .ref mw, .ref mr, .ref mx, .ref me, .ref mP, .ref mQ, .ref ms, .int hs, .int (nI (sz_)), .ref mo, .ref mW, .ref mD, .ref mB, .ref mR, .ref mS]))])) (va_A [(o, .inr (4, [.int th, .int sta, .ref mt, .ref mn, .ref ml, .ref mc, .ref mh, .ref mk, .ref mp, .ref mm, .ref mb, .ref mw, .ref mr, .ref mx, .ref me, .ref mP, .ref mQ, .ref ms, .int hs, .int (nI (sz_)), .ref mo, .ref mW, .ref mD, .ref mB, .ref mR, .ref mS]))] sz)) 0 0 (va_A [(o, .inr (4, [.int th, .int sta, .ref mt, .ref mn, .ref ml, .ref mc, .ref mh, .ref mk, .ref mp, .ref mm, .ref mb, .ref mw, .ref mr, .ref mx, .ref me, .ref mP, .ref mQ, .ref ms, .int hs, .int (nI (sz_)), .ref mo, .ref mW, .ref mD, .ref mB, .ref mR, .ref mS]))] sz) := by
  refine kz_met (y := zy_N_small) (ws := zw_N_small) (av := [.ref o, .int w_, .long v]) (sz := sz) (Qc := fun A => va_Qv (fun (u : Int32) => (u = nI 1) ∧ True) (kz_B (dC, dI) vwCl A (fun u : Int32 => [(o, .inr (4, [.int u, .int sta, .ref mt, .ref mn, .ref ml, .ref mc, .ref mh, .ref mk, .ref mp, .ref mm, .ref mb, .ref mw, .ref mr, .ref mx, .ref me, .ref mP, .ref mQ, .ref ms, .int hs, .int (nI (sz_)), .ref mo, .ref mW, .ref mD, .ref mB, .ref mR, .ref mS]))])) A) (cc := zc_N_small) (maxL := 6) (ret := none) (by decide) rfl (Nat.le_of_ble_eq_true rfl) ?_
  intro p e s m below meth c A ls F hA hdy hK hro hZ hN hl
  obtain ⟨hx, hb, hml, hr, hown, hlocks, hts, hnm⟩ := id F
  have hl : lv_has ls 6 [(0, .ref o), (1, .int w_), (2, .long v)] := hl
  refine lv_iload_n hx hb zd_N_small_0 rfl (lv_at hl 1 rfl) ?_
  refine lv_if_lt (tgt := 10) hx hb zd_N_small_1 (by decide) (fun hc1 => ?_) (fun hc1 => ?_)
  · refine lv_iconst (v := (nI (1))) hx hb zd_N_small_10 (by decide) ?_
    refine lv_goto (tgt := 15) hx hb zd_N_small_11 (by decide) ?_
    refine lv_istore (lv' := [(4, .int (nI (1))), (0, .ref o), (1, .int w_), (2, .long v)]) hx hb zd_N_small_15 hl (by decide) rfl (fun ls hl => ?_)
    refine lv_aload_n hx hb zd_N_small_17 rfl (lv_at hl 1 rfl) ?_
    refine lv_iload hx hb zd_N_small_18 (lv_at hl 0 rfl) ?_
    refine lv_lload_n hx hb zd_N_small_20 rfl (lv_at hl 3 rfl) ?_
    refine lv_lconst (v := 0) hx hb zd_N_small_21 (by decide) ?_
    refine kz_lge (tgt := 30) hx hb zd_N_small_22 zd_N_small_23 (by decide) (fun hc23 => ?_) (fun hc23 => ?_)
    · refine lv_iconst (v := (nI (0))) hx hb zd_N_small_30 (by decide) ?_
      refine kz_calli (wk := []) (va_runV (As := [.int (nI (1)), .int (nI (0))]) (rest := []) ⟨hx, hb, hml, hown, hts⟩ (c_M_refused1 l dC dI cI cAA cB cL o mt mn ml mc mh mk mp mm mb mw mr mx me mP mQ ms mo mW mD mB mR mS (th) (sta) (hs) sz_ _) (cwV 2 hts (kz_g (kz_mc mw_674 (kz_mc mw_676 (kz_mc mw_20 (kz_mc mw_43 kz_mn)))) mw_677) rfl rfl rfl (by decide +kernel) ⟨Nat.le_of_ble_eq_true rfl, Nat.le_of_ble_eq_true rfl⟩) (kz_preV hdy hA hK hro hZ hN [0] (by decide) rfl [] rfl (by decide) [0, 1, 2, 3] rfl (fun _ h => by cases h) (fun _ h => by cases h) rfl (ci := 4) (q0 := 0) rfl rfl rfl) rfl rfl hl.1 rfl (lv_room (Nat.le_of_ble_eq_true rfl)) zd_N_small_31 ⟨Nat.le_of_ble_eq_true rfl, Nat.le_of_ble_eq_true rfl⟩) hdy hA [0] [] rfl rfl (by decide) (by decide) (fun r u H locs hw hdy => ?_)
      obtain ⟨x1, rfl⟩ : ∃ z, z = u := ⟨_, rfl⟩
      try dsimp only at hw
      obtain ⟨rfl, q2, -⟩ := hw
      have hdy : kz_dy (dC, dI) vwCl A s.heap H locs [(o, .inr (4, [.int x1, .int sta, .ref mt, .ref mn, .ref ml, .ref mc, .ref mh, .ref mk, .ref mp, .ref mm, .ref mb, .ref mw, .ref mr, .ref mx, .ref me, .ref mP, .ref mQ, .ref ms, .int hs, .int (nI (sz_)), .ref mo, .ref mW, .ref mD, .ref mB, .ref mR, .ref mS]))] := hdy.sub [0] (by decide) rfl
      refine lv_if_ne (tgt := 92) hx hb zd_N_small_34 (by decide) (fun hc34 => ?_) (fun hc34 => ?_)
      · exact kz_vret F (x1) hdy (⟨by first | assumption | rfl | omega, trivial⟩) zd_N_small_92
      · exact absurd hc34 (by decide)
    · refine lv_iconst (v := (nI (1))) hx hb zd_N_small_26 (by decide) ?_
      refine lv_goto (tgt := 31) hx hb zd_N_small_27 (by decide) ?_
      refine kz_calli (wk := []) (va_runV (As := [.int (nI (1)), .int (nI (1))]) (rest := []) ⟨hx, hb, hml, hown, hts⟩ (c_M_refused3 l dC dI cI cAA cB cL o mt mn ml mc mh mk mp mm mb mw mr mx me mP mQ ms mo mW mD mB mR mS (th) (sta) (hs) sz_ _) (cwV 2 hts (kz_g (kz_mc mw_674 (kz_mc mw_676 (kz_mc mw_20 (kz_mc mw_43 kz_mn)))) mw_677) rfl rfl rfl (by decide +kernel) ⟨Nat.le_of_ble_eq_true rfl, Nat.le_of_ble_eq_true rfl⟩) (kz_preV hdy hA hK hro hZ hN [0] (by decide) rfl [] rfl (by decide) [0, 1, 2, 3] rfl (fun _ h => by cases h) (fun _ h => by cases h) rfl (ci := 4) (q0 := 0) rfl rfl rfl) rfl rfl hl.1 rfl (lv_room (Nat.le_of_ble_eq_true rfl)) zd_N_small_31 ⟨Nat.le_of_ble_eq_true rfl, Nat.le_of_ble_eq_true rfl⟩) hdy hA [0] [] rfl rfl (by decide) (by decide) (fun r u H locs hw hdy => ?_)
      obtain ⟨x3, rfl⟩ : ∃ z, z = u := ⟨_, rfl⟩
      try dsimp only at hw
      obtain ⟨rfl, q4, -⟩ := hw
      have hdy : kz_dy (dC, dI) vwCl A s.heap H locs [(o, .inr (4, [.int x3, .int sta, .ref mt, .ref mn, .ref ml, .ref mc, .ref mh, .ref mk, .ref mp, .ref mm, .ref mb, .ref mw, .ref mr, .ref mx, .ref me, .ref mP, .ref mQ, .ref ms, .int hs, .int (nI (sz_)), .ref mo, .ref mW, .ref mD, .ref mB, .ref mR, .ref mS]))] := hdy.sub [0] (by decide) rfl
      refine lv_if_ne (tgt := 92) hx hb zd_N_small_34 (by decide) (fun hc34 => ?_) (fun hc34 => ?_)
      · exact kz_vret F (x3) hdy (⟨by first | assumption | rfl | omega, trivial⟩) zd_N_small_92
      · exact absurd hc34 (by decide)
  · refine lv_iload_n hx hb zd_N_small_4 rfl (lv_at hl 1 rfl) ?_
    refine lv_bipush (v := (nI (6))) hx hb zd_N_small_5 (by decide) ?_
    refine lv_icmp_le (tgt := 14) hx hb zd_N_small_7 (by decide) (fun hc7 => ?_) (fun hc7 => ?_)
    · rcases hbad with h9 | h9 <;> first | contradiction | exact (kz_nle h9 (by assumption)).elim
    · refine lv_iconst (v := (nI (1))) hx hb zd_N_small_10 (by decide) ?_
      refine lv_goto (tgt := 15) hx hb zd_N_small_11 (by decide) ?_
      refine lv_istore (lv' := [(4, .int (nI (1))), (0, .ref o), (1, .int w_), (2, .long v)]) hx hb zd_N_small_15 hl (by decide) rfl (fun ls hl => ?_)
      refine lv_aload_n hx hb zd_N_small_17 rfl (lv_at hl 1 rfl) ?_
      refine lv_iload hx hb zd_N_small_18 (lv_at hl 0 rfl) ?_
      refine lv_lload_n hx hb zd_N_small_20 rfl (lv_at hl 3 rfl) ?_
      refine lv_lconst (v := 0) hx hb zd_N_small_21 (by decide) ?_
      refine kz_lge (tgt := 30) hx hb zd_N_small_22 zd_N_small_23 (by decide) (fun hc23 => ?_) (fun hc23 => ?_)
      · refine lv_iconst (v := (nI (0))) hx hb zd_N_small_30 (by decide) ?_
        refine kz_calli (wk := []) (va_runV (As := [.int (nI (1)), .int (nI (0))]) (rest := []) ⟨hx, hb, hml, hown, hts⟩ (c_M_refused1 l dC dI cI cAA cB cL o mt mn ml mc mh mk mp mm mb mw mr mx me mP mQ ms mo mW mD mB mR mS (th) (sta) (hs) sz_ _) (cwV 2 hts (kz_g (kz_mc mw_674 (kz_mc mw_676 (kz_mc mw_20 (kz_mc mw_43 kz_mn)))) mw_677) rfl rfl rfl (by decide +kernel) ⟨Nat.le_of_ble_eq_true rfl, Nat.le_of_ble_eq_true rfl⟩) (kz_preV hdy hA hK hro hZ hN [0] (by decide) rfl [] rfl (by decide) [0, 1, 2, 3] rfl (fun _ h => by cases h) (fun _ h => by cases h) rfl (ci := 4) (q0 := 0) rfl rfl rfl) rfl rfl hl.1 rfl (lv_room (Nat.le_of_ble_eq_true rfl)) zd_N_small_31 ⟨Nat.le_of_ble_eq_true rfl, Nat.le_of_ble_eq_true rfl⟩) hdy hA [0] [] rfl rfl (by decide) (by decide) (fun r u H locs hw hdy => ?_)
        obtain ⟨x5, rfl⟩ : ∃ z, z = u := ⟨_, rfl⟩
        try dsimp only at hw
        obtain ⟨rfl, q6, -⟩ := hw
        have hdy : kz_dy (dC, dI) vwCl A s.heap H locs [(o, .inr (4, [.int x5, .int sta, .ref mt, .ref mn, .ref ml, .ref mc, .ref mh, .ref mk, .ref mp, .ref mm, .ref mb, .ref mw, .ref mr, .ref mx, .ref me, .ref mP, .ref mQ, .ref ms, .int hs, .int (nI (sz_)), .ref mo, .ref mW, .ref mD, .ref mB, .ref mR, .ref mS]))] := hdy.sub [0] (by decide) rfl
        refine lv_if_ne (tgt := 92) hx hb zd_N_small_34 (by decide) (fun hc34 => ?_) (fun hc34 => ?_)
        · exact kz_vret F (x5) hdy (⟨by first | assumption | rfl | omega, trivial⟩) zd_N_small_92
        · exact absurd hc34 (by decide)
      · refine lv_iconst (v := (nI (1))) hx hb zd_N_small_26 (by decide) ?_
        refine lv_goto (tgt := 31) hx hb zd_N_small_27 (by decide) ?_
        refine kz_calli (wk := []) (va_runV (As := [.int (nI (1)), .int (nI (1))]) (rest := []) ⟨hx, hb, hml, hown, hts⟩ (c_M_refused3 l dC dI cI cAA cB cL o mt mn ml mc mh mk mp mm mb mw mr mx me mP mQ ms mo mW mD mB mR mS (th) (sta) (hs) sz_ _) (cwV 2 hts (kz_g (kz_mc mw_674 (kz_mc mw_676 (kz_mc mw_20 (kz_mc mw_43 kz_mn)))) mw_677) rfl rfl rfl (by decide +kernel) ⟨Nat.le_of_ble_eq_true rfl, Nat.le_of_ble_eq_true rfl⟩) (kz_preV hdy hA hK hro hZ hN [0] (by decide) rfl [] rfl (by decide) [0, 1, 2, 3] rfl (fun _ h => by cases h) (fun _ h => by cases h) rfl (ci := 4) (q0 := 0) rfl rfl rfl) rfl rfl hl.1 rfl (lv_room (Nat.le_of_ble_eq_true rfl)) zd_N_small_31 ⟨Nat.le_of_ble_eq_true rfl, Nat.le_of_ble_eq_true rfl⟩) hdy hA [0] [] rfl rfl (by decide) (by decide) (fun r u H locs hw hdy => ?_)
        obtain ⟨x7, rfl⟩ : ∃ z, z = u := ⟨_, rfl⟩
        try dsimp only at hw
        obtain ⟨rfl, q8, -⟩ := hw
        have hdy : kz_dy (dC, dI) vwCl A s.heap H locs [(o, .inr (4, [.int x7, .int sta, .ref mt, .ref mn, .ref ml, .ref mc, .ref mh, .ref mk, .ref mp, .ref mm, .ref mb, .ref mw, .ref mr, .ref mx, .ref me, .ref mP, .ref mQ, .ref ms, .int hs, .int (nI (sz_)), .ref mo, .ref mW, .ref mD, .ref mB, .ref mR, .ref mS]))] := hdy.sub [0] (by decide) rfl
        refine lv_if_ne (tgt := 92) hx hb zd_N_small_34 (by decide) (fun hc34 => ?_) (fun hc34 => ?_)
        · exact kz_vret F (x7) hdy (⟨by first | assumption | rfl | omega, trivial⟩) zd_N_small_92
        · exact absurd hc34 (by decide)

