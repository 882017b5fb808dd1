set_option maxHeartbeats 4000000 in
set_option maxRecDepth 100000 in
/-- KeyMeetingModel.isGood()Z -/
theorem c_U_isGood (l : Launch) (dC : Nat → ClassId) (dI : Nat → Nat → Nat) (cI cAA cB cL : ClassId) (o mt mn ml mc mh mk mp mm mb mw mr mx me mP mQ ms mo mW mD mB mR mS : Nat) (th : Int32) (sta : Int32) (hs : Int32) (sz_ : Nat) (gmp : Nat → Nat) (gmb : Nat → Nat) (gmP : Nat → Nat) (gmQ : Nat → Nat) (gms : Nat → Int32) (gmx : Nat → Nat) (gme : Nat → Nat) (gmt : Nat → Int32) (sz : Nat) (hd_gmp : ∀ j, gmp j < 65536) (hd_gmb : ∀ j, gmb j < 65536) (hd_gmP : ∀ j, gmP j < 65536) (hd_gmQ : ∀ j, gmQ j < 65536) (hd_gmx : ∀ j, gmx j < 65536) (hd_gme : ∀ j, gme j < 65536) : Met l zy_N_isGood zw_N_isGood { frames := 2, cells := 0, slots := 0, locals := 54 } (kz_Pc (dC, dI) vwCl [(cI, .int), (cAA, .array .int), (cB, .byte), (cL, .long)] [] [] [.ref o] [(o, .inr (4, [.int th, .int sta, .ref mt, .ref mn, .ref ml, .ref mc, .ref mh, .ref mk, .ref mp, .ref mm, .ref mb, .ref mw, .ref mr, .ref mx, .ref me, .ref mP, .ref mQ, .ref ms, .int hs, .int (nI (sz_)), .ref mo, .ref mW, .ref mD, .ref mB, .ref mR, .ref mS])), (mp, .inl (cI, 16, .inl (kz_dg gmp))), (mb, .inl (cI, 16, .inl (kz_dg gmb))), (mP, .inl (cI, 16, .inl (kz_dg gmP))), (mQ, .inl (cI, 16, .inl (kz_dg gmQ))), (ms, .inl (cI, 18, .inl gms)), (mx, .inl (cI, 32, .inl (kz_dg gmx))), (me, .inl (cI, 18, .inl (kz_dg gme)))] [(mt, .inl (cI, 56, .inl gmt))] sz) (va_Qi (fun (r : Int32) (u : Int32 × (Nat → Nat) × (Nat → Nat) × (Nat → Nat) × (Nat → Nat) × (Nat → Int32) × (Nat → Nat) × (Nat → Nat)) => (∀ j, u.2.1 j < 65536) ∧ (∀ j, u.2.2.1 j < 65536) ∧ (∀ j, u.2.2.2.1 j < 65536) ∧ (∀ j, u.2.2.2.2.1 j < 65536) ∧ (∀ j, u.2.2.2.2.2.2.1 j < 65536) ∧ (∀ j, u.2.2.2.2.2.2.2 j < 65536) ∧ (r = 0 ∨ r = 1) ∧ (r = 0 ∨ (kv_some u.2.1 0 16 ∧ kv_some (kv_fig gmt 16) 0 8 ∧ kv_some (kv_fig gmt 24) 0 8)) ∧ True) (kz_B (dC, dI) vwCl (va_A [(o, .inr (4, [.int th, .int sta, .ref mt, .ref mn, .ref ml, .ref mc, .ref mh, .ref mk, .ref mp, .ref mm, .ref mb, .ref mw, .ref mr, .ref mx, .ref me, .ref mP, .ref mQ, .ref ms, .int hs, .int (nI (sz_)), .ref mo, .ref mW, .ref mD, .ref mB, .ref mR, .ref mS])), (mp, .inl (cI, 16, .inl (kz_dg gmp))), (mb, .inl (cI, 16, .inl (kz_dg gmb))), (mP, .inl (cI, 16, .inl (kz_dg gmP))), (mQ, .inl (cI, 16, .inl (kz_dg gmQ))), (ms, .inl (cI, 18, .inl gms)), (mx, .inl (cI, 32, .inl (kz_dg gmx))), (me, .inl (cI, 18, .inl (kz_dg gme)))] sz) (fun u : Int32 × (Nat → Nat) × (Nat → Nat) × (Nat → Nat) × (Nat → Nat) × (Nat → Int32) × (Nat → Nat) × (Nat → Nat) => [(o, .inr (4, [.int th, .int sta, .ref mt, .ref mn, .ref ml, .ref mc, .ref mh, .ref mk, .ref mp, .ref mm, .ref mb, .ref mw, .ref mr, .ref mx, .ref me, .ref mP, .ref mQ, .ref ms, .int u.1, .int (nI (sz_)), .ref mo, .ref mW, .ref mD, .ref mB, .ref mR, .ref mS])), (mp, .inl (cI, 16, .inl (kz_dg u.2.1))), (mb, .inl (cI, 16, .inl (kz_dg u.2.2.1))), (mP, .inl (cI, 16, .inl (kz_dg u.2.2.2.1))), (mQ, .inl (cI, 16, .inl (kz_dg u.2.2.2.2.1))), (ms, .inl (cI, 18, .inl u.2.2.2.2.2.1)), (mx, .inl (cI, 32, .inl (kz_dg u.2.2.2.2.2.2.1))), (me, .inl (cI, 18, .inl (kz_dg u.2.2.2.2.2.2.2)))])) (va_A [(o, .inr (4, [.int th, .int sta, .ref mt, .ref mn, .ref ml, .ref mc, .ref mh, .ref mk, .ref mp, .ref mm, .ref mb, .ref mw, .ref mr, .ref mx, .ref me, .ref mP, .ref mQ, .ref ms, .int hs, .int (nI (sz_)), .ref mo, .ref mW, .ref mD, .ref mB, .ref mR, .ref mS])), (mp, .inl (cI, 16, .inl (kz_dg gmp))), (mb, .inl (cI, 16, .inl (kz_dg gmb))), (mP, .inl (cI, 16, .inl (kz_dg gmP))), (mQ, .inl (cI, 16, .inl (kz_dg gmQ))), (ms, .inl (cI, 18, .inl gms)), (mx, .inl (cI, 32, .inl (kz_dg gmx))), (me, .inl (cI, 18, .inl (kz_dg gme)))] sz)) 0 0 (va_A [(o, .inr (4, [.int th, .int sta, .ref mt, .ref mn, .ref ml, .ref mc, .ref mh, .ref mk, .ref mp, .ref mm, .ref mb, .ref mw, .ref mr, .ref mx, .ref me, .ref mP, .ref mQ, .ref ms, .int hs, .int (nI (sz_)), .ref mo, .ref mW, .ref mD, .ref mB, .ref mR, .ref mS])), (mp, .inl (cI, 16, .inl (kz_dg gmp))), (mb, .inl (cI, 16, .inl (kz_dg gmb))), (mP, .inl (cI, 16, .inl (kz_dg gmP))), (mQ, .inl (cI, 16, .inl (kz_dg gmQ))), (ms, .inl (cI, 18, .inl gms)), (mx, .inl (cI, 32, .inl (kz_dg gmx))), (me, .inl (cI, 18, .inl (kz_dg gme)))] sz) := by
  refine kz_met (y := zy_N_isGood) (ws := zw_N_isGood) (av := [.ref o]) (sz := sz) (Qc := fun A => va_Qi (fun (r : Int32) (u : Int32 × (Nat → Nat) × (Nat → Nat) × (Nat → Nat) × (Nat → Nat) × (Nat → Int32) × (Nat → Nat) × (Nat → Nat)) => (∀ j, u.2.1 j < 65536) ∧ (∀ j, u.2.2.1 j < 65536) ∧ (∀ j, u.2.2.2.1 j < 65536) ∧ (∀ j, u.2.2.2.2.1 j < 65536) ∧ (∀ j, u.2.2.2.2.2.2.1 j < 65536) ∧ (∀ j, u.2.2.2.2.2.2.2 j < 65536) ∧ (r = 0 ∨ r = 1) ∧ (r = 0 ∨ (kv_some u.2.1 0 16 ∧ kv_some (kv_fig gmt 16) 0 8 ∧ kv_some (kv_fig gmt 24) 0 8)) ∧ True) (kz_B (dC, dI) vwCl A (fun u : Int32 × (Nat → Nat) × (Nat → Nat) × (Nat → Nat) × (Nat → Nat) × (Nat → Int32) × (Nat → Nat) × (Nat → Nat) => [(o, .inr (4, [.int th, .int sta, .ref mt, .ref mn, .ref ml, .ref mc, .ref mh, .ref mk, .ref mp, .ref mm, .ref mb, .ref mw, .ref mr, .ref mx, .ref me, .ref mP, .ref mQ, .ref ms, .int u.1, .int (nI (sz_)), .ref mo, .ref mW, .ref mD, .ref mB, .ref mR, .ref mS])), (mp, .inl (cI, 16, .inl (kz_dg u.2.1))), (mb, .inl (cI, 16, .inl (kz_dg u.2.2.1))), (mP, .inl (cI, 16, .inl (kz_dg u.2.2.2.1))), (mQ, .inl (cI, 16, .inl (kz_dg u.2.2.2.2.1))), (ms, .inl (cI, 18, .inl u.2.2.2.2.2.1)), (mx, .inl (cI, 32, .inl (kz_dg u.2.2.2.2.2.2.1))), (me, .inl (cI, 18, .inl (kz_dg u.2.2.2.2.2.2.2)))])) A) (cc := zc_N_isGood) (maxL := 3) (ret := some .boolean) (by decide) rfl (Nat.le_of_ble_eq_true rfl) ?_
  intro p e s m below meth c A ls F hA hdy hK hro hZ hN hl
  obtain ⟨hx, hb, hml, hr, hown, hlocks, hts, hnm⟩ := id F
  have hl : lv_has ls 3 [(0, .ref o)] := hl
  refine lv_aload_n hx hb zd_N_isGood_0 rfl (lv_at hl 0 rfl) ?_
  refine va_get (D := (dC, dI)) (ci := 4) (v := .ref mt) (C := zR_N) (T := zT_N) (N := 26) hx hb hts (fun w h => kz_c (zi_N w h)) hown hK hdy.1 0 rfl rfl 2 (by decide) (hts _ (kz_c mw_593)) (fun _ h9 => h9) rfl zd_N_isGood_1 ?_
  refine lv_iconst (v := (nI (0))) hx hb zd_N_isGood_4 (by decide) ?_
  refine lv_aload_n hx hb zd_N_isGood_5 rfl (lv_at hl 0 rfl) ?_
  refine va_get (D := (dC, dI)) (ci := 4) (v := .ref mp) (C := zR_N) (T := zT_N) (N := 26) hx hb hts (fun w h => kz_c (zi_N w h)) hown hK hdy.1 0 rfl rfl 8 (by decide) (hts _ (kz_c mw_599)) (fun _ h9 => h9) rfl zd_N_isGood_6 ?_
  refine kz_callv (wk := [(o, .inr (4, [.int th, .int sta, .ref mt, .ref mn, .ref ml, .ref mc, .ref mh, .ref mk, .ref mp, .ref mm, .ref mb, .ref mw, .ref mr, .ref mx, .ref me, .ref mP, .ref mQ, .ref ms, .int hs, .int (nI (sz_)), .ref mo, .ref mW, .ref mD, .ref mB, .ref mR, .ref mS])), (mb, .inl (cI, 16, .inl (kz_dg gmb))), (mP, .inl (cI, 16, .inl (kz_dg gmP))), (mQ, .inl (cI, 16, .inl (kz_dg gmQ))), (ms, .inl (cI, 18, .inl gms)), (mx, .inl (cI, 32, .inl (kz_dg gmx))), (me, .inl (cI, 18, .inl (kz_dg gme)))]) (va_runS (As := [.ref mt, .int (nI (0)), .ref mp]) (rest := []) ⟨hx, hb, hml, hown, hts⟩ (c_X_figures56 l dC dI cI cAA cB cL mp mt gmp gmt 0 _ hd_gmp (by first | omega | assumption)) (va_cwS 3 hts (kz_g (kz_mc mw_690 (kz_mc mw_691 (kz_mc mw_43 kz_mn))) mw_692) rfl rfl rfl (by decide +kernel) ⟨Nat.le_of_ble_eq_true rfl, Nat.le_of_ble_eq_true rfl⟩) (kz_preS hdy hA hK hro hZ hN [1] (by decide) rfl [(true, 0)] rfl (by decide) [0, 1, 2, 3] rfl (fun _ h => by cases h) (fun _ h => by cases h) rfl) rfl rfl hl.1 rfl (lv_room (Nat.le_of_ble_eq_true rfl)) zd_N_isGood_9 ⟨Nat.le_of_ble_eq_true rfl, Nat.le_of_ble_eq_true rfl⟩) hdy hA [1] [0, 2, 3, 4, 5, 6, 7] rfl rfl (by decide) (by decide) (fun u H locs hw hdy => ?_)
  obtain ⟨d1, rfl⟩ : ∃ z, z = u := ⟨_, rfl⟩
  try dsimp only at hw
  obtain ⟨hd_d1, q2, -⟩ := hw
  have hdy : kz_dy (dC, dI) vwCl A s.heap H locs [(o, .inr (4, [.int th, .int sta, .ref mt, .ref mn, .ref ml, .ref mc, .ref mh, .ref mk, .ref mp, .ref mm, .ref mb, .ref mw, .ref mr, .ref mx, .ref me, .ref mP, .ref mQ, .ref ms, .int hs, .int (nI (sz_)), .ref mo, .ref mW, .ref mD, .ref mB, .ref mR, .ref mS])), (mp, .inl (cI, 16, .inl (kz_dg d1))), (mb, .inl (cI, 16, .inl (kz_dg gmb))), (mP, .inl (cI, 16, .inl (kz_dg gmP))), (mQ, .inl (cI, 16, .inl (kz_dg gmQ))), (ms, .inl (cI, 18, .inl gms)), (mx, .inl (cI, 32, .inl (kz_dg gmx))), (me, .inl (cI, 18, .inl (kz_dg gme)))] := hdy.sub [0, 7, 1, 2, 3, 4, 5, 6] (by decide) rfl
  refine lv_aload_n hx hb zd_N_isGood_12 rfl (lv_at hl 0 rfl) ?_
  refine va_get (D := (dC, dI)) (ci := 4) (v := .ref mt) (C := zR_N) (T := zT_N) (N := 26) hx hb hts (fun w h => kz_c (zi_N w h)) hown hK hdy.1 0 rfl rfl 2 (by decide) (hts _ (kz_c mw_593)) (fun _ h9 => h9) rfl zd_N_isGood_13 ?_
  refine lv_bipush (v := (nI (8))) hx hb zd_N_isGood_16 (by decide) ?_
  refine lv_aload_n hx hb zd_N_isGood_18 rfl (lv_at hl 0 rfl) ?_
  refine va_get (D := (dC, dI)) (ci := 4) (v := .ref mb) (C := zR_N) (T := zT_N) (N := 26) hx hb hts (fun w h => kz_c (zi_N w h)) hown hK hdy.1 0 rfl rfl 10 (by decide) (hts _ (kz_c mw_601)) (fun _ h9 => h9) rfl zd_N_isGood_19 ?_
  refine kz_callv (wk := [(o, .inr (4, [.int th, .int sta, .ref mt, .ref mn, .ref ml, .ref mc, .ref mh, .ref mk, .ref mp, .ref mm, .ref mb, .ref mw, .ref mr, .ref mx, .ref me, .ref mP, .ref mQ, .ref ms, .int hs, .int (nI (sz_)), .ref mo, .ref mW, .ref mD, .ref mB, .ref mR, .ref mS])), (mp, .inl (cI, 16, .inl (kz_dg d1))), (mP, .inl (cI, 16, .inl (kz_dg gmP))), (mQ, .inl (cI, 16, .inl (kz_dg gmQ))), (ms, .inl (cI, 18, .inl gms)), (mx, .inl (cI, 32, .inl (kz_dg gmx))), (me, .inl (cI, 18, .inl (kz_dg gme)))]) (va_runS (As := [.ref mt, .int (nI (8)), .ref mb]) (rest := []) ⟨hx, hb, hml, hown, hts⟩ (c_X_figures56 l dC dI cI cAA cB cL mb mt gmb gmt 8 _ hd_gmb (by first | omega | assumption)) (va_cwS 3 hts (kz_g (kz_mc mw_690 (kz_mc mw_691 (kz_mc mw_43 kz_mn))) mw_692) rfl rfl rfl (by decide +kernel) ⟨Nat.le_of_ble_eq_true rfl, Nat.le_of_ble_eq_true rfl⟩) (kz_preS hdy hA hK hro hZ hN [2] (by decide) rfl [(true, 0)] rfl (by decide) [0, 1, 2, 3] rfl (fun _ h => by cases h) (fun _ h => by cases h) rfl) rfl rfl hl.1 rfl (lv_room (Nat.le_of_ble_eq_true rfl)) zd_N_isGood_22 ⟨Nat.le_of_ble_eq_true rfl, Nat.le_of_ble_eq_true rfl⟩) hdy hA [2] [0, 1, 3, 4, 5, 6, 7] rfl rfl (by decide) (by decide) (fun u H locs hw hdy => ?_)
  obtain ⟨d3, rfl⟩ : ∃ z, z = u := ⟨_, rfl⟩
  try dsimp only at hw
  obtain ⟨hd_d3, q4, -⟩ := hw
  have hdy : kz_dy (dC, dI) vwCl A s.heap H locs [(o, .inr (4, [.int th, .int sta, .ref mt, .ref mn, .ref ml, .ref mc, .ref mh, .ref mk, .ref mp, .ref mm, .ref mb, .ref mw, .ref mr, .ref mx, .ref me, .ref mP, .ref mQ, .ref ms, .int hs, .int (nI (sz_)), .ref mo, .ref mW, .ref mD, .ref mB, .ref mR, .ref mS])), (mp, .inl (cI, 16, .inl (kz_dg d1))), (mb, .inl (cI, 16, .inl (kz_dg d3))), (mP, .inl (cI, 16, .inl (kz_dg gmP))), (mQ, .inl (cI, 16, .inl (kz_dg gmQ))), (ms, .inl (cI, 18, .inl gms)), (mx, .inl (cI, 32, .inl (kz_dg gmx))), (me, .inl (cI, 18, .inl (kz_dg gme)))] := hdy.sub [0, 1, 7, 2, 3, 4, 5, 6] (by decide) rfl
  refine lv_aload_n hx hb zd_N_isGood_25 rfl (lv_at hl 0 rfl) ?_
  refine kz_callv (wk := [(mp, .inl (cI, 16, .inl (kz_dg d1))), (mb, .inl (cI, 16, .inl (kz_dg d3))), (me, .inl (cI, 18, .inl (kz_dg gme)))]) (va_runV (As := []) (rest := []) ⟨hx, hb, hml, hown, hts⟩ (c_V_find l dC dI cI cAA cB cL o mt mn ml mc mh mk mp mm mb mw mr mx me mP mQ ms mo mW mD mB mR mS (th) (sta) (hs) sz_ gmP gmQ gms gmx gmt _ hd_gmP hd_gmQ hd_gmx) (cwV 0 hts (kz_g (kz_mc mw_694 (kz_mc mw_696 (kz_mc mw_22 (kz_mc mw_43 kz_mn)))) mw_697) rfl rfl rfl (by decide +kernel) ⟨Nat.le_of_ble_eq_true rfl, Nat.le_of_ble_eq_true rfl⟩) (kz_preV hdy hA hK hro hZ hN [0, 3, 4, 5, 6] (by decide) rfl [(true, 0)] rfl (by decide) [0, 1, 2, 3] rfl (fun _ h => by cases h) (fun _ h => by cases h) rfl (ci := 4) (q0 := 0) rfl rfl rfl) rfl rfl hl.1 rfl (lv_room (Nat.le_of_ble_eq_true rfl)) zd_N_isGood_26 ⟨Nat.le_of_ble_eq_true rfl, Nat.le_of_ble_eq_true rfl⟩) hdy hA [0, 3, 4, 5, 6] [1, 2, 7] rfl rfl (by decide) (by decide) (fun u H locs hw hdy => ?_)
  obtain ⟨x5, d6, d7, f8, d9⟩ := u
  try dsimp only at hw
  obtain ⟨hd_d6, hd_d7, hd_d9, q10, -⟩ := hw
  have hdy : kz_dy (dC, dI) vwCl A s.heap H locs [(o, .inr (4, [.int th, .int sta, .ref mt, .ref mn, .ref ml, .ref mc, .ref mh, .ref mk, .ref mp, .ref mm, .ref mb, .ref mw, .ref mr, .ref mx, .ref me, .ref mP, .ref mQ, .ref ms, .int x5, .int (nI (sz_)), .ref mo, .ref mW, .ref mD, .ref mB, .ref mR, .ref mS])), (mp, .inl (cI, 16, .inl (kz_dg d1))), (mb, .inl (cI, 16, .inl (kz_dg d3))), (mP, .inl (cI, 16, .inl (kz_dg d6))), (mQ, .inl (cI, 16, .inl (kz_dg d7))), (ms, .inl (cI, 18, .inl f8)), (mx, .inl (cI, 32, .inl (kz_dg d9))), (me, .inl (cI, 18, .inl (kz_dg gme)))] := hdy.sub [3, 0, 1, 4, 5, 6, 7, 2] (by decide) rfl
  have hfs := q10
  refine lv_aload_n hx hb zd_N_isGood_29 rfl (lv_at hl 0 rfl) ?_
  refine va_get (D := (dC, dI)) (ci := 4) (v := .ref mp) (C := zR_N) (T := zT_N) (N := 26) hx hb hts (fun w h => kz_c (zi_N w h)) hown hK hdy.1 0 rfl rfl 8 (by decide) (hts _ (kz_c mw_599)) (fun _ h9 => h9) rfl zd_N_isGood_30 ?_
  refine lv_iconst (v := (nI (0))) hx hb zd_N_isGood_33 (by decide) ?_
  refine va_iald hx hb hK hdy.1 1 0 rfl rfl (vp_in_nI (by omega) (by omega)) zd_N_isGood_34 ?_
  refine lv_topi (fun x11 h9 => ?_)
  obtain rfl : x11 = nI (d1 0) := h9.trans (kz_dgl d1 (by omega))
  have hbx11 := hd_d1 0
  refine lv_iconst (v := (nI (4))) hx hb zd_N_isGood_35 (by decide) ?_
  refine lv_icmp_le (tgt := 43) hx hb zd_N_isGood_36 (by decide) (fun hc36 => ?_) (fun hc36 => ?_)
  · have hc36 : (d1 0) ≤ 4 := (nI_leI (by omega) (by omega)).mp hc36
    refine lv_iconst (v := (nI (0))) hx hb zd_N_isGood_43 (by decide) ?_
    refine lv_istore_n (lv' := [(1, .int (nI (0))), (0, .ref o)]) hx hb zd_N_isGood_44 rfl hl (by decide) rfl (fun ls hl => ?_)
    refine lv_iconst (v := (nI (1))) hx hb zd_N_isGood_45 (by decide) ?_
    refine lv_istore_n (lv' := [(2, .int (nI (1))), (1, .int (nI (0))), (0, .ref o)]) hx hb zd_N_isGood_46 rfl hl (by decide) rfl (fun ls hl => ?_)
    have lp47 : ∀ (n47 k47 : Nat) (c12 : Nat) (H : Heap) (locs : List Loc) (ls : Array Slot), k47 ≤ 16 → 16 - k47 < n47 → 1 ≤ k47 → (c12 ≤ 1) → (kv_flag (c12) (kv_some d1 0 16)) → kz_dy (dC, dI) vwCl A s.heap H locs [(o, .inr (4, [.int th, .int sta, .ref mt, .ref mn, .ref ml, .ref mc, .ref mh, .ref mk, .ref mp, .ref mm, .ref mb, .ref mw, .ref mr, .ref mx, .ref me, .ref mP, .ref mQ, .ref ms, .int x5, .int (nI (sz_)), .ref mo, .ref mW, .ref mD, .ref mB, .ref mR, .ref mS])), (mp, .inl (cI, 16, .inl (kz_dg d1))), (mb, .inl (cI, 16, .inl (kz_dg d3))), (mP, .inl (cI, 16, .inl (kz_dg d6))), (mQ, .inl (cI, 16, .inl (kz_dg d7))), (ms, .inl (cI, 18, .inl f8)), (mx, .inl (cI, 32, .inl (kz_dg d9))), (me, .inl (cI, 18, .inl (kz_dg gme)))] → lv_has ls 3 [(2, .int (nI (k47))), (1, .int (nI (c12))), (0, .ref o)] → W p l e { frames := 2, cells := 0, slots := 0, locals := 54 } s m ([.ref o] : List Value).toArray below meth c H locs 0 0 (MQ below (va_Qi (fun (r : Int32) (u : Int32 × (Nat → Nat) × (Nat → Nat) × (Nat → Nat) × (Nat → Nat) × (Nat → Int32) × (Nat → Nat) × (Nat → Nat)) => (∀ j, u.2.1 j < 65536) ∧ (∀ j, u.2.2.1 j < 65536) ∧ (∀ j, u.2.2.2.1 j < 65536) ∧ (∀ j, u.2.2.2.2.1 j < 65536) ∧ (∀ j, u.2.2.2.2.2.2.1 j < 65536) ∧ (∀ j, u.2.2.2.2.2.2.2 j < 65536) ∧ (r = 0 ∨ r = 1) ∧ (r = 0 ∨ (kv_some u.2.1 0 16 ∧ kv_some (kv_fig gmt 16) 0 8 ∧ kv_some (kv_fig gmt 24) 0 8)) ∧ True) (kz_B (dC, dI) vwCl A (fun u : Int32 × (Nat → Nat) × (Nat → Nat) × (Nat → Nat) × (Nat → Nat) × (Nat → Int32) × (Nat → Nat) × (Nat → Nat) => [(o, .inr (4, [.int th, .int sta, .ref mt, .ref mn, .ref ml, .ref mc, .ref mh, .ref mk, .ref mp, .ref mm, .ref mb, .ref mw, .ref mr, .ref mx, .ref me, .ref mP, .ref mQ, .ref ms, .int u.1, .int (nI (sz_)), .ref mo, .ref mW, .ref mD, .ref mB, .ref mR, .ref mS])), (mp, .inl (cI, 16, .inl (kz_dg u.2.1))), (mb, .inl (cI, 16, .inl (kz_dg u.2.2.1))), (mP, .inl (cI, 16, .inl (kz_dg u.2.2.2.1))), (mQ, .inl (cI, 16, .inl (kz_dg u.2.2.2.2.1))), (ms, .inl (cI, 18, .inl u.2.2.2.2.2.1)), (mx, .inl (cI, 32, .inl (kz_dg u.2.2.2.2.2.2.1))), (me, .inl (cI, 18, .inl (kz_dg u.2.2.2.2.2.2.2)))])) A) ([.ref o] : List Value).toArray s 0 0 A) (F0 m 47 ls []) := by
      intro n47
      induction n47 with
      | zero => intro k47; intros; omega
      | succ n47 ih47 =>
        intro k47 c12 H locs ls hi47 hn47 hblow hg1 hgr hdy hl
        refine lv_iload_n hx hb zd_N_isGood_47 rfl (lv_at hl 0 rfl) ?_
        refine lv_bipush (v := (nI (16))) hx hb zd_N_isGood_48 (by decide) ?_
        refine lv_icmp_ge (tgt := 78) hx hb zd_N_isGood_50 (by decide) (fun hc50 => ?_) (fun hc50 => ?_)
        · have hc50 : 16 ≤ k47 := (nI_leI (by omega) (by omega)).mp hc50
          refine lv_iload_n hx hb zd_N_isGood_78 rfl (lv_at hl 1 rfl) ?_
          refine lv_if_eq (tgt := 106) hx hb zd_N_isGood_79 (by decide) (fun hc79 => ?_) (fun hc79 => ?_)
          · have hc79 : c12 = 0 := (nI_eq (by omega) (by omega)).mp (by rw [nI_0]; exact hc79)
            refine lv_iconst (v := (nI (0))) hx hb zd_N_isGood_106 (by decide) ?_
            exact kz_zret F (x5, d1, d3, d6, d7, f8, d9, gme) hdy (by first | exact Or.inl rfl | exact Or.inr rfl | assumption) (⟨hd_d1, hd_d3, hd_d6, hd_d7, hd_d9, hd_gme, by first | exact Or.inl rfl | exact Or.inr rfl | assumption, by first | exact Or.inl rfl | exact Or.inr ⟨kv_flag_of hgr (by omega), hfs.resolve_left hc86⟩, trivial⟩) zd_N_isGood_107
          · have hc79 : ¬ c12 = 0 := fun h9 => hc79 (by have h8 := (nI_eq (by omega) (by omega)).mpr h9; rw [nI_0] at h8; exact h8)
            refine lv_aload_n hx hb zd_N_isGood_82 rfl (lv_at hl 2 rfl) ?_
            refine va_get (D := (dC, dI)) (ci := 4) (v := .int x5) (C := zR_N) (T := zT_N) (N := 26) hx hb hts (fun w h => kz_c (zi_N w h)) hown hK hdy.1 0 rfl rfl 18 (by decide) (hts _ (kz_c mw_609)) (fun _ h9 => h9) rfl zd_N_isGood_83 ?_
            refine lv_if_eq (tgt := 106) hx hb zd_N_isGood_86 (by decide) (fun hc86 => ?_) (fun hc86 => ?_)
            · refine lv_iconst (v := (nI (0))) hx hb zd_N_isGood_106 (by decide) ?_
              exact kz_zret F (x5, d1, d3, d6, d7, f8, d9, gme) hdy (by first | exact Or.inl rfl | exact Or.inr rfl | assumption) (⟨hd_d1, hd_d3, hd_d6, hd_d7, hd_d9, hd_gme, by first | exact Or.inl rfl | exact Or.inr rfl | assumption, by first | exact Or.inl rfl | exact Or.inr ⟨kv_flag_of hgr (by omega), hfs.resolve_left hc86⟩, trivial⟩) zd_N_isGood_107
            · refine lv_aload_n hx hb zd_N_isGood_89 rfl (lv_at hl 2 rfl) ?_
              refine lv_aload_n hx hb zd_N_isGood_90 rfl (lv_at hl 2 rfl) ?_
              refine va_get (D := (dC, dI)) (ci := 4) (v := .ref mb) (C := zR_N) (T := zT_N) (N := 26) hx hb hts (fun w h => kz_c (zi_N w h)) hown hK hdy.1 0 rfl rfl 10 (by decide) (hts _ (kz_c mw_601)) (fun _ h9 => h9) rfl zd_N_isGood_91 ?_
              refine lv_iconst (v := (nI (2))) hx hb zd_N_isGood_94 (by decide) ?_
              refine lv_iconst (v := (nI (2))) hx hb zd_N_isGood_95 (by decide) ?_
              refine kz_calli (wk := [(o, .inr (4, [.int th, .int sta, .ref mt, .ref mn, .ref ml, .ref mc, .ref mh, .ref mk, .ref mp, .ref mm, .ref mb, .ref mw, .ref mr, .ref mx, .ref me, .ref mP, .ref mQ, .ref ms, .int x5, .int (nI (sz_)), .ref mo, .ref mW, .ref mD, .ref mB, .ref mR, .ref mS])), (mp, .inl (cI, 16, .inl (kz_dg d1))), (mb, .inl (cI, 16, .inl (kz_dg d3))), (mP, .inl (cI, 16, .inl (kz_dg d6))), (mQ, .inl (cI, 16, .inl (kz_dg d7))), (ms, .inl (cI, 18, .inl f8)), (mx, .inl (cI, 32, .inl (kz_dg d9)))]) (va_runV (As := [.ref mb, .int (nI (2)), .int (nI (2))]) (rest := []) ⟨hx, hb, hml, hown, hts⟩ (c_V_isWithin l dC dI cI cAA cB cL me o mt mn ml mc mh mk mp mm mb mw mr mx mP mQ ms mo mW mD mB mR mS mb gme (th) (sta) (x5) sz_ d3 d1 _ hd_gme hd_d3 hd_d1) (cwV 3 hts (kz_g (kz_mc mw_711 (kz_mc mw_713 (kz_mc mw_24 (kz_mc mw_43 kz_mn)))) mw_714) rfl rfl rfl (by decide +kernel) ⟨Nat.le_of_ble_eq_true rfl, Nat.le_of_ble_eq_true rfl⟩) (kz_preV hdy hA hK hro hZ hN [7] (by decide) rfl [(false, 0), (false, 2), (false, 1)] rfl (by decide) [0, 1, 2, 3] rfl (fun _ h => by cases h) (fun _ h => by cases h) rfl (ci := 4) (q0 := 0) rfl rfl rfl) rfl rfl hl.1 rfl (lv_room (Nat.le_of_ble_eq_true rfl)) zd_N_isGood_96 ⟨Nat.le_of_ble_eq_true rfl, Nat.le_of_ble_eq_true rfl⟩) hdy hA [7] [0, 1, 2, 3, 4, 5, 6] rfl rfl (by decide) (by decide) (fun r u H locs hw hdy => ?_)
              obtain ⟨r14, rfl⟩ : ∃ z, z = r := ⟨_, rfl⟩
              obtain ⟨d13, rfl⟩ : ∃ z, z = u := ⟨_, rfl⟩
              try dsimp only at hw
              obtain ⟨hd_d13, hzr14, -⟩ := hw
              have hdy : kz_dy (dC, dI) vwCl A s.heap H locs [(o, .inr (4, [.int th, .int sta, .ref mt, .ref mn, .ref ml, .ref mc, .ref mh, .ref mk, .ref mp, .ref mm, .ref mb, .ref mw, .ref mr, .ref mx, .ref me, .ref mP, .ref mQ, .ref ms, .int x5, .int (nI (sz_)), .ref mo, .ref mW, .ref mD, .ref mB, .ref mR, .ref mS])), (mp, .inl (cI, 16, .inl (kz_dg d1))), (mb, .inl (cI, 16, .inl (kz_dg d3))), (mP, .inl (cI, 16, .inl (kz_dg d6))), (mQ, .inl (cI, 16, .inl (kz_dg d7))), (ms, .inl (cI, 18, .inl f8)), (mx, .inl (cI, 32, .inl (kz_dg d9))), (me, .inl (cI, 18, .inl (kz_dg d13)))] := hdy.sub [0, 1, 2, 3, 4, 5, 6, 7] (by decide) rfl
              refine lv_if_eq (tgt := 106) hx hb zd_N_isGood_99 (by decide) (fun hc99 => ?_) (fun hc99 => ?_)
              · refine lv_iconst (v := (nI (0))) hx hb zd_N_isGood_106 (by decide) ?_
                exact kz_zret F (x5, d1, d3, d6, d7, f8, d9, d13) hdy (by first | exact Or.inl rfl | exact Or.inr rfl | assumption) (⟨hd_d1, hd_d3, hd_d6, hd_d7, hd_d9, hd_d13, by first | exact Or.inl rfl | exact Or.inr rfl | assumption, by first | exact Or.inl rfl | exact Or.inr ⟨kv_flag_of hgr (by omega), hfs.resolve_left hc86⟩, trivial⟩) zd_N_isGood_107
              · refine lv_iconst (v := (nI (1))) hx hb zd_N_isGood_102 (by decide) ?_
                refine lv_goto (tgt := 107) hx hb zd_N_isGood_103 (by decide) ?_
                exact kz_zret F (x5, d1, d3, d6, d7, f8, d9, d13) hdy (by first | exact Or.inl rfl | exact Or.inr rfl | assumption) (⟨hd_d1, hd_d3, hd_d6, hd_d7, hd_d9, hd_d13, by first | exact Or.inl rfl | exact Or.inr rfl | assumption, by first | exact Or.inl rfl | exact Or.inr ⟨kv_flag_of hgr (by omega), hfs.resolve_left hc86⟩, trivial⟩) zd_N_isGood_107
        · have hc50 : ¬ 16 ≤ k47 := fun h9 => hc50 ((nI_leI (by omega) (by omega)).mpr h9)
          refine lv_iload_n hx hb zd_N_isGood_53 rfl (lv_at hl 1 rfl) ?_
          refine lv_if_ne (tgt := 66) hx hb zd_N_isGood_54 (by decide) (fun hc54 => ?_) (fun hc54 => ?_)
          · have hc54 : ¬ c12 = 0 := fun h9 => hc54 (by have h8 := (nI_eq (by omega) (by omega)).mpr h9; rw [nI_0] at h8; exact h8)
            refine lv_iconst (v := (nI (1))) hx hb zd_N_isGood_66 (by decide) ?_
            refine lv_goto (tgt := 71) hx hb zd_N_isGood_67 (by decide) ?_
            refine lv_istore_n (lv' := [(1, .int (nI (1))), (2, .int (nI (k47))), (0, .ref o)]) hx hb zd_N_isGood_71 rfl hl (by decide) rfl (fun ls hl => ?_)
            refine lv_iinc (v := (nI (k47 + 1))) (lv' := [(2, .int (nI (k47 + 1))), (1, .int (nI (1))), (0, .ref o)]) hx hb zd_N_isGood_72 hl (k := 1) rfl (nI_1 _) (by decide) rfl (fun ls hl => ?_)
            refine lv_goto (tgt := 47) hx hb zd_N_isGood_75 (by decide) ?_
            have hi9_hg115 : 1 ≤ 1 := by omega
            have hi9_hgr16 : kv_flag (1) (kv_some d1 0 16) := by first | exact hgr | exact Or.inl rfl | exact Or.inr (kv_flag_of hgr (by omega)) | exact Or.inr ⟨k47, by omega, by omega, by omega⟩
            exact ih47 (k47 + 1) (1) _ _ _ (by omega) (by omega) (by omega) hi9_hg115 hi9_hgr16 hdy (lv_sub hl [0, 1, 2] rfl)
          · have hc54 : c12 = 0 := (nI_eq (by omega) (by omega)).mp (by rw [nI_0]; exact hc54)
            refine lv_aload_n hx hb zd_N_isGood_57 rfl (lv_at hl 2 rfl) ?_
            refine va_get (D := (dC, dI)) (ci := 4) (v := .ref mp) (C := zR_N) (T := zT_N) (N := 26) hx hb hts (fun w h => kz_c (zi_N w h)) hown hK hdy.1 0 rfl rfl 8 (by decide) (hts _ (kz_c mw_599)) (fun _ h9 => h9) rfl zd_N_isGood_58 ?_
            refine lv_iload_n hx hb zd_N_isGood_61 rfl (lv_at hl 0 rfl) ?_
            refine va_iald hx hb hK hdy.1 1 0 rfl rfl (vp_in_nI (by omega) (by omega)) zd_N_isGood_62 ?_
            refine lv_topi (fun x17 h9 => ?_)
            obtain rfl : x17 = nI (d1 k47) := h9.trans (kz_dgl d1 (by omega))
            have hbx17 := hd_d1 k47
            refine lv_if_le (tgt := 70) hx hb zd_N_isGood_63 (by decide) (fun hc63 => ?_) (fun hc63 => ?_)
            · have hc63 : (d1 k47) ≤ 0 := (nI_leI (by omega) (by omega)).mp (by rw [nI_0]; exact hc63)
              refine lv_iconst (v := (nI (0))) hx hb zd_N_isGood_70 (by decide) ?_
              refine lv_istore_n (lv' := [(1, .int (nI (0))), (2, .int (nI (k47))), (0, .ref o)]) hx hb zd_N_isGood_71 rfl hl (by decide) rfl (fun ls hl => ?_)
              refine lv_iinc (v := (nI (k47 + 1))) (lv' := [(2, .int (nI (k47 + 1))), (1, .int (nI (0))), (0, .ref o)]) hx hb zd_N_isGood_72 hl (k := 1) rfl (nI_1 _) (by decide) rfl (fun ls hl => ?_)
              refine lv_goto (tgt := 47) hx hb zd_N_isGood_75 (by decide) ?_
              have hi9_hg118 : 0 ≤ 1 := by omega
              have hi9_hgr19 : kv_flag (0) (kv_some d1 0 16) := by first | exact hgr | exact Or.inl rfl | exact Or.inr (kv_flag_of hgr (by omega)) | exact Or.inr ⟨k47, by omega, by omega, by omega⟩
              exact ih47 (k47 + 1) (0) _ _ _ (by omega) (by omega) (by omega) hi9_hg118 hi9_hgr19 hdy (lv_sub hl [0, 1, 2] rfl)
            · have hc63 : ¬ (d1 k47) ≤ 0 := fun h9 => hc63 (by have h8 := (nI_leI (by omega) (by omega)).mpr h9; rw [nI_0] at h8; exact h8)
              refine lv_iconst (v := (nI (1))) hx hb zd_N_isGood_66 (by decide) ?_
              refine lv_goto (tgt := 71) hx hb zd_N_isGood_67 (by decide) ?_
              refine lv_istore_n (lv' := [(1, .int (nI (1))), (2, .int (nI (k47))), (0, .ref o)]) hx hb zd_N_isGood_71 rfl hl (by decide) rfl (fun ls hl => ?_)
              refine lv_iinc (v := (nI (k47 + 1))) (lv' := [(2, .int (nI (k47 + 1))), (1, .int (nI (1))), (0, .ref o)]) hx hb zd_N_isGood_72 hl (k := 1) rfl (nI_1 _) (by decide) rfl (fun ls hl => ?_)
              refine lv_goto (tgt := 47) hx hb zd_N_isGood_75 (by decide) ?_
              have hi9_hg120 : 1 ≤ 1 := by omega
              have hi9_hgr21 : kv_flag (1) (kv_some d1 0 16) := by first | exact hgr | exact Or.inl rfl | exact Or.inr (kv_flag_of hgr (by omega)) | exact Or.inr ⟨k47, by omega, by omega, by omega⟩
              exact ih47 (k47 + 1) (1) _ _ _ (by omega) (by omega) (by omega) hi9_hg120 hi9_hgr21 hdy (lv_sub hl [0, 1, 2] rfl)
    have hi9_hg122 : 0 ≤ 1 := by omega
    have hi9_hgr23 : kv_flag (0) (kv_some d1 0 16) := by first | exact Or.inl rfl | exact Or.inr ⟨0, by omega, by omega, by omega⟩
    exact lp47 (16 - 1 + 1) 1 (0) _ _ _ (by omega) (by omega) (by omega) hi9_hg122 hi9_hgr23 hdy (lv_sub hl [0, 1, 2] rfl)
  · have hc36 : ¬ (d1 0) ≤ 4 := fun h9 => hc36 ((nI_leI (by omega) (by omega)).mpr h9)
    refine lv_iconst (v := (nI (1))) hx hb zd_N_isGood_39 (by decide) ?_
    refine lv_goto (tgt := 44) hx hb zd_N_isGood_40 (by decide) ?_
    refine lv_istore_n (lv' := [(1, .int (nI (1))), (0, .ref o)]) hx hb zd_N_isGood_44 rfl hl (by decide) rfl (fun ls hl => ?_)
    refine lv_iconst (v := (nI (1))) hx hb zd_N_isGood_45 (by decide) ?_
    refine lv_istore_n (lv' := [(2, .int (nI (1))), (1, .int (nI (1))), (0, .ref o)]) hx hb zd_N_isGood_46 rfl hl (by decide) rfl (fun ls hl => ?_)
    have lp47 : ∀ (n47 k47 : Nat) (c24 : Nat) (H : Heap) (locs : List Loc) (ls : Array Slot), k47 ≤ 16 → 16 - k47 < n47 → 1 ≤ k47 → (c24 ≤ 1) → (kv_flag (c24) (kv_some d1 0 16)) → kz_dy (dC, dI) vwCl A s.heap H locs [(o, .inr (4, [.int th, .int sta, .ref mt, .ref mn, .ref ml, .ref mc, .ref mh, .ref mk, .ref mp, .ref mm, .ref mb, .ref mw, .ref mr, .ref mx, .ref me, .ref mP, .ref mQ, .ref ms, .int x5, .int (nI (sz_)), .ref mo, .ref mW, .ref mD, .ref mB, .ref mR, .ref mS])), (mp, .inl (cI, 16, .inl (kz_dg d1))), (mb, .inl (cI, 16, .inl (kz_dg d3))), (mP, .inl (cI, 16, .inl (kz_dg d6))), (mQ, .inl (cI, 16, .inl (kz_dg d7))), (ms, .inl (cI, 18, .inl f8)), (mx, .inl (cI, 32, .inl (kz_dg d9))), (me, .inl (cI, 18, .inl (kz_dg gme)))] → lv_has ls 3 [(2, .int (nI (k47))), (1, .int (nI (c24))), (0, .ref o)] → W p l e { frames := 2, cells := 0, slots := 0, locals := 54 } s m ([.ref o] : List Value).toArray below meth c H locs 0 0 (MQ below (va_Qi (fun (r : Int32) (u : Int32 × (Nat → Nat) × (Nat → Nat) × (Nat → Nat) × (Nat → Nat) × (Nat → Int32) × (Nat → Nat) × (Nat → Nat)) => (∀ j, u.2.1 j < 65536) ∧ (∀ j, u.2.2.1 j < 65536) ∧ (∀ j, u.2.2.2.1 j < 65536) ∧ (∀ j, u.2.2.2.2.1 j < 65536) ∧ (∀ j, u.2.2.2.2.2.2.1 j < 65536) ∧ (∀ j, u.2.2.2.2.2.2.2 j < 65536) ∧ (r = 0 ∨ r = 1) ∧ (r = 0 ∨ (kv_some u.2.1 0 16 ∧ kv_some (kv_fig gmt 16) 0 8 ∧ kv_some (kv_fig gmt 24) 0 8)) ∧ True) (kz_B (dC, dI) vwCl A (fun u : Int32 × (Nat → Nat) × (Nat → Nat) × (Nat → Nat) × (Nat → Nat) × (Nat → Int32) × (Nat → Nat) × (Nat → Nat) => [(o, .inr (4, [.int th, .int sta, .ref mt, .ref mn, .ref ml, .ref mc, .ref mh, .ref mk, .ref mp, .ref mm, .ref mb, .ref mw, .ref mr, .ref mx, .ref me, .ref mP, .ref mQ, .ref ms, .int u.1, .int (nI (sz_)), .ref mo, .ref mW, .ref mD, .ref mB, .ref mR, .ref mS])), (mp, .inl (cI, 16, .inl (kz_dg u.2.1))), (mb, .inl (cI, 16, .inl (kz_dg u.2.2.1))), (mP, .inl (cI, 16, .inl (kz_dg u.2.2.2.1))), (mQ, .inl (cI, 16, .inl (kz_dg u.2.2.2.2.1))), (ms, .inl (cI, 18, .inl u.2.2.2.2.2.1)), (mx, .inl (cI, 32, .inl (kz_dg u.2.2.2.2.2.2.1))), (me, .inl (cI, 18, .inl (kz_dg u.2.2.2.2.2.2.2)))])) A) ([.ref o] : List Value).toArray s 0 0 A) (F0 m 47 ls []) := by
      intro n47
      induction n47 with
      | zero => intro k47; intros; omega
      | succ n47 ih47 =>
        intro k47 c24 H locs ls hi47 hn47 hblow hg1 hgr hdy hl
        refine lv_iload_n hx hb zd_N_isGood_47 rfl (lv_at hl 0 rfl) ?_
        refine lv_bipush (v := (nI (16))) hx hb zd_N_isGood_48 (by decide) ?_
        refine lv_icmp_ge (tgt := 78) hx hb zd_N_isGood_50 (by decide) (fun hc50 => ?_) (fun hc50 => ?_)
        · have hc50 : 16 ≤ k47 := (nI_leI (by omega) (by omega)).mp hc50
          refine lv_iload_n hx hb zd_N_isGood_78 rfl (lv_at hl 1 rfl) ?_
          refine lv_if_eq (tgt := 106) hx hb zd_N_isGood_79 (by decide) (fun hc79 => ?_) (fun hc79 => ?_)
          · have hc79 : c24 = 0 := (nI_eq (by omega) (by omega)).mp (by rw [nI_0]; exact hc79)
            refine lv_iconst (v := (nI (0))) hx hb zd_N_isGood_106 (by decide) ?_
            exact kz_zret F (x5, d1, d3, d6, d7, f8, d9, gme) hdy (by first | exact Or.inl rfl | exact Or.inr rfl | assumption) (⟨hd_d1, hd_d3, hd_d6, hd_d7, hd_d9, hd_gme, by first | exact Or.inl rfl | exact Or.inr rfl | assumption, by first | exact Or.inl rfl | exact Or.inr ⟨kv_flag_of hgr (by omega), hfs.resolve_left hc86⟩, trivial⟩) zd_N_isGood_107
          · have hc79 : ¬ c24 = 0 := fun h9 => hc79 (by have h8 := (nI_eq (by omega) (by omega)).mpr h9; rw [nI_0] at h8; exact h8)
            refine lv_aload_n hx hb zd_N_isGood_82 rfl (lv_at hl 2 rfl) ?_
            refine va_get (D := (dC, dI)) (ci := 4) (v := .int x5) (C := zR_N) (T := zT_N) (N := 26) hx hb hts (fun w h => kz_c (zi_N w h)) hown hK hdy.1 0 rfl rfl 18 (by decide) (hts _ (kz_c mw_609)) (fun _ h9 => h9) rfl zd_N_isGood_83 ?_
            refine lv_if_eq (tgt := 106) hx hb zd_N_isGood_86 (by decide) (fun hc86 => ?_) (fun hc86 => ?_)
            · refine lv_iconst (v := (nI (0))) hx hb zd_N_isGood_106 (by decide) ?_
              exact kz_zret F (x5, d1, d3, d6, d7, f8, d9, gme) hdy (by first | exact Or.inl rfl | exact Or.inr rfl | assumption) (⟨hd_d1, hd_d3, hd_d6, hd_d7, hd_d9, hd_gme, by first | exact Or.inl rfl | exact Or.inr rfl | assumption, by first | exact Or.inl rfl | exact Or.inr ⟨kv_flag_of hgr (by omega), hfs.resolve_left hc86⟩, trivial⟩) zd_N_isGood_107
            · refine lv_aload_n hx hb zd_N_isGood_89 rfl (lv_at hl 2 rfl) ?_
              refine lv_aload_n hx hb zd_N_isGood_90 rfl (lv_at hl 2 rfl) ?_
              refine va_get (D := (dC, dI)) (ci := 4) (v := .ref mb) (C := zR_N) (T := zT_N) (N := 26) hx hb hts (fun w h => kz_c (zi_N w h)) hown hK hdy.1 0 rfl rfl 10 (by decide) (hts _ (kz_c mw_601)) (fun _ h9 => h9) rfl zd_N_isGood_91 ?_
              refine lv_iconst (v := (nI (2))) hx hb zd_N_isGood_94 (by decide) ?_
              refine lv_iconst (v := (nI (2))) hx hb zd_N_isGood_95 (by decide) ?_
              refine kz_calli (wk := [(o, .inr (4, [.int th, .int sta, .ref mt, .ref mn, .ref ml, .ref mc, .ref mh, .ref mk, .ref mp, .ref mm, .ref mb, .ref mw, .ref mr, .ref mx, .ref me, .ref mP, .ref mQ, .ref ms, .int x5, .int (nI (sz_)), .ref mo, .ref mW, .ref mD, .ref mB, .ref mR, .ref mS])), (mp, .inl (cI, 16, .inl (kz_dg d1))), (mb, .inl (cI, 16, .inl (kz_dg d3))), (mP, .inl (cI, 16, .inl (kz_dg d6))), (mQ, .inl (cI, 16, .inl (kz_dg d7))), (ms, .inl (cI, 18, .inl f8)), (mx, .inl (cI, 32, .inl (kz_dg d9)))]) (va_runV (As := [.ref mb, .int (nI (2)), .int (nI (2))]) (rest := []) ⟨hx, hb, hml, hown, hts⟩ (c_V_isWithin l dC dI cI cAA cB cL me o mt mn ml mc mh mk mp mm mb mw mr mx mP mQ ms mo mW mD mB mR mS mb gme (th) (sta) (x5) sz_ d3 d1 _ hd_gme hd_d3 hd_d1) (cwV 3 hts (kz_g (kz_mc mw_711 (kz_mc mw_713 (kz_mc mw_24 (kz_mc mw_43 kz_mn)))) mw_714) rfl rfl rfl (by decide +kernel) ⟨Nat.le_of_ble_eq_true rfl, Nat.le_of_ble_eq_true rfl⟩) (kz_preV hdy hA hK hro hZ hN [7] (by decide) rfl [(false, 0), (false, 2), (false, 1)] rfl (by decide) [0, 1, 2, 3] rfl (fun _ h => by cases h) (fun _ h => by cases h) rfl (ci := 4) (q0 := 0) rfl rfl rfl) rfl rfl hl.1 rfl (lv_room (Nat.le_of_ble_eq_true rfl)) zd_N_isGood_96 ⟨Nat.le_of_ble_eq_true rfl, Nat.le_of_ble_eq_true rfl⟩) hdy hA [7] [0, 1, 2, 3, 4, 5, 6] rfl rfl (by decide) (by decide) (fun r u H locs hw hdy => ?_)
              obtain ⟨r26, rfl⟩ : ∃ z, z = r := ⟨_, rfl⟩
              obtain ⟨d25, rfl⟩ : ∃ z, z = u := ⟨_, rfl⟩
              try dsimp only at hw
              obtain ⟨hd_d25, hzr26, -⟩ := hw
              have hdy : kz_dy (dC, dI) vwCl A s.heap H locs [(o, .inr (4, [.int th, .int sta, .ref mt, .ref mn, .ref ml, .ref mc, .ref mh, .ref mk, .ref mp, .ref mm, .ref mb, .ref mw, .ref mr, .ref mx, .ref me, .ref mP, .ref mQ, .ref ms, .int x5, .int (nI (sz_)), .ref mo, .ref mW, .ref mD, .ref mB, .ref mR, .ref mS])), (mp, .inl (cI, 16, .inl (kz_dg d1))), (mb, .inl (cI, 16, .inl (kz_dg d3))), (mP, .inl (cI, 16, .inl (kz_dg d6))), (mQ, .inl (cI, 16, .inl (kz_dg d7))), (ms, .inl (cI, 18, .inl f8)), (mx, .inl (cI, 32, .inl (kz_dg d9))), (me, .inl (cI, 18, .inl (kz_dg d25)))] := hdy.sub [0, 1, 2, 3, 4, 5, 6, 7] (by decide) rfl
              refine lv_if_eq (tgt := 106) hx hb zd_N_isGood_99 (by decide) (fun hc99 => ?_) (fun hc99 => ?_)
              · refine lv_iconst (v := (nI (0))) hx hb zd_N_isGood_106 (by decide) ?_
                exact kz_zret F (x5, d1, d3, d6, d7, f8, d9, d25) hdy (by first | exact Or.inl rfl | exact Or.inr rfl | assumption) (⟨hd_d1, hd_d3, hd_d6, hd_d7, hd_d9, hd_d25, by first | exact Or.inl rfl | exact Or.inr rfl | assumption, by first | exact Or.inl rfl | exact Or.inr ⟨kv_flag_of hgr (by omega), hfs.resolve_left hc86⟩, trivial⟩) zd_N_isGood_107
              · refine lv_iconst (v := (nI (1))) hx hb zd_N_isGood_102 (by decide) ?_
                refine lv_goto (tgt := 107) hx hb zd_N_isGood_103 (by decide) ?_
                exact kz_zret F (x5, d1, d3, d6, d7, f8, d9, d25) hdy (by first | exact Or.inl rfl | exact Or.inr rfl | assumption) (⟨hd_d1, hd_d3, hd_d6, hd_d7, hd_d9, hd_d25, by first | exact Or.inl rfl | exact Or.inr rfl | assumption, by first | exact Or.inl rfl | exact Or.inr ⟨kv_flag_of hgr (by omega), hfs.resolve_left hc86⟩, trivial⟩) zd_N_isGood_107
        · have hc50 : ¬ 16 ≤ k47 := fun h9 => hc50 ((nI_leI (by omega) (by omega)).mpr h9)
          refine lv_iload_n hx hb zd_N_isGood_53 rfl (lv_at hl 1 rfl) ?_
          refine lv_if_ne (tgt := 66) hx hb zd_N_isGood_54 (by decide) (fun hc54 => ?_) (fun hc54 => ?_)
          · have hc54 : ¬ c24 = 0 := fun h9 => hc54 (by have h8 := (nI_eq (by omega) (by omega)).mpr h9; rw [nI_0] at h8; exact h8)
            refine lv_iconst (v := (nI (1))) hx hb zd_N_isGood_66 (by decide) ?_
            refine lv_goto (tgt := 71) hx hb zd_N_isGood_67 (by decide) ?_
            refine lv_istore_n (lv' := [(1, .int (nI (1))), (2, .int (nI (k47))), (0, .ref o)]) hx hb zd_N_isGood_71 rfl hl (by decide) rfl (fun ls hl => ?_)
            refine lv_iinc (v := (nI (k47 + 1))) (lv' := [(2, .int (nI (k47 + 1))), (1, .int (nI (1))), (0, .ref o)]) hx hb zd_N_isGood_72 hl (k := 1) rfl (nI_1 _) (by decide) rfl (fun ls hl => ?_)
            refine lv_goto (tgt := 47) hx hb zd_N_isGood_75 (by decide) ?_
            have hi9_hg127 : 1 ≤ 1 := by omega
            have hi9_hgr28 : kv_flag (1) (kv_some d1 0 16) := by first | exact hgr | exact Or.inl rfl | exact Or.inr (kv_flag_of hgr (by omega)) | exact Or.inr ⟨k47, by omega, by omega, by omega⟩
            exact ih47 (k47 + 1) (1) _ _ _ (by omega) (by omega) (by omega) hi9_hg127 hi9_hgr28 hdy (lv_sub hl [0, 1, 2] rfl)
          · have hc54 : c24 = 0 := (nI_eq (by omega) (by omega)).mp (by rw [nI_0]; exact hc54)
            refine lv_aload_n hx hb zd_N_isGood_57 rfl (lv_at hl 2 rfl) ?_
            refine va_get (D := (dC, dI)) (ci := 4) (v := .ref mp) (C := zR_N) (T := zT_N) (N := 26) hx hb hts (fun w h => kz_c (zi_N w h)) hown hK hdy.1 0 rfl rfl 8 (by decide) (hts _ (kz_c mw_599)) (fun _ h9 => h9) rfl zd_N_isGood_58 ?_
            refine lv_iload_n hx hb zd_N_isGood_61 rfl (lv_at hl 0 rfl) ?_
            refine va_iald hx hb hK hdy.1 1 0 rfl rfl (vp_in_nI (by omega) (by omega)) zd_N_isGood_62 ?_
            refine lv_topi (fun x29 h9 => ?_)
            obtain rfl : x29 = nI (d1 k47) := h9.trans (kz_dgl d1 (by omega))
            have hbx29 := hd_d1 k47
            refine lv_if_le (tgt := 70) hx hb zd_N_isGood_63 (by decide) (fun hc63 => ?_) (fun hc63 => ?_)
            · have hc63 : (d1 k47) ≤ 0 := (nI_leI (by omega) (by omega)).mp (by rw [nI_0]; exact hc63)
              refine lv_iconst (v := (nI (0))) hx hb zd_N_isGood_70 (by decide) ?_
              refine lv_istore_n (lv' := [(1, .int (nI (0))), (2, .int (nI (k47))), (0, .ref o)]) hx hb zd_N_isGood_71 rfl hl (by decide) rfl (fun ls hl => ?_)
              refine lv_iinc (v := (nI (k47 + 1))) (lv' := [(2, .int (nI (k47 + 1))), (1, .int (nI (0))), (0, .ref o)]) hx hb zd_N_isGood_72 hl (k := 1) rfl (nI_1 _) (by decide) rfl (fun ls hl => ?_)
              refine lv_goto (tgt := 47) hx hb zd_N_isGood_75 (by decide) ?_
              have hi9_hg130 : 0 ≤ 1 := by omega
              have hi9_hgr31 : kv_flag (0) (kv_some d1 0 16) := by first | exact hgr | exact Or.inl rfl | exact Or.inr (kv_flag_of hgr (by omega)) | exact Or.inr ⟨k47, by omega, by omega, by omega⟩
              exact ih47 (k47 + 1) (0) _ _ _ (by omega) (by omega) (by omega) hi9_hg130 hi9_hgr31 hdy (lv_sub hl [0, 1, 2] rfl)
            · have hc63 : ¬ (d1 k47) ≤ 0 := fun h9 => hc63 (by have h8 := (nI_leI (by omega) (by omega)).mpr h9; rw [nI_0] at h8; exact h8)
              refine lv_iconst (v := (nI (1))) hx hb zd_N_isGood_66 (by decide) ?_
              refine lv_goto (tgt := 71) hx hb zd_N_isGood_67 (by decide) ?_
              refine lv_istore_n (lv' := [(1, .int (nI (1))), (2, .int (nI (k47))), (0, .ref o)]) hx hb zd_N_isGood_71 rfl hl (by decide) rfl (fun ls hl => ?_)
              refine lv_iinc (v := (nI (k47 + 1))) (lv' := [(2, .int (nI (k47 + 1))), (1, .int (nI (1))), (0, .ref o)]) hx hb zd_N_isGood_72 hl (k := 1) rfl (nI_1 _) (by decide) rfl (fun ls hl => ?_)
              refine lv_goto (tgt := 47) hx hb zd_N_isGood_75 (by decide) ?_
              have hi9_hg132 : 1 ≤ 1 := by omega
              have hi9_hgr33 : kv_flag (1) (kv_some d1 0 16) := by first | exact hgr | exact Or.inl rfl | exact Or.inr (kv_flag_of hgr (by omega)) | exact Or.inr ⟨k47, by omega, by omega, by omega⟩
              exact ih47 (k47 + 1) (1) _ _ _ (by omega) (by omega) (by omega) hi9_hg132 hi9_hgr33 hdy (lv_sub hl [0, 1, 2] rfl)
    have hi9_hg134 : 1 ≤ 1 := by omega
    have hi9_hgr35 : kv_flag (1) (kv_some d1 0 16) := by first | exact Or.inl rfl | exact Or.inr ⟨0, by omega, by omega, by omega⟩
    exact lp47 (16 - 1 + 1) 1 (1) _ _ _ (by omega) (by omega) (by omega) hi9_hg134 hi9_hgr35 hdy (lv_sub hl [0, 1, 2] rfl)

set_option maxHeartbeats 4000000 in
set_option maxRecDepth 100000 in
/-- KeyMeetingModel.raiseBy([III[II)V -/
theorem c_U_raiseA (l : Launch) (dC : Nat → ClassId) (dI : Nat → Nat → Nat) (cI cAA cB cL : ClassId) (mb mw mm mx me mr mn o mt ml mc mh mk mp mP mQ ms mo mW mD mB mR mS : Nat) (gmb : Nat → Nat) (gmw : Nat → Int32) (gmm : Nat → Nat) (gmx : Nat → Nat) (gme : Nat → Nat) (gmr : Nat → Nat) (gmn : Nat → Int32) (th : Int32) (sta : Int32) (hs : Int32) (sz_ : Nat) (gmt : Nat → Int32) (gmp : Nat → Nat) (fr : Nat) (wh : Nat) (at_ : Nat) (sz : Nat) (hd_gmb : ∀ j, gmb j < 65536) (hd_gmm : ∀ j, gmm j < 65536) (hd_gmx : ∀ j, gmx j < 65536) (hd_gme : ∀ j, gme j < 65536) (hd_gmr : ∀ j, gmr j < 65536) (hd_gmp : ∀ j, gmp j < 65536) (hfr : fr + 7 < 56) (hwh : wh < 7) (hat : at_ + 7 < 32) (hnz : kv_some gmp 0 16) : Met l zy_N_raiseBy zw_N_raiseBy { frames := 3, cells := 0, slots := 0, locals := 76 } (kz_Pc (dC, dI) vwCl [(cI, .int), (cAA, .array .int), (cB, .byte), (cL, .long)] [] [] [.ref o, .ref mt, .int (nI (fr)), .int (nI (wh)), .ref mn, .int (nI (at_))] [(mb, .inl (cI, 16, .inl (kz_dg gmb))), (mw, .inl (cI, 16, .inl gmw)), (mm, .inl (cI, 16, .inl (kz_dg gmm))), (mx, .inl (cI, 32, .inl (kz_dg gmx))), (me, .inl (cI, 18, .inl (kz_dg gme))), (mr, .inl (cI, 16, .inl (kz_dg gmr))), (mn, .inl (cI, 32, .inl gmn))] [(o, .inr (4, [.int th, .int sta, .ref mt, .ref mn, .ref ml, .ref mc, .ref mh, .ref mk, .ref mp, .ref mm, .ref mb, .ref mw, .ref mr, .ref mx, .ref me, .ref mP, .ref mQ, .ref ms, .int hs, .int (nI (sz_)), .ref mo, .ref mW, .ref mD, .ref mB, .ref mR, .ref mS])), (mt, .inl (cI, 56, .inl gmt)), (mp, .inl (cI, 16, .inl (kz_dg gmp)))] sz) (va_Qv (fun (u : (Nat → Nat) × (Nat → Int32) × (Nat → Nat) × (Nat → Nat) × (Nat → Nat) × (Nat → Nat) × (Nat → Int32)) => (∀ j, u.1 j < 65536) ∧ (∀ j, u.2.2.1 j < 65536) ∧ (∀ j, u.2.2.2.1 j < 65536) ∧ (∀ j, u.2.2.2.2.1 j < 65536) ∧ (∀ j, u.2.2.2.2.2.1 j < 65536) ∧ (∀ j, (j < at_ ∨ at_ + 8 ≤ j) → u.2.2.2.2.2.2 j = gmn j) ∧ True) (kz_B (dC, dI) vwCl (va_A [(mb, .inl (cI, 16, .inl (kz_dg gmb))), (mw, .inl (cI, 16, .inl gmw)), (mm, .inl (cI, 16, .inl (kz_dg gmm))), (mx, .inl (cI, 32, .inl (kz_dg gmx))), (me, .inl (cI, 18, .inl (kz_dg gme))), (mr, .inl (cI, 16, .inl (kz_dg gmr))), (mn, .inl (cI, 32, .inl gmn))] sz) (fun u : (Nat → Nat) × (Nat → Int32) × (Nat → Nat) × (Nat → Nat) × (Nat → Nat) × (Nat → Nat) × (Nat → Int32) => [(mb, .inl (cI, 16, .inl (kz_dg u.1))), (mw, .inl (cI, 16, .inl u.2.1)), (mm, .inl (cI, 16, .inl (kz_dg u.2.2.1))), (mx, .inl (cI, 32, .inl (kz_dg u.2.2.2.1))), (me, .inl (cI, 18, .inl (kz_dg u.2.2.2.2.1))), (mr, .inl (cI, 16, .inl (kz_dg u.2.2.2.2.2.1))), (mn, .inl (cI, 32, .inl u.2.2.2.2.2.2))])) (va_A [(mb, .inl (cI, 16, .inl (kz_dg gmb))), (mw, .inl (cI, 16, .inl gmw)), (mm, .inl (cI, 16, .inl (kz_dg gmm))), (mx, .inl (cI, 32, .inl (kz_dg gmx))), (me, .inl (cI, 18, .inl (kz_dg gme))), (mr, .inl (cI, 16, .inl (kz_dg gmr))), (mn, .inl (cI, 32, .inl gmn))] sz)) 0 0 (va_A [(mb, .inl (cI, 16, .inl (kz_dg gmb))), (mw, .inl (cI, 16, .inl gmw)), (mm, .inl (cI, 16, .inl (kz_dg gmm))), (mx, .inl (cI, 32, .inl (kz_dg gmx))), (me, .inl (cI, 18, .inl (kz_dg gme))), (mr, .inl (cI, 16, .inl (kz_dg gmr))), (mn, .inl (cI, 32, .inl gmn))] sz) := by
  refine kz_met (y := zy_N_raiseBy) (ws := zw_N_raiseBy) (av := [.ref o, .ref mt, .int (nI (fr)), .int (nI (wh)), .ref mn, .int (nI (at_))]) (sz := sz) (Qc := fun A => va_Qv (fun (u : (Nat → Nat) × (Nat → Int32) × (Nat → Nat) × (Nat → Nat) × (Nat → Nat) × (Nat → Nat) × (Nat → Int32)) => (∀ j, u.1 j < 65536) ∧ (∀ j, u.2.2.1 j < 65536) ∧ (∀ j, u.2.2.2.1 j < 65536) ∧ (∀ j, u.2.2.2.2.1 j < 65536) ∧ (∀ j, u.2.2.2.2.2.1 j < 65536) ∧ (∀ j, (j < at_ ∨ at_ + 8 ≤ j) → u.2.2.2.2.2.2 j = gmn j) ∧ True) (kz_B (dC, dI) vwCl A (fun u : (Nat → Nat) × (Nat → Int32) × (Nat → Nat) × (Nat → Nat) × (Nat → Nat) × (Nat → Nat) × (Nat → Int32) => [(mb, .inl (cI, 16, .inl (kz_dg u.1))), (mw, .inl (cI, 16, .inl u.2.1)), (mm, .inl (cI, 16, .inl (kz_dg u.2.2.1))), (mx, .inl (cI, 32, .inl (kz_dg u.2.2.2.1))), (me, .inl (cI, 18, .inl (kz_dg u.2.2.2.2.1))), (mr, .inl (cI, 16, .inl (kz_dg u.2.2.2.2.2.1))), (mn, .inl (cI, 32, .inl u.2.2.2.2.2.2))])) A) (cc := zc_N_raiseBy) (maxL := 6) (ret := none) (by decide) rfl (Nat.le_of_ble_eq_true rfl) ?_
  intro p e s m below meth c A ls F hA hdy hK hro hZ hN hl
  obtain ⟨hx, hb, hml, hr, hown, hlocks, hts, hnm⟩ := id F
  have hl : lv_has ls 6 [(0, .ref o), (1, .ref mt), (2, .int (nI (fr))), (3, .int (nI (wh))), (4, .ref mn), (5, .int (nI (at_)))] := hl
  refine lv_aload_n hx hb zd_N_raiseBy_0 rfl (lv_at hl 1 rfl) ?_
  refine lv_iload_n hx hb zd_N_raiseBy_1 rfl (lv_at hl 2 rfl) ?_
  refine lv_aload_n hx hb zd_N_raiseBy_2 rfl (lv_at hl 0 rfl) ?_
  refine va_get (D := (dC, dI)) (ci := 4) (v := .ref mb) (C := zR_N) (T := zT_N) (N := 26) hx hb hts (fun w h => kz_c (zi_N w h)) hown hK (hro.ob hdy.2.2 (k := 0) rfl) 0 rfl rfl 10 (by decide) (hts _ (kz_c mw_601)) (fun _ h9 => h9) rfl zd_N_raiseBy_3 ?_
  refine kz_callv (wk := [(mw, .inl (cI, 16, .inl gmw)), (mm, .inl (cI, 16, .inl (kz_dg gmm))), (mx, .inl (cI, 32, .inl (kz_dg gmx))), (me, .inl (cI, 18, .inl (kz_dg gme))), (mr, .inl (cI, 16, .inl (kz_dg gmr))), (mn, .inl (cI, 32, .inl gmn))]) (va_runS (As := [.ref mt, .int (nI (fr)), .ref mb]) (rest := []) ⟨hx, hb, hml, hown, hts⟩ (c_X_figures56 l dC dI cI cAA cB cL mb mt gmb gmt fr _ hd_gmb (by first | omega | assumption)) (va_cwS 3 hts (kz_g (kz_mc mw_690 (kz_mc mw_691 (kz_mc mw_43 kz_mn))) mw_692) rfl rfl rfl (by decide +kernel) ⟨Nat.le_of_ble_eq_true rfl, Nat.le_of_ble_eq_true rfl⟩) (kz_preS hdy hA hK hro hZ hN [0] (by decide) rfl [(true, 1)] rfl (by decide) [0, 1, 2, 3] rfl (fun _ h => by cases h) (fun _ h => by cases h) rfl) rfl rfl hl.1 rfl (lv_room (Nat.le_of_ble_eq_true rfl)) zd_N_raiseBy_6 ⟨Nat.le_of_ble_eq_true rfl, Nat.le_of_ble_eq_true rfl⟩) hdy hA [0] [1, 2, 3, 4, 5, 6] rfl rfl (by decide) (by decide) (fun u H locs hw hdy => ?_)
  obtain ⟨d1, rfl⟩ : ∃ z, z = u := ⟨_, rfl⟩
  try dsimp only at hw
  obtain ⟨hd_d1, q2, -⟩ := hw
  have hdy : kz_dy (dC, dI) vwCl A s.heap H locs [(mb, .inl (cI, 16, .inl (kz_dg d1))), (mw, .inl (cI, 16, .inl gmw)), (mm, .inl (cI, 16, .inl (kz_dg gmm))), (mx, .inl (cI, 32, .inl (kz_dg gmx))), (me, .inl (cI, 18, .inl (kz_dg gme))), (mr, .inl (cI, 16, .inl (kz_dg gmr))), (mn, .inl (cI, 32, .inl gmn))] := hdy.sub [6, 0, 1, 2, 3, 4, 5] (by decide) rfl
  refine lv_aload_n hx hb zd_N_raiseBy_9 rfl (lv_at hl 0 rfl) ?_
  refine va_get (D := (dC, dI)) (ci := 4) (v := .ref mt) (C := zR_N) (T := zT_N) (N := 26) hx hb hts (fun w h => kz_c (zi_N w h)) hown hK (hro.ob hdy.2.2 (k := 0) rfl) 0 rfl rfl 2 (by decide) (hts _ (kz_c mw_593)) (fun _ h9 => h9) rfl zd_N_raiseBy_10 ?_
  refine lv_bipush (v := (nI (8))) hx hb zd_N_raiseBy_13 (by decide) ?_
  refine lv_iload_n hx hb zd_N_raiseBy_15 rfl (lv_at hl 3 rfl) ?_
  refine kz_imul hx hb zd_N_raiseBy_16 (pk_mul _ _) ?_
  refine lv_aload_n hx hb zd_N_raiseBy_17 rfl (lv_at hl 0 rfl) ?_
  refine va_get (D := (dC, dI)) (ci := 4) (v := .ref mw) (C := zR_N) (T := zT_N) (N := 26) hx hb hts (fun w h => kz_c (zi_N w h)) hown hK (hro.ob hdy.2.2 (k := 0) rfl) 0 rfl rfl 11 (by decide) (hts _ (kz_c mw_602)) (fun _ h9 => h9) rfl zd_N_raiseBy_18 ?_
  refine kz_callv (wk := [(mb, .inl (cI, 16, .inl (kz_dg d1))), (mm, .inl (cI, 16, .inl (kz_dg gmm))), (mx, .inl (cI, 32, .inl (kz_dg gmx))), (me, .inl (cI, 18, .inl (kz_dg gme))), (mr, .inl (cI, 16, .inl (kz_dg gmr))), (mn, .inl (cI, 32, .inl gmn))]) (va_runS (As := [.ref mt, .int (nI (8 * wh)), .ref mw]) (rest := []) ⟨hx, hb, hml, hown, hts⟩ (c_V_figures56 l dC dI cI cAA cB cL mw mt gmw gmt (8 * wh) _ (by first | omega | assumption)) (va_cwS 3 hts (kz_g (kz_mc mw_690 (kz_mc mw_691 (kz_mc mw_43 kz_mn))) mw_692) rfl rfl rfl (by decide +kernel) ⟨Nat.le_of_ble_eq_true rfl, Nat.le_of_ble_eq_true rfl⟩) (kz_preS hdy hA hK hro hZ hN [1] (by decide) rfl [(true, 1)] rfl (by decide) [0, 1, 2, 3] rfl (fun _ h => by cases h) (fun _ h => by cases h) rfl) rfl rfl hl.1 rfl (lv_room (Nat.le_of_ble_eq_true rfl)) zd_N_raiseBy_21 ⟨Nat.le_of_ble_eq_true rfl, Nat.le_of_ble_eq_true rfl⟩) hdy hA [1] [0, 2, 3, 4, 5, 6] rfl rfl (by decide) (by decide) (fun u H locs hw hdy => ?_)
  obtain ⟨f3, rfl⟩ : ∃ z, z = u := ⟨_, rfl⟩
  have hdy : kz_dy (dC, dI) vwCl A s.heap H locs [(mb, .inl (cI, 16, .inl (kz_dg d1))), (mw, .inl (cI, 16, .inl f3)), (mm, .inl (cI, 16, .inl (kz_dg gmm))), (mx, .inl (cI, 32, .inl (kz_dg gmx))), (me, .inl (cI, 18, .inl (kz_dg gme))), (mr, .inl (cI, 16, .inl (kz_dg gmr))), (mn, .inl (cI, 32, .inl gmn))] := hdy.sub [0, 6, 1, 2, 3, 4, 5] (by decide) rfl
  refine lv_aload_n hx hb zd_N_raiseBy_24 rfl (lv_at hl 0 rfl) ?_
  refine va_get (D := (dC, dI)) (ci := 4) (v := .ref mp) (C := zR_N) (T := zT_N) (N := 26) hx hb hts (fun w h => kz_c (zi_N w h)) hown hK (hro.ob hdy.2.2 (k := 0) rfl) 0 rfl rfl 8 (by decide) (hts _ (kz_c mw_599)) (fun _ h9 => h9) rfl zd_N_raiseBy_25 ?_
  refine lv_aload_n hx hb zd_N_raiseBy_28 rfl (lv_at hl 0 rfl) ?_
  refine va_get (D := (dC, dI)) (ci := 4) (v := .ref mm) (C := zR_N) (T := zT_N) (N := 26) hx hb hts (fun w h => kz_c (zi_N w h)) hown hK (hro.ob hdy.2.2 (k := 0) rfl) 0 rfl rfl 9 (by decide) (hts _ (kz_c mw_600)) (fun _ h9 => h9) rfl zd_N_raiseBy_29 ?_
  refine kz_callv (wk := [(mb, .inl (cI, 16, .inl (kz_dg d1))), (mw, .inl (cI, 16, .inl f3)), (mx, .inl (cI, 32, .inl (kz_dg gmx))), (me, .inl (cI, 18, .inl (kz_dg gme))), (mr, .inl (cI, 16, .inl (kz_dg gmr))), (mn, .inl (cI, 32, .inl gmn))]) (va_runS (As := [.ref mp, .ref mm]) (rest := []) ⟨hx, hb, hml, hown, hts⟩ (c_X_copy l dC dI cI cAA cB cL mm mp gmm gmp _ hd_gmm hd_gmp) (va_cwS 2 hts (kz_g (kz_mc mw_722 (kz_mc mw_723 (kz_mc mw_43 kz_mn))) mw_724) rfl rfl rfl (by decide +kernel) ⟨Nat.le_of_ble_eq_true rfl, Nat.le_of_ble_eq_true rfl⟩) (kz_preS hdy hA hK hro hZ hN [2] (by decide) rfl [(true, 2)] rfl (by decide) [0, 1, 2, 3] rfl (fun _ h => by cases h) (fun _ h => by cases h) rfl) rfl rfl hl.1 rfl (lv_room (Nat.le_of_ble_eq_true rfl)) zd_N_raiseBy_32 ⟨Nat.le_of_ble_eq_true rfl, Nat.le_of_ble_eq_true rfl⟩) hdy hA [2] [0, 1, 3, 4, 5, 6] rfl rfl (by decide) (by decide) (fun u H locs hw hdy => ?_)
  obtain ⟨d4, rfl⟩ : ∃ z, z = u := ⟨_, rfl⟩
  try dsimp only at hw
  obtain ⟨hd_d4, q5, -⟩ := hw
  have hdy : kz_dy (dC, dI) vwCl A s.heap H locs [(mb, .inl (cI, 16, .inl (kz_dg d1))), (mw, .inl (cI, 16, .inl f3)), (mm, .inl (cI, 16, .inl (kz_dg d4))), (mx, .inl (cI, 32, .inl (kz_dg gmx))), (me, .inl (cI, 18, .inl (kz_dg gme))), (mr, .inl (cI, 16, .inl (kz_dg gmr))), (mn, .inl (cI, 32, .inl gmn))] := hdy.sub [0, 1, 6, 2, 3, 4, 5] (by decide) rfl
  have hnm := kv_some_ext q5 hnz
  refine lv_aload_n hx hb zd_N_raiseBy_35 rfl (lv_at hl 0 rfl) ?_
  refine kz_callv (wk := [(mb, .inl (cI, 16, .inl (kz_dg d1))), (mw, .inl (cI, 16, .inl f3)), (mm, .inl (cI, 16, .inl (kz_dg d4))), (mn, .inl (cI, 32, .inl gmn))]) (va_runV (As := []) (rest := []) ⟨hx, hb, hml, hown, hts⟩ (c_V_raise l dC dI cI cAA cB cL mx me mr o mt mn ml mc mh mk mp mm mb mw mP mQ ms mo mW mD mB mR mS gmx gme gmr (th) (sta) (hs) sz_ d4 f3 d1 _ hd_gmx hd_gme hd_gmr hd_d4 hd_d1 (by first | omega | assumption)) (cwV 0 hts (kz_g (kz_mc mw_725 (kz_mc mw_727 (kz_mc mw_26 (kz_mc mw_43 kz_mn)))) mw_728) rfl rfl rfl (by decide +kernel) ⟨Nat.le_of_ble_eq_true rfl, Nat.le_of_ble_eq_true rfl⟩) (kz_preVr hdy hA hK hro hZ hN [3, 4, 5] (by decide) rfl [(true, 0), (false, 2), (false, 1), (false, 0)] rfl (by decide) [0, 1, 2, 3] rfl (fun _ h => by cases h) (fun _ h => by cases h) rfl (ci := 4) (q0 := 0) rfl rfl rfl) rfl rfl hl.1 rfl (lv_room (Nat.le_of_ble_eq_true rfl)) zd_N_raiseBy_36 ⟨Nat.le_of_ble_eq_true rfl, Nat.le_of_ble_eq_true rfl⟩) hdy hA [3, 4, 5] [0, 1, 2, 6] rfl rfl (by decide) (by decide) (fun u H locs hw hdy => ?_)
  obtain ⟨d6, d7, d8⟩ := u
  try dsimp only at hw
  obtain ⟨hd_d6, hd_d7, hd_d8, -⟩ := hw
  have hdy : kz_dy (dC, dI) vwCl A s.heap H locs [(mb, .inl (cI, 16, .inl (kz_dg d1))), (mw, .inl (cI, 16, .inl f3)), (mm, .inl (cI, 16, .inl (kz_dg d4))), (mx, .inl (cI, 32, .inl (kz_dg d6))), (me, .inl (cI, 18, .inl (kz_dg d7))), (mr, .inl (cI, 16, .inl (kz_dg d8))), (mn, .inl (cI, 32, .inl gmn))] := hdy.sub [0, 1, 2, 4, 5, 6, 3] (by decide) rfl
  refine lv_aload_n hx hb zd_N_raiseBy_39 rfl (lv_at hl 0 rfl) ?_
  refine va_get (D := (dC, dI)) (ci := 4) (v := .ref mr) (C := zR_N) (T := zT_N) (N := 26) hx hb hts (fun w h => kz_c (zi_N w h)) hown hK (hro.ob hdy.2.2 (k := 0) rfl) 0 rfl rfl 12 (by decide) (hts _ (kz_c mw_603)) (fun _ h9 => h9) rfl zd_N_raiseBy_40 ?_
  refine lv_aload hx hb zd_N_raiseBy_43 (lv_at hl 4 rfl) ?_
  refine lv_iload hx hb zd_N_raiseBy_45 (lv_at hl 5 rfl) ?_
  refine kz_callv (wk := [(mb, .inl (cI, 16, .inl (kz_dg d1))), (mw, .inl (cI, 16, .inl f3)), (mm, .inl (cI, 16, .inl (kz_dg d4))), (mx, .inl (cI, 32, .inl (kz_dg d6))), (me, .inl (cI, 18, .inl (kz_dg d7))), (mr, .inl (cI, 16, .inl (kz_dg d8)))]) (va_runS (As := [.ref mr, .ref mn, .int (nI (at_))]) (rest := []) ⟨hx, hb, hml, hown, hts⟩ (c_X_words32 l dC dI cI cAA cB cL mn mr gmn d8 at_ _ hd_d8 (by first | omega | assumption)) (va_cwS 3 hts (kz_g (kz_mc mw_737 (kz_mc mw_738 (kz_mc mw_43 kz_mn))) mw_739) rfl rfl rfl (by decide +kernel) ⟨Nat.le_of_ble_eq_true rfl, Nat.le_of_ble_eq_true rfl⟩) (kz_preS hdy hA hK hro hZ hN [6] (by decide) rfl [(false, 5)] rfl (by decide) [0, 1, 2, 3] rfl (fun _ h => by cases h) (fun _ h => by cases h) rfl) rfl rfl hl.1 rfl (lv_room (Nat.le_of_ble_eq_true rfl)) zd_N_raiseBy_47 ⟨Nat.le_of_ble_eq_true rfl, Nat.le_of_ble_eq_true rfl⟩) hdy hA [6] [0, 1, 2, 3, 4, 5] rfl rfl (by decide) (by decide) (fun u H locs hw hdy => ?_)
  obtain ⟨f9, rfl⟩ : ∃ z, z = u := ⟨_, rfl⟩
  try dsimp only at hw
  obtain ⟨q10, q11, -⟩ := hw
  have hdy : kz_dy (dC, dI) vwCl A s.heap H locs [(mb, .inl (cI, 16, .inl (kz_dg d1))), (mw, .inl (cI, 16, .inl f3)), (mm, .inl (cI, 16, .inl (kz_dg d4))), (mx, .inl (cI, 32, .inl (kz_dg d6))), (me, .inl (cI, 18, .inl (kz_dg d7))), (mr, .inl (cI, 16, .inl (kz_dg d8))), (mn, .inl (cI, 32, .inl f9))] := hdy.sub [0, 1, 2, 3, 4, 5, 6] (by decide) rfl
  exact kz_vret F (d1, f3, d4, d6, d7, d8, f9) hdy (⟨hd_d1, hd_d4, hd_d6, hd_d7, hd_d8, by exact q11, trivial⟩) zd_N_raiseBy_50

set_option maxHeartbeats 4000000 in
set_option maxRecDepth 100000 in
/-- KeyMeetingModel.raiseBy([III[II)V -/
theorem c_U_raiseB (l : Launch) (dC : Nat → ClassId) (dI : Nat → Nat → Nat) (cI cAA cB cL : ClassId) (mb mw mm mx me mr mc o mt mn ml mh mk mp mP mQ ms mo mW mD mB mR mS : Nat) (gmb : Nat → Nat) (gmw : Nat → Int32) (gmm : Nat → Nat) (gmx : Nat → Nat) (gme : Nat → Nat) (gmr : Nat → Nat) (gmc : Nat → Int32) (th : Int32) (sta : Int32) (hs : Int32) (sz_ : Nat) (gmt : Nat → Int32) (gmp : Nat → Nat) (gmn : Nat → Int32) (fr : Nat) (wh : Nat) (at_ : Nat) (sz : Nat) (hd_gmb : ∀ j, gmb j < 65536) (hd_gmm : ∀ j, gmm j < 65536) (hd_gmx : ∀ j, gmx j < 65536) (hd_gme : ∀ j, gme j < 65536) (hd_gmr : ∀ j, gmr j < 65536) (hd_gmp : ∀ j, gmp j < 65536) (hfr : fr + 7 < 32) (hwh : wh < 7) (hat : at_ + 7 < 16) (hnz : kv_some gmp 0 16) : Met l zy_N_raiseBy zw_N_raiseBy { frames := 3, cells := 0, slots := 0, locals := 76 } (kz_Pc (dC, dI) vwCl [(cI, .int), (cAA, .array .int), (cB, .byte), (cL, .long)] [] [] [.ref o, .ref mn, .int (nI (fr)), .int (nI (wh)), .ref mc, .int (nI (at_))] [(mb, .inl (cI, 16, .inl (kz_dg gmb))), (mw, .inl (cI, 16, .inl gmw)), (mm, .inl (cI, 16, .inl (kz_dg gmm))), (mx, .inl (cI, 32, .inl (kz_dg gmx))), (me, .inl (cI, 18, .inl (kz_dg gme))), (mr, .inl (cI, 16, .inl (kz_dg gmr))), (mc, .inl (cI, 16, .inl gmc))] [(o, .inr (4, [.int th, .int sta, .ref mt, .ref mn, .ref ml, .ref mc, .ref mh, .ref mk, .ref mp, .ref mm, .ref mb, .ref mw, .ref mr, .ref mx, .ref me, .ref mP, .ref mQ, .ref ms, .int hs, .int (nI (sz_)), .ref mo, .ref mW, .ref mD, .ref mB, .ref mR, .ref mS])), (mt, .inl (cI, 56, .inl gmt)), (mp, .inl (cI, 16, .inl (kz_dg gmp))), (mn, .inl (cI, 32, .inl gmn))] sz) (va_Qv (fun (u : (Nat → Nat) × (Nat → Int32) × (Nat → Nat) × (Nat → Nat) × (Nat → Nat) × (Nat → Nat) × (Nat → Int32)) => (∀ j, u.1 j < 65536) ∧ (∀ j, u.2.2.1 j < 65536) ∧ (∀ j, u.2.2.2.1 j < 65536) ∧ (∀ j, u.2.2.2.2.1 j < 65536) ∧ (∀ j, u.2.2.2.2.2.1 j < 65536) ∧ True) (kz_B (dC, dI) vwCl (va_A [(mb, .inl (cI, 16, .inl (kz_dg gmb))), (mw, .inl (cI, 16, .inl gmw)), (mm, .inl (cI, 16, .inl (kz_dg gmm))), (mx, .inl (cI, 32, .inl (kz_dg gmx))), (me, .inl (cI, 18, .inl (kz_dg gme))), (mr, .inl (cI, 16, .inl (kz_dg gmr))), (mc, .inl (cI, 16, .inl gmc))] sz) (fun u : (Nat → Nat) × (Nat → Int32) × (Nat → Nat) × (Nat → Nat) × (Nat → Nat) × (Nat → Nat) × (Nat → Int32) => [(mb, .inl (cI, 16, .inl (kz_dg u.1))), (mw, .inl (cI, 16, .inl u.2.1)), (mm, .inl (cI, 16, .inl (kz_dg u.2.2.1))), (mx, .inl (cI, 32, .inl (kz_dg u.2.2.2.1))), (me, .inl (cI, 18, .inl (kz_dg u.2.2.2.2.1))), (mr, .inl (cI, 16, .inl (kz_dg u.2.2.2.2.2.1))), (mc, .inl (cI, 16, .inl u.2.2.2.2.2.2))])) (va_A [(mb, .inl (cI, 16, .inl (kz_dg gmb))), (mw, .inl (cI, 16, .inl gmw)), (mm, .inl (cI, 16, .inl (kz_dg gmm))), (mx, .inl (cI, 32, .inl (kz_dg gmx))), (me, .inl (cI, 18, .inl (kz_dg gme))), (mr, .inl (cI, 16, .inl (kz_dg gmr))), (mc, .inl (cI, 16, .inl gmc))] sz)) 0 0 (va_A [(mb, .inl (cI, 16, .inl (kz_dg gmb))), (mw, .inl (cI, 16, .inl gmw)), (mm, .inl (cI, 16, .inl (kz_dg gmm))), (mx, .inl (cI, 32, .inl (kz_dg gmx))), (me, .inl (cI, 18, .inl (kz_dg gme))), (mr, .inl (cI, 16, .inl (kz_dg gmr))), (mc, .inl (cI, 16, .inl gmc))] sz) := by
  refine kz_met (y := zy_N_raiseBy) (ws := zw_N_raiseBy) (av := [.ref o, .ref mn, .int (nI (fr)), .int (nI (wh)), .ref mc, .int (nI (at_))]) (sz := sz) (Qc := fun A => va_Qv (fun (u : (Nat → Nat) × (Nat → Int32) × (Nat → Nat) × (Nat → Nat) × (Nat → Nat) × (Nat → Nat) × (Nat → Int32)) => (∀ j, u.1 j < 65536) ∧ (∀ j, u.2.2.1 j < 65536) ∧ (∀ j, u.2.2.2.1 j < 65536) ∧ (∀ j, u.2.2.2.2.1 j < 65536) ∧ (∀ j, u.2.2.2.2.2.1 j < 65536) ∧ True) (kz_B (dC, dI) vwCl A (fun u : (Nat → Nat) × (Nat → Int32) × (Nat → Nat) × (Nat → Nat) × (Nat → Nat) × (Nat → Nat) × (Nat → Int32) => [(mb, .inl (cI, 16, .inl (kz_dg u.1))), (mw, .inl (cI, 16, .inl u.2.1)), (mm, .inl (cI, 16, .inl (kz_dg u.2.2.1))), (mx, .inl (cI, 32, .inl (kz_dg u.2.2.2.1))), (me, .inl (cI, 18, .inl (kz_dg u.2.2.2.2.1))), (mr, .inl (cI, 16, .inl (kz_dg u.2.2.2.2.2.1))), (mc, .inl (cI, 16, .inl u.2.2.2.2.2.2))])) A) (cc := zc_N_raiseBy) (maxL := 6) (ret := none) (by decide) rfl (Nat.le_of_ble_eq_true rfl) ?_
  intro p e s m below meth c A ls F hA hdy hK hro hZ hN hl
  obtain ⟨hx, hb, hml, hr, hown, hlocks, hts, hnm⟩ := id F
  have hl : lv_has ls 6 [(0, .ref o), (1, .ref mn), (2, .int (nI (fr))), (3, .int (nI (wh))), (4, .ref mc), (5, .int (nI (at_)))] := hl
  refine lv_aload_n hx hb zd_N_raiseBy_0 rfl (lv_at hl 1 rfl) ?_
  refine lv_iload_n hx hb zd_N_raiseBy_1 rfl (lv_at hl 2 rfl) ?_
  refine lv_aload_n hx hb zd_N_raiseBy_2 rfl (lv_at hl 0 rfl) ?_
  refine va_get (D := (dC, dI)) (ci := 4) (v := .ref mb) (C := zR_N) (T := zT_N) (N := 26) hx hb hts (fun w h => kz_c (zi_N w h)) hown hK (hro.ob hdy.2.2 (k := 0) rfl) 0 rfl rfl 10 (by decide) (hts _ (kz_c mw_601)) (fun _ h9 => h9) rfl zd_N_raiseBy_3 ?_
  refine kz_callv (wk := [(mw, .inl (cI, 16, .inl gmw)), (mm, .inl (cI, 16, .inl (kz_dg gmm))), (mx, .inl (cI, 32, .inl (kz_dg gmx))), (me, .inl (cI, 18, .inl (kz_dg gme))), (mr, .inl (cI, 16, .inl (kz_dg gmr))), (mc, .inl (cI, 16, .inl gmc))]) (va_runS (As := [.ref mn, .int (nI (fr)), .ref mb]) (rest := []) ⟨hx, hb, hml, hown, hts⟩ (c_X_figures32 l dC dI cI cAA cB cL mb mn gmb gmn fr _ hd_gmb (by first | omega | assumption)) (va_cwS 3 hts (kz_g (kz_mc mw_690 (kz_mc mw_691 (kz_mc mw_43 kz_mn))) mw_692) rfl rfl rfl (by decide +kernel) ⟨Nat.le_of_ble_eq_true rfl, Nat.le_of_ble_eq_true rfl⟩) (kz_preS hdy hA hK hro hZ hN [0] (by decide) rfl [(true, 3)] rfl (by decide) [0, 1, 2, 3] rfl (fun _ h => by cases h) (fun _ h => by cases h) rfl) rfl rfl hl.1 rfl (lv_room (Nat.le_of_ble_eq_true rfl)) zd_N_raiseBy_6 ⟨Nat.le_of_ble_eq_true rfl, Nat.le_of_ble_eq_true rfl⟩) hdy hA [0] [1, 2, 3, 4, 5, 6] rfl rfl (by decide) (by decide) (fun u H locs hw hdy => ?_)
  obtain ⟨d1, rfl⟩ : ∃ z, z = u := ⟨_, rfl⟩
  try dsimp only at hw
  obtain ⟨hd_d1, q2, -⟩ := hw
  have hdy : kz_dy (dC, dI) vwCl A s.heap H locs [(mb, .inl (cI, 16, .inl (kz_dg d1))), (mw, .inl (cI, 16, .inl gmw)), (mm, .inl (cI, 16, .inl (kz_dg gmm))), (mx, .inl (cI, 32, .inl (kz_dg gmx))), (me, .inl (cI, 18, .inl (kz_dg gme))), (mr, .inl (cI, 16, .inl (kz_dg gmr))), (mc, .inl (cI, 16, .inl gmc))] := hdy.sub [6, 0, 1, 2, 3, 4, 5] (by decide) rfl
  refine lv_aload_n hx hb zd_N_raiseBy_9 rfl (lv_at hl 0 rfl) ?_
  refine va_get (D := (dC, dI)) (ci := 4) (v := .ref mt) (C := zR_N) (T := zT_N) (N := 26) hx hb hts (fun w h => kz_c (zi_N w h)) hown hK (hro.ob hdy.2.2 (k := 0) rfl) 0 rfl rfl 2 (by decide) (hts _ (kz_c mw_593)) (fun _ h9 => h9) rfl zd_N_raiseBy_10 ?_
  refine lv_bipush (v := (nI (8))) hx hb zd_N_raiseBy_13 (by decide) ?_
  refine lv_iload_n hx hb zd_N_raiseBy_15 rfl (lv_at hl 3 rfl) ?_
  refine kz_imul hx hb zd_N_raiseBy_16 (pk_mul _ _) ?_
  refine lv_aload_n hx hb zd_N_raiseBy_17 rfl (lv_at hl 0 rfl) ?_
  refine va_get (D := (dC, dI)) (ci := 4) (v := .ref mw) (C := zR_N) (T := zT_N) (N := 26) hx hb hts (fun w h => kz_c (zi_N w h)) hown hK (hro.ob hdy.2.2 (k := 0) rfl) 0 rfl rfl 11 (by decide) (hts _ (kz_c mw_602)) (fun _ h9 => h9) rfl zd_N_raiseBy_18 ?_
  refine kz_callv (wk := [(mb, .inl (cI, 16, .inl (kz_dg d1))), (mm, .inl (cI, 16, .inl (kz_dg gmm))), (mx, .inl (cI, 32, .inl (kz_dg gmx))), (me, .inl (cI, 18, .inl (kz_dg gme))), (mr, .inl (cI, 16, .inl (kz_dg gmr))), (mc, .inl (cI, 16, .inl gmc))]) (va_runS (As := [.ref mt, .int (nI (8 * wh)), .ref mw]) (rest := []) ⟨hx, hb, hml, hown, hts⟩ (c_V_figures56 l dC dI cI cAA cB cL mw mt gmw gmt (8 * wh) _ (by first | omega | assumption)) (va_cwS 3 hts (kz_g (kz_mc mw_690 (kz_mc mw_691 (kz_mc mw_43 kz_mn))) mw_692) rfl rfl rfl (by decide +kernel) ⟨Nat.le_of_ble_eq_true rfl, Nat.le_of_ble_eq_true rfl⟩) (kz_preS hdy hA hK hro hZ hN [1] (by decide) rfl [(true, 1)] rfl (by decide) [0, 1, 2, 3] rfl (fun _ h => by cases h) (fun _ h => by cases h) rfl) rfl rfl hl.1 rfl (lv_room (Nat.le_of_ble_eq_true rfl)) zd_N_raiseBy_21 ⟨Nat.le_of_ble_eq_true rfl, Nat.le_of_ble_eq_true rfl⟩) hdy hA [1] [0, 2, 3, 4, 5, 6] rfl rfl (by decide) (by decide) (fun u H locs hw hdy => ?_)
  obtain ⟨f3, rfl⟩ : ∃ z, z = u := ⟨_, rfl⟩
  have hdy : kz_dy (dC, dI) vwCl A s.heap H locs [(mb, .inl (cI, 16, .inl (kz_dg d1))), (mw, .inl (cI, 16, .inl f3)), (mm, .inl (cI, 16, .inl (kz_dg gmm))), (mx, .inl (cI, 32, .inl (kz_dg gmx))), (me, .inl (cI, 18, .inl (kz_dg gme))), (mr, .inl (cI, 16, .inl (kz_dg gmr))), (mc, .inl (cI, 16, .inl gmc))] := hdy.sub [0, 6, 1, 2, 3, 4, 5] (by decide) rfl
  refine lv_aload_n hx hb zd_N_raiseBy_24 rfl (lv_at hl 0 rfl) ?_
  refine va_get (D := (dC, dI)) (ci := 4) (v := .ref mp) (C := zR_N) (T := zT_N) (N := 26) hx hb hts (fun w h => kz_c (zi_N w h)) hown hK (hro.ob hdy.2.2 (k := 0) rfl) 0 rfl rfl 8 (by decide) (hts _ (kz_c mw_599)) (fun _ h9 => h9) rfl zd_N_raiseBy_25 ?_
  refine lv_aload_n hx hb zd_N_raiseBy_28 rfl (lv_at hl 0 rfl) ?_
  refine va_get (D := (dC, dI)) (ci := 4) (v := .ref mm) (C := zR_N) (T := zT_N) (N := 26) hx hb hts (fun w h => kz_c (zi_N w h)) hown hK (hro.ob hdy.2.2 (k := 0) rfl) 0 rfl rfl 9 (by decide) (hts _ (kz_c mw_600)) (fun _ h9 => h9) rfl zd_N_raiseBy_29 ?_
  refine kz_callv (wk := [(mb, .inl (cI, 16, .inl (kz_dg d1))), (mw, .inl (cI, 16, .inl f3)), (mx, .inl (cI, 32, .inl (kz_dg gmx))), (me, .inl (cI, 18, .inl (kz_dg gme))), (mr, .inl (cI, 16, .inl (kz_dg gmr))), (mc, .inl (cI, 16, .inl gmc))]) (va_runS (As := [.ref mp, .ref mm]) (rest := []) ⟨hx, hb, hml, hown, hts⟩ (c_X_copy l dC dI cI cAA cB cL mm mp gmm gmp _ hd_gmm hd_gmp) (va_cwS 2 hts (kz_g (kz_mc mw_722 (kz_mc mw_723 (kz_mc mw_43 kz_mn))) mw_724) rfl rfl rfl (by decide +kernel) ⟨Nat.le_of_ble_eq_true rfl, Nat.le_of_ble_eq_true rfl⟩) (kz_preS hdy hA hK hro hZ hN [2] (by decide) rfl [(true, 2)] rfl (by decide) [0, 1, 2, 3] rfl (fun _ h => by cases h) (fun _ h => by cases h) rfl) rfl rfl hl.1 rfl (lv_room (Nat.le_of_ble_eq_true rfl)) zd_N_raiseBy_32 ⟨Nat.le_of_ble_eq_true rfl, Nat.le_of_ble_eq_true rfl⟩) hdy hA [2] [0, 1, 3, 4, 5, 6] rfl rfl (by decide) (by decide) (fun u H locs hw hdy => ?_)
  obtain ⟨d4, rfl⟩ : ∃ z, z = u := ⟨_, rfl⟩
  try dsimp only at hw
  obtain ⟨hd_d4, q5, -⟩ := hw
  have hdy : kz_dy (dC, dI) vwCl A s.heap H locs [(mb, .inl (cI, 16, .inl (kz_dg d1))), (mw, .inl (cI, 16, .inl f3)), (mm, .inl (cI, 16, .inl (kz_dg d4))), (mx, .inl (cI, 32, .inl (kz_dg gmx))), (me, .inl (cI, 18, .inl (kz_dg gme))), (mr, .inl (cI, 16, .inl (kz_dg gmr))), (mc, .inl (cI, 16, .inl gmc))] := hdy.sub [0, 1, 6, 2, 3, 4, 5] (by decide) rfl
  have hnm := kv_some_ext q5 hnz
  refine lv_aload_n hx hb zd_N_raiseBy_35 rfl (lv_at hl 0 rfl) ?_
  refine kz_callv (wk := [(mb, .inl (cI, 16, .inl (kz_dg d1))), (mw, .inl (cI, 16, .inl f3)), (mm, .inl (cI, 16, .inl (kz_dg d4))), (mc, .inl (cI, 16, .inl gmc))]) (va_runV (As := []) (rest := []) ⟨hx, hb, hml, hown, hts⟩ (c_V_raise l dC dI cI cAA cB cL mx me mr o mt mn ml mc mh mk mp mm mb mw mP mQ ms mo mW mD mB mR mS gmx gme gmr (th) (sta) (hs) sz_ d4 f3 d1 _ hd_gmx hd_gme hd_gmr hd_d4 hd_d1 (by first | omega | assumption)) (cwV 0 hts (kz_g (kz_mc mw_725 (kz_mc mw_727 (kz_mc mw_26 (kz_mc mw_43 kz_mn)))) mw_728) rfl rfl rfl (by decide +kernel) ⟨Nat.le_of_ble_eq_true rfl, Nat.le_of_ble_eq_true rfl⟩) (kz_preVr hdy hA hK hro hZ hN [3, 4, 5] (by decide) rfl [(true, 0), (false, 2), (false, 1), (false, 0)] rfl (by decide) [0, 1, 2, 3] rfl (fun _ h => by cases h) (fun _ h => by cases h) rfl (ci := 4) (q0 := 0) rfl rfl rfl) rfl rfl hl.1 rfl (lv_room (Nat.le_of_ble_eq_true rfl)) zd_N_raiseBy_36 ⟨Nat.le_of_ble_eq_true rfl, Nat.le_of_ble_eq_true rfl⟩) hdy hA [3, 4, 5] [0, 1, 2, 6] rfl rfl (by decide) (by decide) (fun u H locs hw hdy => ?_)
  obtain ⟨d6, d7, d8⟩ := u
  try dsimp only at hw
  obtain ⟨hd_d6, hd_d7, hd_d8, -⟩ := hw
  have hdy : kz_dy (dC, dI) vwCl A s.heap H locs [(mb, .inl (cI, 16, .inl (kz_dg d1))), (mw, .inl (cI, 16, .inl f3)), (mm, .inl (cI, 16, .inl (kz_dg d4))), (mx, .inl (cI, 32, .inl (kz_dg d6))), (me, .inl (cI, 18, .inl (kz_dg d7))), (mr, .inl (cI, 16, .inl (kz_dg d8))), (mc, .inl (cI, 16, .inl gmc))] := hdy.sub [0, 1, 2, 4, 5, 6, 3] (by decide) rfl
  refine lv_aload_n hx hb zd_N_raiseBy_39 rfl (lv_at hl 0 rfl) ?_
  refine va_get (D := (dC, dI)) (ci := 4) (v := .ref mr) (C := zR_N) (T := zT_N) (N := 26) hx hb hts (fun w h => kz_c (zi_N w h)) hown hK (hro.ob hdy.2.2 (k := 0) rfl) 0 rfl rfl 12 (by decide) (hts _ (kz_c mw_603)) (fun _ h9 => h9) rfl zd_N_raiseBy_40 ?_
  refine lv_aload hx hb zd_N_raiseBy_43 (lv_at hl 4 rfl) ?_
  refine lv_iload hx hb zd_N_raiseBy_45 (lv_at hl 5 rfl) ?_
  refine kz_callv (wk := [(mb, .inl (cI, 16, .inl (kz_dg d1))), (mw, .inl (cI, 16, .inl f3)), (mm, .inl (cI, 16, .inl (kz_dg d4))), (mx, .inl (cI, 32, .inl (kz_dg d6))), (me, .inl (cI, 18, .inl (kz_dg d7))), (mr, .inl (cI, 16, .inl (kz_dg d8)))]) (va_runS (As := [.ref mr, .ref mc, .int (nI (at_))]) (rest := []) ⟨hx, hb, hml, hown, hts⟩ (c_X_words16 l dC dI cI cAA cB cL mc mr gmc d8 at_ _ hd_d8 (by first | omega | assumption)) (va_cwS 3 hts (kz_g (kz_mc mw_737 (kz_mc mw_738 (kz_mc mw_43 kz_mn))) mw_739) rfl rfl rfl (by decide +kernel) ⟨Nat.le_of_ble_eq_true rfl, Nat.le_of_ble_eq_true rfl⟩) (kz_preS hdy hA hK hro hZ hN [6] (by decide) rfl [(false, 5)] rfl (by decide) [0, 1, 2, 3] rfl (fun _ h => by cases h) (fun _ h => by cases h) rfl) rfl rfl hl.1 rfl (lv_room (Nat.le_of_ble_eq_true rfl)) zd_N_raiseBy_47 ⟨Nat.le_of_ble_eq_true rfl, Nat.le_of_ble_eq_true rfl⟩) hdy hA [6] [0, 1, 2, 3, 4, 5] rfl rfl (by decide) (by decide) (fun u H locs hw hdy => ?_)
  obtain ⟨f9, rfl⟩ : ∃ z, z = u := ⟨_, rfl⟩
  try dsimp only at hw
  obtain ⟨q10, q11, -⟩ := hw
  have hdy : kz_dy (dC, dI) vwCl A s.heap H locs [(mb, .inl (cI, 16, .inl (kz_dg d1))), (mw, .inl (cI, 16, .inl f3)), (mm, .inl (cI, 16, .inl (kz_dg d4))), (mx, .inl (cI, 32, .inl (kz_dg d6))), (me, .inl (cI, 18, .inl (kz_dg d7))), (mr, .inl (cI, 16, .inl (kz_dg d8))), (mc, .inl (cI, 16, .inl f9))] := hdy.sub [0, 1, 2, 3, 4, 5, 6] (by decide) rfl
  exact kz_vret F (d1, f3, d4, d6, d7, d8, f9) hdy (⟨hd_d1, hd_d4, hd_d6, hd_d7, hd_d8, trivial⟩) zd_N_raiseBy_50

set_option maxHeartbeats 4000000 in
set_option maxRecDepth 100000 in
/-- KeyMeetingModel.hashRest(I[I)V -/
theorem c_U_hashRestB (l : Launch) (dC : Nat → ClassId) (dI : Nat → Nat → Nat) (cI cAA cB cL : ClassId) (mb mx me o mt mn ml mc mh mk mp mm mw mr mP mQ ms mo mW mD mB mR mS : Nat) (gmb : Nat → Nat) (gmx : Nat → Nat) (gme : Nat → Nat) (th : Int32) (sta : Int32) (hs : Int32) (sz_ : Nat) (gmh : Nat → Int32) (gmm : Nat → Nat) (sd : Nat) (sz : Nat) (hd_gmb : ∀ j, gmb j < 65536) (hd_gmx : ∀ j, gmx j < 65536) (hd_gme : ∀ j, gme j < 65536) (hd_gmm : ∀ j, gmm j < 65536) (hsd : sd < 2) (hnz : kv_some gmm 0 16) : Met l zy_N_hashRest zw_N_hashRest { frames := 2, cells := 0, slots := 0, locals := 55 } (kz_Pc (dC, dI) vwCl [(cI, .int), (cAA, .array .int), (cB, .byte), (cL, .long)] [] [] [.ref o, .int (nI (sd)), .ref mb] [(mb, .inl (cI, 16, .inl (kz_dg gmb))), (mx, .inl (cI, 32, .inl (kz_dg gmx))), (me, .inl (cI, 18, .inl (kz_dg gme)))] [(o, .inr (4, [.int th, .int sta, .ref mt, .ref mn, .ref ml, .ref mc, .ref mh, .ref mk, .ref mp, .ref mm, .ref mb, .ref mw, .ref mr, .ref mx, .ref me, .ref mP, .ref mQ, .ref ms, .int hs, .int (nI (sz_)), .ref mo, .ref mW, .ref mD, .ref mB, .ref mR, .ref mS])), (mh, .inl (cI, 16, .inl gmh)), (mm, .inl (cI, 16, .inl (kz_dg gmm)))] sz) (va_Qv (fun (u : (Nat → Nat) × (Nat → Nat) × (Nat → Nat)) => (∀ j, u.1 j < 65536) ∧ (∀ j, u.2.1 j < 65536) ∧ (∀ j, u.2.2 j < 65536) ∧ True) (kz_B (dC, dI) vwCl (va_A [(mb, .inl (cI, 16, .inl (kz_dg gmb))), (mx, .inl (cI, 32, .inl (kz_dg gmx))), (me, .inl (cI, 18, .inl (kz_dg gme)))] sz) (fun u : (Nat → Nat) × (Nat → Nat) × (Nat → Nat) => [(mb, .inl (cI, 16, .inl (kz_dg u.1))), (mx, .inl (cI, 32, .inl (kz_dg u.2.1))), (me, .inl (cI, 18, .inl (kz_dg u.2.2)))])) (va_A [(mb, .inl (cI, 16, .inl (kz_dg gmb))), (mx, .inl (cI, 32, .inl (kz_dg gmx))), (me, .inl (cI, 18, .inl (kz_dg gme)))] sz)) 0 0 (va_A [(mb, .inl (cI, 16, .inl (kz_dg gmb))), (mx, .inl (cI, 32, .inl (kz_dg gmx))), (me, .inl (cI, 18, .inl (kz_dg gme)))] sz) := by
  refine kz_met (y := zy_N_hashRest) (ws := zw_N_hashRest) (av := [.ref o, .int (nI (sd)), .ref mb]) (sz := sz) (Qc := fun A => va_Qv (fun (u : (Nat → Nat) × (Nat → Nat) × (Nat → Nat)) => (∀ j, u.1 j < 65536) ∧ (∀ j, u.2.1 j < 65536) ∧ (∀ j, u.2.2 j < 65536) ∧ True) (kz_B (dC, dI) vwCl A (fun u : (Nat → Nat) × (Nat → Nat) × (Nat → Nat) => [(mb, .inl (cI, 16, .inl (kz_dg u.1))), (mx, .inl (cI, 32, .inl (kz_dg u.2.1))), (me, .inl (cI, 18, .inl (kz_dg u.2.2)))])) A) (cc := zc_N_hashRest) (maxL := 4) (ret := none) (by decide) rfl (Nat.le_of_ble_eq_true rfl) ?_
  intro p e s m below meth c A ls F hA hdy hK hro hZ hN hl
  obtain ⟨hx, hb, hml, hr, hown, hlocks, hts, hnm⟩ := id F
  have hl : lv_has ls 4 [(0, .ref o), (1, .int (nI (sd))), (2, .ref mb)] := hl
  refine lv_aload_n hx hb zd_N_hashRest_0 rfl (lv_at hl 0 rfl) ?_
  refine va_get (D := (dC, dI)) (ci := 4) (v := .ref mh) (C := zR_N) (T := zT_N) (N := 26) hx hb hts (fun w h => kz_c (zi_N w h)) hown hK (hro.ob hdy.2.2 (k := 0) rfl) 0 rfl rfl 6 (by decide) (hts _ (kz_c mw_597)) (fun _ h9 => h9) rfl zd_N_hashRest_1 ?_
  refine lv_bipush (v := (nI (8))) hx hb zd_N_hashRest_4 (by decide) ?_
  refine lv_iload_n hx hb zd_N_hashRest_6 rfl (lv_at hl 1 rfl) ?_
  refine kz_imul hx hb zd_N_hashRest_7 (pk_mul _ _) ?_
  refine lv_aload_n hx hb zd_N_hashRest_8 rfl (lv_at hl 0 rfl) ?_
  refine va_get (D := (dC, dI)) (ci := 4) (v := .ref mb) (C := zR_N) (T := zT_N) (N := 26) hx hb hts (fun w h => kz_c (zi_N w h)) hown hK (hro.ob hdy.2.2 (k := 0) rfl) 0 rfl rfl 10 (by decide) (hts _ (kz_c mw_601)) (fun _ h9 => h9) rfl zd_N_hashRest_9 ?_
  refine kz_callv (wk := [(mx, .inl (cI, 32, .inl (kz_dg gmx))), (me, .inl (cI, 18, .inl (kz_dg gme)))]) (va_runS (As := [.ref mh, .int (nI (8 * sd)), .ref mb]) (rest := []) ⟨hx, hb, hml, hown, hts⟩ (c_X_figures16 l dC dI cI cAA cB cL mb mh gmb gmh (8 * sd) _ hd_gmb (by first | omega | assumption)) (va_cwS 3 hts (kz_g (kz_mc mw_690 (kz_mc mw_691 (kz_mc mw_43 kz_mn))) mw_692) rfl rfl rfl (by decide +kernel) ⟨Nat.le_of_ble_eq_true rfl, Nat.le_of_ble_eq_true rfl⟩) (kz_preS hdy hA hK hro hZ hN [0] (by decide) rfl [(true, 1)] rfl (by decide) [0, 1, 2, 3] rfl (fun _ h => by cases h) (fun _ h => by cases h) rfl) rfl rfl hl.1 rfl (lv_room (Nat.le_of_ble_eq_true rfl)) zd_N_hashRest_12 ⟨Nat.le_of_ble_eq_true rfl, Nat.le_of_ble_eq_true rfl⟩) hdy hA [0] [1, 2] rfl rfl (by decide) (by decide) (fun u H locs hw hdy => ?_)
  obtain ⟨d1, rfl⟩ : ∃ z, z = u := ⟨_, rfl⟩
  try dsimp only at hw
  obtain ⟨hd_d1, q2, -⟩ := hw
  have hdy : kz_dy (dC, dI) vwCl A s.heap H locs [(mb, .inl (cI, 16, .inl (kz_dg d1))), (mx, .inl (cI, 32, .inl (kz_dg gmx))), (me, .inl (cI, 18, .inl (kz_dg gme)))] := hdy.sub [2, 0, 1] (by decide) rfl
  refine lv_iconst (v := (nI (0))) hx hb zd_N_hashRest_15 (by decide) ?_
  refine lv_istore_n (lv' := [(3, .int (nI (0))), (0, .ref o), (1, .int (nI (sd))), (2, .ref mb)]) hx hb zd_N_hashRest_16 rfl hl (by decide) rfl (fun ls hl => ?_)
  have lp17 : ∀ (n17 k17 : Nat) (d3 : Nat → Nat) (H : Heap) (locs : List Loc) (ls : Array Slot), k17 ≤ 32 → 32 - k17 < n17 → (∀ j, d3 j < 65536) → kz_dy (dC, dI) vwCl A s.heap H locs [(mb, .inl (cI, 16, .inl (kz_dg d1))), (mx, .inl (cI, 32, .inl (kz_dg d3))), (me, .inl (cI, 18, .inl (kz_dg gme)))] → lv_has ls 4 [(3, .int (nI (k17))), (0, .ref o), (1, .int (nI (sd))), (2, .ref mb)] → W p l e { frames := 2, cells := 0, slots := 0, locals := 55 } s m ([.ref o, .int (nI (sd)), .ref mb] : List Value).toArray below meth c H locs 0 0 (MQ below (va_Qv (fun (u : (Nat → Nat) × (Nat → Nat) × (Nat → Nat)) => (∀ j, u.1 j < 65536) ∧ (∀ j, u.2.1 j < 65536) ∧ (∀ j, u.2.2 j < 65536) ∧ True) (kz_B (dC, dI) vwCl A (fun u : (Nat → Nat) × (Nat → Nat) × (Nat → Nat) => [(mb, .inl (cI, 16, .inl (kz_dg u.1))), (mx, .inl (cI, 32, .inl (kz_dg u.2.1))), (me, .inl (cI, 18, .inl (kz_dg u.2.2)))])) A) ([.ref o, .int (nI (sd)), .ref mb] : List Value).toArray s 0 0 A) (F0 m 17 ls []) := by
    intro n17
    induction n17 with
    | zero => intro k17; intros; omega
    | succ n17 ih17 =>
      intro k17 d3 H locs ls hi17 hn17 hd_d3 hdy hl
      refine lv_iload_n hx hb zd_N_hashRest_17 rfl (lv_at hl 0 rfl) ?_
      refine lv_bipush (v := (nI (32))) hx hb zd_N_hashRest_18 (by decide) ?_
      refine lv_icmp_ge (tgt := 51) hx hb zd_N_hashRest_20 (by decide) (fun hc20 => ?_) (fun hc20 => ?_)
      · have hc20 : 32 ≤ k17 := (nI_leI (by omega) (by omega)).mp hc20
        refine lv_aload_n hx hb zd_N_hashRest_51 rfl (lv_at hl 1 rfl) ?_
        refine lv_aload_n hx hb zd_N_hashRest_52 rfl (lv_at hl 3 rfl) ?_
        refine kz_callv (wk := [(mx, .inl (cI, 32, .inl (kz_dg d3)))]) (va_runV (As := [.ref mb]) (rest := []) ⟨hx, hb, hml, hown, hts⟩ (c_Z_remain l dC dI cI cAA cB cL me mb o mt mn ml mc mh mk mp mm mb mw mr mx mP mQ ms mo mW mD mB mR mS gme d1 (th) (sta) (hs) sz_ gmm d3 _ hd_gme hd_d1 hd_gmm hd_d3 (by first | omega | assumption)) (cwV 1 hts (kz_g (kz_mc mw_729 (kz_mc mw_731 (kz_mc mw_27 (kz_mc mw_43 kz_mn)))) mw_732) rfl rfl rfl (by decide +kernel) ⟨Nat.le_of_ble_eq_true rfl, Nat.le_of_ble_eq_true rfl⟩) (kz_preVr hdy hA hK hro hZ hN [2, 0] (by decide) rfl [(true, 0), (true, 2), (false, 1)] rfl (by decide) [0, 1, 2, 3] rfl (fun _ h => by cases h) (fun _ h => by cases h) rfl (ci := 4) (q0 := 0) rfl rfl rfl) rfl rfl hl.1 rfl (lv_room (Nat.le_of_ble_eq_true rfl)) zd_N_hashRest_53 ⟨Nat.le_of_ble_eq_true rfl, Nat.le_of_ble_eq_true rfl⟩) hdy hA [2, 0] [1] rfl rfl (by decide) (by decide) (fun u H locs hw hdy => ?_)
        obtain ⟨d4, d5⟩ := u
        try dsimp only at hw
        obtain ⟨hd_d4, hd_d5, -⟩ := hw
        have hdy : kz_dy (dC, dI) vwCl A s.heap H locs [(mb, .inl (cI, 16, .inl (kz_dg d5))), (mx, .inl (cI, 32, .inl (kz_dg d3))), (me, .inl (cI, 18, .inl (kz_dg d4)))] := hdy.sub [2, 0, 1] (by decide) rfl
        exact kz_vret F (d5, d3, d4) hdy (⟨hd_d5, hd_d3, hd_d4, trivial⟩) zd_N_hashRest_56
      · have hc20 : ¬ 32 ≤ k17 := fun h9 => hc20 ((nI_leI (by omega) (by omega)).mpr h9)
        refine lv_aload_n hx hb zd_N_hashRest_23 rfl (lv_at hl 1 rfl) ?_
        refine va_get (D := (dC, dI)) (ci := 4) (v := .ref mx) (C := zR_N) (T := zT_N) (N := 26) hx hb hts (fun w h => kz_c (zi_N w h)) hown hK (hro.ob hdy.2.2 (k := 0) rfl) 0 rfl rfl 13 (by decide) (hts _ (kz_c mw_604)) (fun _ h9 => h9) rfl zd_N_hashRest_24 ?_
        refine lv_iload_n hx hb zd_N_hashRest_27 rfl (lv_at hl 0 rfl) ?_
        refine lv_iload_n hx hb zd_N_hashRest_28 rfl (lv_at hl 0 rfl) ?_
        refine lv_bipush (v := (nI (16))) hx hb zd_N_hashRest_29 (by decide) ?_
        refine lv_icmp_ge (tgt := 43) hx hb zd_N_hashRest_31 (by decide) (fun hc31 => ?_) (fun hc31 => ?_)
        · have hc31 : 16 ≤ k17 := (nI_leI (by omega) (by omega)).mp hc31
          refine lv_iconst (v := (nI (0))) hx hb zd_N_hashRest_43 (by decide) ?_
          refine va_iast hx hb hK hdy.1 hdy.2.1 hdy.2.2 1 0 rfl rfl (vp_in_nI (by omega) (by omega)) zd_N_hashRest_44 (fun H locs hP hD hS => ?_)
          have h9 := kz_dgu d3 (k := k17) 0 (by omega)
          rw [h9] at hP hD
          obtain ⟨f6, ef6, hd_f6, hdy⟩ : ∃ f6 : Nat → Nat, f6 = kv_up d3 k17 0 ∧ (∀ j, f6 j < 65536) ∧ kz_dy (dC, dI) vwCl A s.heap H locs [(mb, .inl (cI, 16, .inl (kz_dg d1))), (mx, .inl (cI, 32, .inl (kz_dg f6))), (me, .inl (cI, 18, .inl (kz_dg gme)))] := ⟨_, rfl, kv_up_lt hd_d3 (by omega), hP, hD, hS⟩
          refine lv_iinc (v := (nI (k17 + 1))) (lv' := [(3, .int (nI (k17 + 1))), (0, .ref o), (1, .int (nI (sd))), (2, .ref mb)]) hx hb zd_N_hashRest_45 hl (k := 0) rfl (nI_1 _) (by decide) rfl (fun ls hl => ?_)
          refine lv_goto (tgt := 17) hx hb zd_N_hashRest_48 (by decide) ?_
          exact ih17 (k17 + 1) f6 _ _ _ (by omega) (by omega) hd_f6 hdy (lv_sub hl [0, 1, 2, 3] rfl)
        · have hc31 : ¬ 16 ≤ k17 := fun h9 => hc31 ((nI_leI (by omega) (by omega)).mpr h9)
          refine lv_aload_n hx hb zd_N_hashRest_34 rfl (lv_at hl 1 rfl) ?_
          refine va_get (D := (dC, dI)) (ci := 4) (v := .ref mb) (C := zR_N) (T := zT_N) (N := 26) hx hb hts (fun w h => kz_c (zi_N w h)) hown hK (hro.ob hdy.2.2 (k := 0) rfl) 0 rfl rfl 10 (by decide) (hts _ (kz_c mw_601)) (fun _ h9 => h9) rfl zd_N_hashRest_35 ?_
          refine lv_iload_n hx hb zd_N_hashRest_38 rfl (lv_at hl 0 rfl) ?_
          refine va_iald hx hb hK hdy.1 0 0 rfl rfl (vp_in_nI (by omega) (by omega)) zd_N_hashRest_39 ?_
          refine lv_topi (fun x7 h9 => ?_)
          obtain rfl : x7 = nI (d1 k17) := h9.trans (kz_dgl d1 (by omega))
          have hbx7 := hd_d1 k17
          refine lv_goto (tgt := 44) hx hb zd_N_hashRest_40 (by decide) ?_
          refine va_iast hx hb hK hdy.1 hdy.2.1 hdy.2.2 1 0 rfl rfl (vp_in_nI (by omega) (by omega)) zd_N_hashRest_44 (fun H locs hP hD hS => ?_)
          have h9 := kz_dgu d3 (k := k17) (d1 k17) (by omega)
          rw [h9] at hP hD
          obtain ⟨f8, ef8, hd_f8, hdy⟩ : ∃ f8 : Nat → Nat, f8 = kv_up d3 k17 (d1 k17) ∧ (∀ j, f8 j < 65536) ∧ kz_dy (dC, dI) vwCl A s.heap H locs [(mb, .inl (cI, 16, .inl (kz_dg d1))), (mx, .inl (cI, 32, .inl (kz_dg f8))), (me, .inl (cI, 18, .inl (kz_dg gme)))] := ⟨_, rfl, kv_up_lt hd_d3 (by omega), hP, hD, hS⟩
          refine lv_iinc (v := (nI (k17 + 1))) (lv' := [(3, .int (nI (k17 + 1))), (0, .ref o), (1, .int (nI (sd))), (2, .ref mb)]) hx hb zd_N_hashRest_45 hl (k := 0) rfl (nI_1 _) (by decide) rfl (fun ls hl => ?_)
          refine lv_goto (tgt := 17) hx hb zd_N_hashRest_48 (by decide) ?_
          exact ih17 (k17 + 1) f8 _ _ _ (by omega) (by omega) hd_f8 hdy (lv_sub hl [0, 1, 2, 3] rfl)
  exact lp17 (32 - 0 + 1) 0 gmx _ _ _ (by omega) (by omega) hd_gmx hdy (lv_sub hl [0, 1, 2, 3] rfl)

set_option maxHeartbeats 4000000 in
set_option maxRecDepth 100000 in
/-- KeyMeetingModel.hashRest(I[I)V -/
theorem c_U_hashRestQ (l : Launch) (dC : Nat → ClassId) (dI : Nat → Nat → Nat) (cI cAA cB cL : ClassId) (mb mx me mQ o mt mn ml mc mh mk mp mm mw mr mP ms mo mW mD mB mR mS : Nat) (gmb : Nat → Nat) (gmx : Nat → Nat) (gme : Nat → Nat) (gmQ : Nat → Nat) (th : Int32) (sta : Int32) (hs : Int32) (sz_ : Nat) (gmh : Nat → Int32) (gmm : Nat → Nat) (sd : Nat) (sz : Nat) (hd_gmb : ∀ j, gmb j < 65536) (hd_gmx : ∀ j, gmx j < 65536) (hd_gme : ∀ j, gme j < 65536) (hd_gmQ : ∀ j, gmQ j < 65536) (hd_gmm : ∀ j, gmm j < 65536) (hsd : sd < 2) (hnz : kv_some gmm 0 16) : Met l zy_N_hashRest zw_N_hashRest { frames := 2, cells := 0, slots := 0, locals := 55 } (kz_Pc (dC, dI) vwCl [(cI, .int), (cAA, .array .int), (cB, .byte), (cL, .long)] [] [] [.ref o, .int (nI (sd)), .ref mQ] [(mb, .inl (cI, 16, .inl (kz_dg gmb))), (mx, .inl (cI, 32, .inl (kz_dg gmx))), (me, .inl (cI, 18, .inl (kz_dg gme))), (mQ, .inl (cI, 16, .inl (kz_dg gmQ)))] [(o, .inr (4, [.int th, .int sta, .ref mt, .ref mn, .ref ml, .ref mc, .ref mh, .ref mk, .ref mp, .ref mm, .ref mb, .ref mw, .ref mr, .ref mx, .ref me, .ref mP, .ref mQ, .ref ms, .int hs, .int (nI (sz_)), .ref mo, .ref mW, .ref mD, .ref mB, .ref mR, .ref mS])), (mh, .inl (cI, 16, .inl gmh)), (mm, .inl (cI, 16, .inl (kz_dg gmm)))] sz) (va_Qv (fun (u : (Nat → Nat) × (Nat → Nat) × (Nat → Nat) × (Nat → Nat)) => (∀ j, u.1 j < 65536) ∧ (∀ j, u.2.1 j < 65536) ∧ (∀ j, u.2.2.1 j < 65536) ∧ (∀ j, u.2.2.2 j < 65536) ∧ True) (kz_B (dC, dI) vwCl (va_A [(mb, .inl (cI, 16, .inl (kz_dg gmb))), (mx, .inl (cI, 32, .inl (kz_dg gmx))), (me, .inl (cI, 18, .inl (kz_dg gme))), (mQ, .inl (cI, 16, .inl (kz_dg gmQ)))] sz) (fun u : (Nat → Nat) × (Nat → Nat) × (Nat → Nat) × (Nat → Nat) => [(mb, .inl (cI, 16, .inl (kz_dg u.1))), (mx, .inl (cI, 32, .inl (kz_dg u.2.1))), (me, .inl (cI, 18, .inl (kz_dg u.2.2.1))), (mQ, .inl (cI, 16, .inl (kz_dg u.2.2.2)))])) (va_A [(mb, .inl (cI, 16, .inl (kz_dg gmb))), (mx, .inl (cI, 32, .inl (kz_dg gmx))), (me, .inl (cI, 18, .inl (kz_dg gme))), (mQ, .inl (cI, 16, .inl (kz_dg gmQ)))] sz)) 0 0 (va_A [(mb, .inl (cI, 16, .inl (kz_dg gmb))), (mx, .inl (cI, 32, .inl (kz_dg gmx))), (me, .inl (cI, 18, .inl (kz_dg gme))), (mQ, .inl (cI, 16, .inl (kz_dg gmQ)))] sz) := by
  refine kz_met (y := zy_N_hashRest) (ws := zw_N_hashRest) (av := [.ref o, .int (nI (sd)), .ref mQ]) (sz := sz) (Qc := fun A => va_Qv (fun (u : (Nat → Nat) × (Nat → Nat) × (Nat → Nat) × (Nat → Nat)) => (∀ j, u.1 j < 65536) ∧ (∀ j, u.2.1 j < 65536) ∧ (∀ j, u.2.2.1 j < 65536) ∧ (∀ j, u.2.2.2 j < 65536) ∧ True) (kz_B (dC, dI) vwCl A (fun u : (Nat → Nat) × (Nat → Nat) × (Nat → Nat) × (Nat → Nat) => [(mb, .inl (cI, 16, .inl (kz_dg u.1))), (mx, .inl (cI, 32, .inl (kz_dg u.2.1))), (me, .inl (cI, 18, .inl (kz_dg u.2.2.1))), (mQ, .inl (cI, 16, .inl (kz_dg u.2.2.2)))])) A) (cc := zc_N_hashRest) (maxL := 4) (ret := none) (by decide) rfl (Nat.le_of_ble_eq_true rfl) ?_
  intro p e s m below meth c A ls F hA hdy hK hro hZ hN hl
  obtain ⟨hx, hb, hml, hr, hown, hlocks, hts, hnm⟩ := id F
  have hl : lv_has ls 4 [(0, .ref o), (1, .int (nI (sd))), (2, .ref mQ)] := hl
  refine lv_aload_n hx hb zd_N_hashRest_0 rfl (lv_at hl 0 rfl) ?_
  refine va_get (D := (dC, dI)) (ci := 4) (v := .ref mh) (C := zR_N) (T := zT_N) (N := 26) hx hb hts (fun w h => kz_c (zi_N w h)) hown hK (hro.ob hdy.2.2 (k := 0) rfl) 0 rfl rfl 6 (by decide) (hts _ (kz_c mw_597)) (fun _ h9 => h9) rfl zd_N_hashRest_1 ?_
  refine lv_bipush (v := (nI (8))) hx hb zd_N_hashRest_4 (by decide) ?_
  refine lv_iload_n hx hb zd_N_hashRest_6 rfl (lv_at hl 1 rfl) ?_
  refine kz_imul hx hb zd_N_hashRest_7 (pk_mul _ _) ?_
  refine lv_aload_n hx hb zd_N_hashRest_8 rfl (lv_at hl 0 rfl) ?_
  refine va_get (D := (dC, dI)) (ci := 4) (v := .ref mb) (C := zR_N) (T := zT_N) (N := 26) hx hb hts (fun w h => kz_c (zi_N w h)) hown hK (hro.ob hdy.2.2 (k := 0) rfl) 0 rfl rfl 10 (by decide) (hts _ (kz_c mw_601)) (fun _ h9 => h9) rfl zd_N_hashRest_9 ?_
  refine kz_callv (wk := [(mx, .inl (cI, 32, .inl (kz_dg gmx))), (me, .inl (cI, 18, .inl (kz_dg gme))), (mQ, .inl (cI, 16, .inl (kz_dg gmQ)))]) (va_runS (As := [.ref mh, .int (nI (8 * sd)), .ref mb]) (rest := []) ⟨hx, hb, hml, hown, hts⟩ (c_X_figures16 l dC dI cI cAA cB cL mb mh gmb gmh (8 * sd) _ hd_gmb (by first | omega | assumption)) (va_cwS 3 hts (kz_g (kz_mc mw_690 (kz_mc mw_691 (kz_mc mw_43 kz_mn))) mw_692) rfl rfl rfl (by decide +kernel) ⟨Nat.le_of_ble_eq_true rfl, Nat.le_of_ble_eq_true rfl⟩) (kz_preS hdy hA hK hro hZ hN [0] (by decide) rfl [(true, 1)] rfl (by decide) [0, 1, 2, 3] rfl (fun _ h => by cases h) (fun _ h => by cases h) rfl) rfl rfl hl.1 rfl (lv_room (Nat.le_of_ble_eq_true rfl)) zd_N_hashRest_12 ⟨Nat.le_of_ble_eq_true rfl, Nat.le_of_ble_eq_true rfl⟩) hdy hA [0] [1, 2, 3] rfl rfl (by decide) (by decide) (fun u H locs hw hdy => ?_)
  obtain ⟨d1, rfl⟩ : ∃ z, z = u := ⟨_, rfl⟩
  try dsimp only at hw
  obtain ⟨hd_d1, q2, -⟩ := hw
  have hdy : kz_dy (dC, dI) vwCl A s.heap H locs [(mb, .inl (cI, 16, .inl (kz_dg d1))), (mx, .inl (cI, 32, .inl (kz_dg gmx))), (me, .inl (cI, 18, .inl (kz_dg gme))), (mQ, .inl (cI, 16, .inl (kz_dg gmQ)))] := hdy.sub [3, 0, 1, 2] (by decide) rfl
  refine lv_iconst (v := (nI (0))) hx hb zd_N_hashRest_15 (by decide) ?_
  refine lv_istore_n (lv' := [(3, .int (nI (0))), (0, .ref o), (1, .int (nI (sd))), (2, .ref mQ)]) hx hb zd_N_hashRest_16 rfl hl (by decide) rfl (fun ls hl => ?_)
  have lp17 : ∀ (n17 k17 : Nat) (d3 : Nat → Nat) (H : Heap) (locs : List Loc) (ls : Array Slot), k17 ≤ 32 → 32 - k17 < n17 → (∀ j, d3 j < 65536) → kz_dy (dC, dI) vwCl A s.heap H locs [(mb, .inl (cI, 16, .inl (kz_dg d1))), (mx, .inl (cI, 32, .inl (kz_dg d3))), (me, .inl (cI, 18, .inl (kz_dg gme))), (mQ, .inl (cI, 16, .inl (kz_dg gmQ)))] → lv_has ls 4 [(3, .int (nI (k17))), (0, .ref o), (1, .int (nI (sd))), (2, .ref mQ)] → W p l e { frames := 2, cells := 0, slots := 0, locals := 55 } s m ([.ref o, .int (nI (sd)), .ref mQ] : List Value).toArray below meth c H locs 0 0 (MQ below (va_Qv (fun (u : (Nat → Nat) × (Nat → Nat) × (Nat → Nat) × (Nat → Nat)) => (∀ j, u.1 j < 65536) ∧ (∀ j, u.2.1 j < 65536) ∧ (∀ j, u.2.2.1 j < 65536) ∧ (∀ j, u.2.2.2 j < 65536) ∧ True) (kz_B (dC, dI) vwCl A (fun u : (Nat → Nat) × (Nat → Nat) × (Nat → Nat) × (Nat → Nat) => [(mb, .inl (cI, 16, .inl (kz_dg u.1))), (mx, .inl (cI, 32, .inl (kz_dg u.2.1))), (me, .inl (cI, 18, .inl (kz_dg u.2.2.1))), (mQ, .inl (cI, 16, .inl (kz_dg u.2.2.2)))])) A) ([.ref o, .int (nI (sd)), .ref mQ] : List Value).toArray s 0 0 A) (F0 m 17 ls []) := by
    intro n17
    induction n17 with
    | zero => intro k17; intros; omega
    | succ n17 ih17 =>
      intro k17 d3 H locs ls hi17 hn17 hd_d3 hdy hl
      refine lv_iload_n hx hb zd_N_hashRest_17 rfl (lv_at hl 0 rfl) ?_
      refine lv_bipush (v := (nI (32))) hx hb zd_N_hashRest_18 (by decide) ?_
      refine lv_icmp_ge (tgt := 51) hx hb zd_N_hashRest_20 (by decide) (fun hc20 => ?_) (fun hc20 => ?_)
      · have hc20 : 32 ≤ k17 := (nI_leI (by omega) (by omega)).mp hc20
        refine lv_aload_n hx hb zd_N_hashRest_51 rfl (lv_at hl 1 rfl) ?_
        refine lv_aload_n hx hb zd_N_hashRest_52 rfl (lv_at hl 3 rfl) ?_
        refine kz_callv (wk := [(mb, .inl (cI, 16, .inl (kz_dg d1))), (mx, .inl (cI, 32, .inl (kz_dg d3)))]) (va_runV (As := [.ref mQ]) (rest := []) ⟨hx, hb, hml, hown, hts⟩ (c_Z_remain l dC dI cI cAA cB cL me mQ o mt mn ml mc mh mk mp mm mb mw mr mx mP mQ ms mo mW mD mB mR mS gme gmQ (th) (sta) (hs) sz_ gmm d3 _ hd_gme hd_gmQ hd_gmm hd_d3 (by first | omega | assumption)) (cwV 1 hts (kz_g (kz_mc mw_729 (kz_mc mw_731 (kz_mc mw_27 (kz_mc mw_43 kz_mn)))) mw_732) rfl rfl rfl (by decide +kernel) ⟨Nat.le_of_ble_eq_true rfl, Nat.le_of_ble_eq_true rfl⟩) (kz_preVr hdy hA hK hro hZ hN [2, 3] (by decide) rfl [(true, 0), (true, 2), (false, 1)] rfl (by decide) [0, 1, 2, 3] rfl (fun _ h => by cases h) (fun _ h => by cases h) rfl (ci := 4) (q0 := 0) rfl rfl rfl) rfl rfl hl.1 rfl (lv_room (Nat.le_of_ble_eq_true rfl)) zd_N_hashRest_53 ⟨Nat.le_of_ble_eq_true rfl, Nat.le_of_ble_eq_true rfl⟩) hdy hA [2, 3] [0, 1] rfl rfl (by decide) (by decide) (fun u H locs hw hdy => ?_)
        obtain ⟨d4, d5⟩ := u
        try dsimp only at hw
        obtain ⟨hd_d4, hd_d5, -⟩ := hw
        have hdy : kz_dy (dC, dI) vwCl A s.heap H locs [(mb, .inl (cI, 16, .inl (kz_dg d1))), (mx, .inl (cI, 32, .inl (kz_dg d3))), (me, .inl (cI, 18, .inl (kz_dg d4))), (mQ, .inl (cI, 16, .inl (kz_dg d5)))] := hdy.sub [0, 1, 2, 3] (by decide) rfl
        exact kz_vret F (d1, d3, d4, d5) hdy (⟨hd_d1, hd_d3, hd_d4, hd_d5, trivial⟩) zd_N_hashRest_56
      · have hc20 : ¬ 32 ≤ k17 := fun h9 => hc20 ((nI_leI (by omega) (by omega)).mpr h9)
        refine lv_aload_n hx hb zd_N_hashRest_23 rfl (lv_at hl 1 rfl) ?_
        refine va_get (D := (dC, dI)) (ci := 4) (v := .ref mx) (C := zR_N) (T := zT_N) (N := 26) hx hb hts (fun w h => kz_c (zi_N w h)) hown hK (hro.ob hdy.2.2 (k := 0) rfl) 0 rfl rfl 13 (by decide) (hts _ (kz_c mw_604)) (fun _ h9 => h9) rfl zd_N_hashRest_24 ?_
        refine lv_iload_n hx hb zd_N_hashRest_27 rfl (lv_at hl 0 rfl) ?_
        refine lv_iload_n hx hb zd_N_hashRest_28 rfl (lv_at hl 0 rfl) ?_
        refine lv_bipush (v := (nI (16))) hx hb zd_N_hashRest_29 (by decide) ?_
        refine lv_icmp_ge (tgt := 43) hx hb zd_N_hashRest_31 (by decide) (fun hc31 => ?_) (fun hc31 => ?_)
        · have hc31 : 16 ≤ k17 := (nI_leI (by omega) (by omega)).mp hc31
          refine lv_iconst (v := (nI (0))) hx hb zd_N_hashRest_43 (by decide) ?_
          refine va_iast hx hb hK hdy.1 hdy.2.1 hdy.2.2 1 0 rfl rfl (vp_in_nI (by omega) (by omega)) zd_N_hashRest_44 (fun H locs hP hD hS => ?_)
          have h9 := kz_dgu d3 (k := k17) 0 (by omega)
          rw [h9] at hP hD
          obtain ⟨f6, ef6, hd_f6, hdy⟩ : ∃ f6 : Nat → Nat, f6 = kv_up d3 k17 0 ∧ (∀ j, f6 j < 65536) ∧ kz_dy (dC, dI) vwCl A s.heap H locs [(mb, .inl (cI, 16, .inl (kz_dg d1))), (mx, .inl (cI, 32, .inl (kz_dg f6))), (me, .inl (cI, 18, .inl (kz_dg gme))), (mQ, .inl (cI, 16, .inl (kz_dg gmQ)))] := ⟨_, rfl, kv_up_lt hd_d3 (by omega), hP, hD, hS⟩
          refine lv_iinc (v := (nI (k17 + 1))) (lv' := [(3, .int (nI (k17 + 1))), (0, .ref o), (1, .int (nI (sd))), (2, .ref mQ)]) hx hb zd_N_hashRest_45 hl (k := 0) rfl (nI_1 _) (by decide) rfl (fun ls hl => ?_)
          refine lv_goto (tgt := 17) hx hb zd_N_hashRest_48 (by decide) ?_
          exact ih17 (k17 + 1) f6 _ _ _ (by omega) (by omega) hd_f6 hdy (lv_sub hl [0, 1, 2, 3] rfl)
        · have hc31 : ¬ 16 ≤ k17 := fun h9 => hc31 ((nI_leI (by omega) (by omega)).mpr h9)
          refine lv_aload_n hx hb zd_N_hashRest_34 rfl (lv_at hl 1 rfl) ?_
          refine va_get (D := (dC, dI)) (ci := 4) (v := .ref mb) (C := zR_N) (T := zT_N) (N := 26) hx hb hts (fun w h => kz_c (zi_N w h)) hown hK (hro.ob hdy.2.2 (k := 0) rfl) 0 rfl rfl 10 (by decide) (hts _ (kz_c mw_601)) (fun _ h9 => h9) rfl zd_N_hashRest_35 ?_
          refine lv_iload_n hx hb zd_N_hashRest_38 rfl (lv_at hl 0 rfl) ?_
          refine va_iald hx hb hK hdy.1 0 0 rfl rfl (vp_in_nI (by omega) (by omega)) zd_N_hashRest_39 ?_
          refine lv_topi (fun x7 h9 => ?_)
          obtain rfl : x7 = nI (d1 k17) := h9.trans (kz_dgl d1 (by omega))
          have hbx7 := hd_d1 k17
          refine lv_goto (tgt := 44) hx hb zd_N_hashRest_40 (by decide) ?_
          refine va_iast hx hb hK hdy.1 hdy.2.1 hdy.2.2 1 0 rfl rfl (vp_in_nI (by omega) (by omega)) zd_N_hashRest_44 (fun H locs hP hD hS => ?_)
          have h9 := kz_dgu d3 (k := k17) (d1 k17) (by omega)
          rw [h9] at hP hD
          obtain ⟨f8, ef8, hd_f8, hdy⟩ : ∃ f8 : Nat → Nat, f8 = kv_up d3 k17 (d1 k17) ∧ (∀ j, f8 j < 65536) ∧ kz_dy (dC, dI) vwCl A s.heap H locs [(mb, .inl (cI, 16, .inl (kz_dg d1))), (mx, .inl (cI, 32, .inl (kz_dg f8))), (me, .inl (cI, 18, .inl (kz_dg gme))), (mQ, .inl (cI, 16, .inl (kz_dg gmQ)))] := ⟨_, rfl, kv_up_lt hd_d3 (by omega), hP, hD, hS⟩
          refine lv_iinc (v := (nI (k17 + 1))) (lv' := [(3, .int (nI (k17 + 1))), (0, .ref o), (1, .int (nI (sd))), (2, .ref mQ)]) hx hb zd_N_hashRest_45 hl (k := 0) rfl (nI_1 _) (by decide) rfl (fun ls hl => ?_)
          refine lv_goto (tgt := 17) hx hb zd_N_hashRest_48 (by decide) ?_
          exact ih17 (k17 + 1) f8 _ _ _ (by omega) (by omega) hd_f8 hdy (lv_sub hl [0, 1, 2, 3] rfl)
  exact lp17 (32 - 0 + 1) 0 gmx _ _ _ (by omega) (by omega) hd_gmx hdy (lv_sub hl [0, 1, 2, 3] rfl)

set_option maxHeartbeats 4000000 in
set_option maxRecDepth 100000 in
/-- KeyMeetingModel.isSigned()Z -/
theorem c_U_isSigned (l : Launch) (dC : Nat → ClassId) (dI : Nat → Nat → Nat) (cI cAA cB cL : ClassId) (mm mb mw mr mx me mP mQ o mt mn ml mc mh mk mp ms mo mW mD mB mR mS : Nat) (gmm : Nat → Nat) (gmb : Nat → Nat) (gmw : Nat → Int32) (gmr : Nat → Nat) (gmx : Nat → Nat) (gme : Nat → Nat) (gmP : Nat → Nat) (gmQ : Nat → Nat) (th : Int32) (sta : Int32) (hs : Int32) (sz_ : Nat) (gmn : Nat → Int32) (gmh : Nat → Int32) (sz : Nat) (hd_gmm : ∀ j, gmm j < 65536) (hd_gmb : ∀ j, gmb j < 65536) (hd_gmr : ∀ j, gmr j < 65536) (hd_gmx : ∀ j, gmx j < 65536) (hd_gme : ∀ j, gme j < 65536) (hd_gmP : ∀ j, gmP j < 65536) (hd_gmQ : ∀ j, gmQ j < 65536) : Met l zy_N_isSigned zw_N_isSigned { frames := 3, cells := 0, slots := 0, locals := 78 } (kz_Pc (dC, dI) vwCl [(cI, .int), (cAA, .array .int), (cB, .byte), (cL, .long)] [] [] [.ref o] [(mm, .inl (cI, 16, .inl (kz_dg gmm))), (mb, .inl (cI, 16, .inl (kz_dg gmb))), (mw, .inl (cI, 16, .inl gmw)), (mr, .inl (cI, 16, .inl (kz_dg gmr))), (mx, .inl (cI, 32, .inl (kz_dg gmx))), (me, .inl (cI, 18, .inl (kz_dg gme))), (mP, .inl (cI, 16, .inl (kz_dg gmP))), (mQ, .inl (cI, 16, .inl (kz_dg gmQ)))] [(o, .inr (4, [.int th, .int sta, .ref mt, .ref mn, .ref ml, .ref mc, .ref mh, .ref mk, .ref mp, .ref mm, .ref mb, .ref mw, .ref mr, .ref mx, .ref me, .ref mP, .ref mQ, .ref ms, .int hs, .int (nI (sz_)), .ref mo, .ref mW, .ref mD, .ref mB, .ref mR, .ref mS])), (mn, .inl (cI, 32, .inl gmn)), (mh, .inl (cI, 16, .inl gmh))] sz) (va_Qi (fun (r : Int32) (u : (Nat → Nat) × (Nat → Nat) × (Nat → Int32) × (Nat → Nat) × (Nat → Nat) × (Nat → Nat) × (Nat → Nat) × (Nat → Nat)) => (∀ j, u.1 j < 65536) ∧ (∀ j, u.2.1 j < 65536) ∧ (∀ j, u.2.2.2.1 j < 65536) ∧ (∀ j, u.2.2.2.2.1 j < 65536) ∧ (∀ j, u.2.2.2.2.2.1 j < 65536) ∧ (∀ j, u.2.2.2.2.2.2.1 j < 65536) ∧ (∀ j, u.2.2.2.2.2.2.2 j < 65536) ∧ (r = 0 ∨ r = 1) ∧ True) (kz_B (dC, dI) vwCl (va_A [(mm, .inl (cI, 16, .inl (kz_dg gmm))), (mb, .inl (cI, 16, .inl (kz_dg gmb))), (mw, .inl (cI, 16, .inl gmw)), (mr, .inl (cI, 16, .inl (kz_dg gmr))), (mx, .inl (cI, 32, .inl (kz_dg gmx))), (me, .inl (cI, 18, .inl (kz_dg gme))), (mP, .inl (cI, 16, .inl (kz_dg gmP))), (mQ, .inl (cI, 16, .inl (kz_dg gmQ)))] sz) (fun u : (Nat → Nat) × (Nat → Nat) × (Nat → Int32) × (Nat → Nat) × (Nat → Nat) × (Nat → Nat) × (Nat → Nat) × (Nat → Nat) => [(mm, .inl (cI, 16, .inl (kz_dg u.1))), (mb, .inl (cI, 16, .inl (kz_dg u.2.1))), (mw, .inl (cI, 16, .inl u.2.2.1)), (mr, .inl (cI, 16, .inl (kz_dg u.2.2.2.1))), (mx, .inl (cI, 32, .inl (kz_dg u.2.2.2.2.1))), (me, .inl (cI, 18, .inl (kz_dg u.2.2.2.2.2.1))), (mP, .inl (cI, 16, .inl (kz_dg u.2.2.2.2.2.2.1))), (mQ, .inl (cI, 16, .inl (kz_dg u.2.2.2.2.2.2.2)))])) (va_A [(mm, .inl (cI, 16, .inl (kz_dg gmm))), (mb, .inl (cI, 16, .inl (kz_dg gmb))), (mw, .inl (cI, 16, .inl gmw)), (mr, .inl (cI, 16, .inl (kz_dg gmr))), (mx, .inl (cI, 32, .inl (kz_dg gmx))), (me, .inl (cI, 18, .inl (kz_dg gme))), (mP, .inl (cI, 16, .inl (kz_dg gmP))), (mQ, .inl (cI, 16, .inl (kz_dg gmQ)))] sz)) 0 0 (va_A [(mm, .inl (cI, 16, .inl (kz_dg gmm))), (mb, .inl (cI, 16, .inl (kz_dg gmb))), (mw, .inl (cI, 16, .inl gmw)), (mr, .inl (cI, 16, .inl (kz_dg gmr))), (mx, .inl (cI, 32, .inl (kz_dg gmx))), (me, .inl (cI, 18, .inl (kz_dg gme))), (mP, .inl (cI, 16, .inl (kz_dg gmP))), (mQ, .inl (cI, 16, .inl (kz_dg gmQ)))] sz) := by
  refine kz_met (y := zy_N_isSigned) (ws := zw_N_isSigned) (av := [.ref o]) (sz := sz) (Qc := fun A => va_Qi (fun (r : Int32) (u : (Nat → Nat) × (Nat → Nat) × (Nat → Int32) × (Nat → Nat) × (Nat → Nat) × (Nat → Nat) × (Nat → Nat) × (Nat → Nat)) => (∀ j, u.1 j < 65536) ∧ (∀ j, u.2.1 j < 65536) ∧ (∀ j, u.2.2.2.1 j < 65536) ∧ (∀ j, u.2.2.2.2.1 j < 65536) ∧ (∀ j, u.2.2.2.2.2.1 j < 65536) ∧ (∀ j, u.2.2.2.2.2.2.1 j < 65536) ∧ (∀ j, u.2.2.2.2.2.2.2 j < 65536) ∧ (r = 0 ∨ r = 1) ∧ True) (kz_B (dC, dI) vwCl A (fun u : (Nat → Nat) × (Nat → Nat) × (Nat → Int32) × (Nat → Nat) × (Nat → Nat) × (Nat → Nat) × (Nat → Nat) × (Nat → Nat) => [(mm, .inl (cI, 16, .inl (kz_dg u.1))), (mb, .inl (cI, 16, .inl (kz_dg u.2.1))), (mw, .inl (cI, 16, .inl u.2.2.1)), (mr, .inl (cI, 16, .inl (kz_dg u.2.2.2.1))), (mx, .inl (cI, 32, .inl (kz_dg u.2.2.2.2.1))), (me, .inl (cI, 18, .inl (kz_dg u.2.2.2.2.2.1))), (mP, .inl (cI, 16, .inl (kz_dg u.2.2.2.2.2.2.1))), (mQ, .inl (cI, 16, .inl (kz_dg u.2.2.2.2.2.2.2)))])) A) (cc := zc_N_isSigned) (maxL := 2) (ret := some .boolean) (by decide) rfl (Nat.le_of_ble_eq_true rfl) ?_
  intro p e s m below meth c A ls F hA hdy hK hro hZ hN hl
  obtain ⟨hx, hb, hml, hr, hown, hlocks, hts, hnm⟩ := id F
  have hl : lv_has ls 2 [(0, .ref o)] := hl
  refine lv_aload_n hx hb zd_N_isSigned_0 rfl (lv_at hl 0 rfl) ?_
  refine va_get (D := (dC, dI)) (ci := 4) (v := .ref mn) (C := zR_N) (T := zT_N) (N := 26) hx hb hts (fun w h => kz_c (zi_N w h)) hown hK (hro.ob hdy.2.2 (k := 0) rfl) 0 rfl rfl 3 (by decide) (hts _ (kz_c mw_594)) (fun _ h9 => h9) rfl zd_N_isSigned_1 ?_
  refine lv_bipush (v := (nI (8))) hx hb zd_N_isSigned_4 (by decide) ?_
  refine lv_aload_n hx hb zd_N_isSigned_6 rfl (lv_at hl 0 rfl) ?_
  refine va_get (D := (dC, dI)) (ci := 4) (v := .ref mm) (C := zR_N) (T := zT_N) (N := 26) hx hb hts (fun w h => kz_c (zi_N w h)) hown hK (hro.ob hdy.2.2 (k := 0) rfl) 0 rfl rfl 9 (by decide) (hts _ (kz_c mw_600)) (fun _ h9 => h9) rfl zd_N_isSigned_7 ?_
  refine kz_callv (wk := [(mb, .inl (cI, 16, .inl (kz_dg gmb))), (mw, .inl (cI, 16, .inl gmw)), (mr, .inl (cI, 16, .inl (kz_dg gmr))), (mx, .inl (cI, 32, .inl (kz_dg gmx))), (me, .inl (cI, 18, .inl (kz_dg gme))), (mP, .inl (cI, 16, .inl (kz_dg gmP))), (mQ, .inl (cI, 16, .inl (kz_dg gmQ)))]) (va_runS (As := [.ref mn, .int (nI (8)), .ref mm]) (rest := []) ⟨hx, hb, hml, hown, hts⟩ (c_X_figures32 l dC dI cI cAA cB cL mm mn gmm gmn 8 _ hd_gmm (by first | omega | assumption)) (va_cwS 3 hts (kz_g (kz_mc mw_690 (kz_mc mw_691 (kz_mc mw_43 kz_mn))) mw_692) rfl rfl rfl (by decide +kernel) ⟨Nat.le_of_ble_eq_true rfl, Nat.le_of_ble_eq_true rfl⟩) (kz_preS hdy hA hK hro hZ hN [0] (by decide) rfl [(true, 1)] rfl (by decide) [0, 1, 2, 3] rfl (fun _ h => by cases h) (fun _ h => by cases h) rfl) rfl rfl hl.1 rfl (lv_room (Nat.le_of_ble_eq_true rfl)) zd_N_isSigned_10 ⟨Nat.le_of_ble_eq_true rfl, Nat.le_of_ble_eq_true rfl⟩) hdy hA [0] [1, 2, 3, 4, 5, 6, 7] rfl rfl (by decide) (by decide) (fun u H locs hw hdy => ?_)
  obtain ⟨d1, rfl⟩ : ∃ z, z = u := ⟨_, rfl⟩
  try dsimp only at hw
  obtain ⟨hd_d1, q2, -⟩ := hw
  have hdy : kz_dy (dC, dI) vwCl A s.heap H locs [(mm, .inl (cI, 16, .inl (kz_dg d1))), (mb, .inl (cI, 16, .inl (kz_dg gmb))), (mw, .inl (cI, 16, .inl gmw)), (mr, .inl (cI, 16, .inl (kz_dg gmr))), (mx, .inl (cI, 32, .inl (kz_dg gmx))), (me, .inl (cI, 18, .inl (kz_dg gme))), (mP, .inl (cI, 16, .inl (kz_dg gmP))), (mQ, .inl (cI, 16, .inl (kz_dg gmQ)))] := hdy.sub [7, 0, 1, 2, 3, 4, 5, 6] (by decide) rfl
  refine lv_aload_n hx hb zd_N_isSigned_13 rfl (lv_at hl 0 rfl) ?_
  refine va_get (D := (dC, dI)) (ci := 4) (v := .ref mn) (C := zR_N) (T := zT_N) (N := 26) hx hb hts (fun w h => kz_c (zi_N w h)) hown hK (hro.ob hdy.2.2 (k := 0) rfl) 0 rfl rfl 3 (by decide) (hts _ (kz_c mw_594)) (fun _ h9 => h9) rfl zd_N_isSigned_14 ?_
  refine lv_bipush (v := (nI (24))) hx hb zd_N_isSigned_17 (by decide) ?_
  refine lv_aload_n hx hb zd_N_isSigned_19 rfl (lv_at hl 0 rfl) ?_
  refine va_get (D := (dC, dI)) (ci := 4) (v := .ref mb) (C := zR_N) (T := zT_N) (N := 26) hx hb hts (fun w h => kz_c (zi_N w h)) hown hK (hro.ob hdy.2.2 (k := 0) rfl) 0 rfl rfl 10 (by decide) (hts _ (kz_c mw_601)) (fun _ h9 => h9) rfl zd_N_isSigned_20 ?_
  refine kz_callv (wk := [(mm, .inl (cI, 16, .inl (kz_dg d1))), (mw, .inl (cI, 16, .inl gmw)), (mr, .inl (cI, 16, .inl (kz_dg gmr))), (mx, .inl (cI, 32, .inl (kz_dg gmx))), (me, .inl (cI, 18, .inl (kz_dg gme))), (mP, .inl (cI, 16, .inl (kz_dg gmP))), (mQ, .inl (cI, 16, .inl (kz_dg gmQ)))]) (va_runS (As := [.ref mn, .int (nI (24)), .ref mb]) (rest := []) ⟨hx, hb, hml, hown, hts⟩ (c_X_figures32 l dC dI cI cAA cB cL mb mn gmb gmn 24 _ hd_gmb (by first | omega | assumption)) (va_cwS 3 hts (kz_g (kz_mc mw_690 (kz_mc mw_691 (kz_mc mw_43 kz_mn))) mw_692) rfl rfl rfl (by decide +kernel) ⟨Nat.le_of_ble_eq_true rfl, Nat.le_of_ble_eq_true rfl⟩) (kz_preS hdy hA hK hro hZ hN [1] (by decide) rfl [(true, 1)] rfl (by decide) [0, 1, 2, 3] rfl (fun _ h => by cases h) (fun _ h => by cases h) rfl) rfl rfl hl.1 rfl (lv_room (Nat.le_of_ble_eq_true rfl)) zd_N_isSigned_23 ⟨Nat.le_of_ble_eq_true rfl, Nat.le_of_ble_eq_true rfl⟩) hdy hA [1] [0, 2, 3, 4, 5, 6, 7] rfl rfl (by decide) (by decide) (fun u H locs hw hdy => ?_)
  obtain ⟨d3, rfl⟩ : ∃ z, z = u := ⟨_, rfl⟩
  try dsimp only at hw
  obtain ⟨hd_d3, q4, -⟩ := hw
  have hdy : kz_dy (dC, dI) vwCl A s.heap H locs [(mm, .inl (cI, 16, .inl (kz_dg d1))), (mb, .inl (cI, 16, .inl (kz_dg d3))), (mw, .inl (cI, 16, .inl gmw)), (mr, .inl (cI, 16, .inl (kz_dg gmr))), (mx, .inl (cI, 32, .inl (kz_dg gmx))), (me, .inl (cI, 18, .inl (kz_dg gme))), (mP, .inl (cI, 16, .inl (kz_dg gmP))), (mQ, .inl (cI, 16, .inl (kz_dg gmQ)))] := hdy.sub [0, 7, 1, 2, 3, 4, 5, 6] (by decide) rfl
  refine lv_aload_n hx hb zd_N_isSigned_26 rfl (lv_at hl 0 rfl) ?_
  refine va_get (D := (dC, dI)) (ci := 4) (v := .ref mb) (C := zR_N) (T := zT_N) (N := 26) hx hb hts (fun w h => kz_c (zi_N w h)) hown hK (hro.ob hdy.2.2 (k := 0) rfl) 0 rfl rfl 10 (by decide) (hts _ (kz_c mw_601)) (fun _ h9 => h9) rfl zd_N_isSigned_27 ?_
  refine lv_aload_n hx hb zd_N_isSigned_30 rfl (lv_at hl 0 rfl) ?_
  refine va_get (D := (dC, dI)) (ci := 4) (v := .ref mm) (C := zR_N) (T := zT_N) (N := 26) hx hb hts (fun w h => kz_c (zi_N w h)) hown hK (hro.ob hdy.2.2 (k := 0) rfl) 0 rfl rfl 9 (by decide) (hts _ (kz_c mw_600)) (fun _ h9 => h9) rfl zd_N_isSigned_31 ?_
  refine kz_calli (wk := [(mm, .inl (cI, 16, .inl (kz_dg d1))), (mb, .inl (cI, 16, .inl (kz_dg d3))), (mw, .inl (cI, 16, .inl gmw)), (mr, .inl (cI, 16, .inl (kz_dg gmr))), (mx, .inl (cI, 32, .inl (kz_dg gmx))), (me, .inl (cI, 18, .inl (kz_dg gme))), (mP, .inl (cI, 16, .inl (kz_dg gmP))), (mQ, .inl (cI, 16, .inl (kz_dg gmQ)))]) (va_runS (As := [.ref mb, .ref mm]) (rest := []) ⟨hx, hb, hml, hown, hts⟩ (c_X_compare16 l dC dI cI cAA cB cL mb mm d3 d1 _ hd_d3 hd_d1) (va_cwS 2 hts (kz_g (kz_mc mw_715 (kz_mc mw_716 (kz_mc mw_43 kz_mn))) mw_717) rfl rfl rfl (by decide +kernel) ⟨Nat.le_of_ble_eq_true rfl, Nat.le_of_ble_eq_true rfl⟩) (kz_preS hdy hA hK hro hZ hN [] (by decide) rfl [(false, 1), (false, 0)] rfl (by decide) [0, 1, 2, 3] rfl (fun _ h => by cases h) (fun _ h => by cases h) rfl) rfl rfl hl.1 rfl (lv_room (Nat.le_of_ble_eq_true rfl)) zd_N_isSigned_34 ⟨Nat.le_of_ble_eq_true rfl, Nat.le_of_ble_eq_true rfl⟩) hdy hA [] [0, 1, 2, 3, 4, 5, 6, 7] rfl rfl (by decide) (by decide) (fun r u H locs hw hdy => ?_)
  obtain ⟨r5, rfl⟩ : ∃ z, z = r := ⟨_, rfl⟩
  try dsimp only at hw
  obtain ⟨q6, -⟩ := hw
  have hdy : kz_dy (dC, dI) vwCl A s.heap H locs [(mm, .inl (cI, 16, .inl (kz_dg d1))), (mb, .inl (cI, 16, .inl (kz_dg d3))), (mw, .inl (cI, 16, .inl gmw)), (mr, .inl (cI, 16, .inl (kz_dg gmr))), (mx, .inl (cI, 32, .inl (kz_dg gmx))), (me, .inl (cI, 18, .inl (kz_dg gme))), (mP, .inl (cI, 16, .inl (kz_dg gmP))), (mQ, .inl (cI, 16, .inl (kz_dg gmQ)))] := hdy.sub [0, 1, 2, 3, 4, 5, 6, 7] (by decide) rfl
  refine lv_if_lt (tgt := 42) hx hb zd_N_isSigned_37 (by decide) (fun hc37 => ?_) (fun hc37 => ?_)
  · have hnm := q6 hc37
    refine lv_iconst (v := (nI (0))) hx hb zd_N_isSigned_42 (by decide) ?_
    refine lv_istore_n (lv' := [(1, .int (nI (0))), (0, .ref o)]) hx hb zd_N_isSigned_43 rfl hl (by decide) rfl (fun ls hl => ?_)
    have lp44 : ∀ (n44 k44 : Nat) (f7 : Nat → Int32) (H : Heap) (locs : List Loc) (ls : Array Slot), k44 ≤ 16 → 16 - k44 < n44 → kz_dy (dC, dI) vwCl A s.heap H locs [(mm, .inl (cI, 16, .inl (kz_dg d1))), (mb, .inl (cI, 16, .inl (kz_dg d3))), (mw, .inl (cI, 16, .inl f7)), (mr, .inl (cI, 16, .inl (kz_dg gmr))), (mx, .inl (cI, 32, .inl (kz_dg gmx))), (me, .inl (cI, 18, .inl (kz_dg gme))), (mP, .inl (cI, 16, .inl (kz_dg gmP))), (mQ, .inl (cI, 16, .inl (kz_dg gmQ)))] → lv_has ls 2 [(1, .int (nI (k44))), (0, .ref o)] → W p l e { frames := 3, cells := 0, slots := 0, locals := 78 } s m ([.ref o] : List Value).toArray below meth c H locs 0 0 (MQ below (va_Qi (fun (r : Int32) (u : (Nat → Nat) × (Nat → Nat) × (Nat → Int32) × (Nat → Nat) × (Nat → Nat) × (Nat → Nat) × (Nat → Nat) × (Nat → Nat)) => (∀ j, u.1 j < 65536) ∧ (∀ j, u.2.1 j < 65536) ∧ (∀ j, u.2.2.2.1 j < 65536) ∧ (∀ j, u.2.2.2.2.1 j < 65536) ∧ (∀ j, u.2.2.2.2.2.1 j < 65536) ∧ (∀ j, u.2.2.2.2.2.2.1 j < 65536) ∧ (∀ j, u.2.2.2.2.2.2.2 j < 65536) ∧ (r = 0 ∨ r = 1) ∧ True) (kz_B (dC, dI) vwCl A (fun u : (Nat → Nat) × (Nat → Nat) × (Nat → Int32) × (Nat → Nat) × (Nat → Nat) × (Nat → Nat) × (Nat → Nat) × (Nat → Nat) => [(mm, .inl (cI, 16, .inl (kz_dg u.1))), (mb, .inl (cI, 16, .inl (kz_dg u.2.1))), (mw, .inl (cI, 16, .inl u.2.2.1)), (mr, .inl (cI, 16, .inl (kz_dg u.2.2.2.1))), (mx, .inl (cI, 32, .inl (kz_dg u.2.2.2.2.1))), (me, .inl (cI, 18, .inl (kz_dg u.2.2.2.2.2.1))), (mP, .inl (cI, 16, .inl (kz_dg u.2.2.2.2.2.2.1))), (mQ, .inl (cI, 16, .inl (kz_dg u.2.2.2.2.2.2.2)))])) A) ([.ref o] : List Value).toArray s 0 0 A) (F0 m 44 ls []) := by
      intro n44
      induction n44 with
      | zero => intro k44; intros; omega
      | succ n44 ih44 =>
        intro k44 f7 H locs ls hi44 hn44 hdy hl
        refine lv_iload_n hx hb zd_N_isSigned_44 rfl (lv_at hl 0 rfl) ?_
        refine lv_bipush (v := (nI (16))) hx hb zd_N_isSigned_45 (by decide) ?_
        refine lv_icmp_ge (tgt := 76) hx hb zd_N_isSigned_47 (by decide) (fun hc47 => ?_) (fun hc47 => ?_)
        · have hc47 : 16 ≤ k44 := (nI_leI (by omega) (by omega)).mp hc47
          refine lv_aload_n hx hb zd_N_isSigned_76 rfl (lv_at hl 1 rfl) ?_
          refine kz_callv (wk := [(mm, .inl (cI, 16, .inl (kz_dg d1))), (mb, .inl (cI, 16, .inl (kz_dg d3))), (mw, .inl (cI, 16, .inl f7)), (mP, .inl (cI, 16, .inl (kz_dg gmP))), (mQ, .inl (cI, 16, .inl (kz_dg gmQ)))]) (va_runV (As := []) (rest := []) ⟨hx, hb, hml, hown, hts⟩ (c_V_raise l dC dI cI cAA cB cL mx me mr o mt mn ml mc mh mk mp mm mb mw mP mQ ms mo mW mD mB mR mS gmx gme gmr (th) (sta) (hs) sz_ d1 f7 d3 _ hd_gmx hd_gme hd_gmr hd_d1 hd_d3 (by first | omega | assumption)) (cwV 0 hts (kz_g (kz_mc mw_725 (kz_mc mw_727 (kz_mc mw_26 (kz_mc mw_43 kz_mn)))) mw_728) rfl rfl rfl (by decide +kernel) ⟨Nat.le_of_ble_eq_true rfl, Nat.le_of_ble_eq_true rfl⟩) (kz_preVr hdy hA hK hro hZ hN [4, 5, 3] (by decide) rfl [(true, 0), (false, 0), (false, 2), (false, 1)] rfl (by decide) [0, 1, 2, 3] rfl (fun _ h => by cases h) (fun _ h => by cases h) rfl (ci := 4) (q0 := 0) rfl rfl rfl) rfl rfl hl.1 rfl (lv_room (Nat.le_of_ble_eq_true rfl)) zd_N_isSigned_77 ⟨Nat.le_of_ble_eq_true rfl, Nat.le_of_ble_eq_true rfl⟩) hdy hA [4, 5, 3] [0, 1, 2, 6, 7] rfl rfl (by decide) (by decide) (fun u H locs hw hdy => ?_)
          obtain ⟨d8, d9, d10⟩ := u
          try dsimp only at hw
          obtain ⟨hd_d8, hd_d9, hd_d10, -⟩ := hw
          have hdy : kz_dy (dC, dI) vwCl A s.heap H locs [(mm, .inl (cI, 16, .inl (kz_dg d1))), (mb, .inl (cI, 16, .inl (kz_dg d3))), (mw, .inl (cI, 16, .inl f7)), (mr, .inl (cI, 16, .inl (kz_dg d10))), (mx, .inl (cI, 32, .inl (kz_dg d8))), (me, .inl (cI, 18, .inl (kz_dg d9))), (mP, .inl (cI, 16, .inl (kz_dg gmP))), (mQ, .inl (cI, 16, .inl (kz_dg gmQ)))] := hdy.sub [0, 1, 2, 7, 5, 6, 3, 4] (by decide) rfl
          refine lv_aload_n hx hb zd_N_isSigned_80 rfl (lv_at hl 1 rfl) ?_
          refine va_get (D := (dC, dI)) (ci := 4) (v := .ref mr) (C := zR_N) (T := zT_N) (N := 26) hx hb hts (fun w h => kz_c (zi_N w h)) hown hK (hro.ob hdy.2.2 (k := 0) rfl) 0 rfl rfl 12 (by decide) (hts _ (kz_c mw_603)) (fun _ h9 => h9) rfl zd_N_isSigned_81 ?_
          refine lv_aload_n hx hb zd_N_isSigned_84 rfl (lv_at hl 1 rfl) ?_
          refine va_get (D := (dC, dI)) (ci := 4) (v := .ref mP) (C := zR_N) (T := zT_N) (N := 26) hx hb hts (fun w h => kz_c (zi_N w h)) hown hK (hro.ob hdy.2.2 (k := 0) rfl) 0 rfl rfl 15 (by decide) (hts _ (kz_c mw_606)) (fun _ h9 => h9) rfl zd_N_isSigned_85 ?_
          refine kz_callv (wk := [(mm, .inl (cI, 16, .inl (kz_dg d1))), (mb, .inl (cI, 16, .inl (kz_dg d3))), (mw, .inl (cI, 16, .inl f7)), (mr, .inl (cI, 16, .inl (kz_dg d10))), (mx, .inl (cI, 32, .inl (kz_dg d8))), (me, .inl (cI, 18, .inl (kz_dg d9))), (mQ, .inl (cI, 16, .inl (kz_dg gmQ)))]) (va_runS (As := [.ref mr, .ref mP]) (rest := []) ⟨hx, hb, hml, hown, hts⟩ (c_X_copy l dC dI cI cAA cB cL mP mr gmP d10 _ hd_gmP hd_d10) (va_cwS 2 hts (kz_g (kz_mc mw_722 (kz_mc mw_723 (kz_mc mw_43 kz_mn))) mw_724) rfl rfl rfl (by decide +kernel) ⟨Nat.le_of_ble_eq_true rfl, Nat.le_of_ble_eq_true rfl⟩) (kz_preS hdy hA hK hro hZ hN [6] (by decide) rfl [(false, 3)] rfl (by decide) [0, 1, 2, 3] rfl (fun _ h => by cases h) (fun _ h => by cases h) rfl) rfl rfl hl.1 rfl (lv_room (Nat.le_of_ble_eq_true rfl)) zd_N_isSigned_88 ⟨Nat.le_of_ble_eq_true rfl, Nat.le_of_ble_eq_true rfl⟩) hdy hA [6] [0, 1, 2, 3, 4, 5, 7] rfl rfl (by decide) (by decide) (fun u H locs hw hdy => ?_)
          obtain ⟨d11, rfl⟩ : ∃ z, z = u := ⟨_, rfl⟩
          try dsimp only at hw
          obtain ⟨hd_d11, q12, -⟩ := hw
          have hdy : kz_dy (dC, dI) vwCl A s.heap H locs [(mm, .inl (cI, 16, .inl (kz_dg d1))), (mb, .inl (cI, 16, .inl (kz_dg d3))), (mw, .inl (cI, 16, .inl f7)), (mr, .inl (cI, 16, .inl (kz_dg d10))), (mx, .inl (cI, 32, .inl (kz_dg d8))), (me, .inl (cI, 18, .inl (kz_dg d9))), (mP, .inl (cI, 16, .inl (kz_dg d11))), (mQ, .inl (cI, 16, .inl (kz_dg gmQ)))] := hdy.sub [0, 1, 2, 3, 4, 5, 7, 6] (by decide) rfl
          refine lv_aload_n hx hb zd_N_isSigned_91 rfl (lv_at hl 1 rfl) ?_
          refine lv_iconst (v := (nI (0))) hx hb zd_N_isSigned_92 (by decide) ?_
          refine lv_aload_n hx hb zd_N_isSigned_93 rfl (lv_at hl 1 rfl) ?_
          refine va_get (D := (dC, dI)) (ci := 4) (v := .ref mQ) (C := zR_N) (T := zT_N) (N := 26) hx hb hts (fun w h => kz_c (zi_N w h)) hown hK (hro.ob hdy.2.2 (k := 0) rfl) 0 rfl rfl 16 (by decide) (hts _ (kz_c mw_607)) (fun _ h9 => h9) rfl zd_N_isSigned_94 ?_
          refine kz_callv (wk := [(mm, .inl (cI, 16, .inl (kz_dg d1))), (mw, .inl (cI, 16, .inl f7)), (mr, .inl (cI, 16, .inl (kz_dg d10))), (mP, .inl (cI, 16, .inl (kz_dg d11)))]) (va_runV (As := [.int (nI (0)), .ref mQ]) (rest := []) ⟨hx, hb, hml, hown, hts⟩ (c_U_hashRestQ l dC dI cI cAA cB cL mb mx me mQ o mt mn ml mc mh mk mp mm mw mr mP ms mo mW mD mB mR mS d3 d8 d9 gmQ (th) (sta) (hs) sz_ gmh d1 0 _ hd_d3 hd_d8 hd_d9 hd_gmQ hd_d1 (by first | omega | assumption) (by first | omega | assumption)) (cwV 2 hts (kz_g (kz_mc mw_767 (kz_mc mw_769 (kz_mc mw_34 (kz_mc mw_43 kz_mn)))) mw_770) rfl rfl rfl (by decide +kernel) ⟨Nat.le_of_ble_eq_true rfl, Nat.le_of_ble_eq_true rfl⟩) (kz_preVr hdy hA hK hro hZ hN [1, 4, 5, 7] (by decide) rfl [(true, 0), (true, 2), (false, 0)] rfl (by decide) [0, 1, 2, 3] rfl (fun _ h => by cases h) (fun _ h => by cases h) rfl (ci := 4) (q0 := 0) rfl rfl rfl) rfl rfl hl.1 rfl (lv_room (Nat.le_of_ble_eq_true rfl)) zd_N_isSigned_97 ⟨Nat.le_of_ble_eq_true rfl, Nat.le_of_ble_eq_true rfl⟩) hdy hA [1, 4, 5, 7] [0, 2, 3, 6] rfl rfl (by decide) (by decide) (fun u H locs hw hdy => ?_)
          obtain ⟨d13, d14, d15, d16⟩ := u
          try dsimp only at hw
          obtain ⟨hd_d13, hd_d14, hd_d15, hd_d16, -⟩ := hw
          have hdy : kz_dy (dC, dI) vwCl A s.heap H locs [(mm, .inl (cI, 16, .inl (kz_dg d1))), (mb, .inl (cI, 16, .inl (kz_dg d13))), (mw, .inl (cI, 16, .inl f7)), (mr, .inl (cI, 16, .inl (kz_dg d10))), (mx, .inl (cI, 32, .inl (kz_dg d14))), (me, .inl (cI, 18, .inl (kz_dg d15))), (mP, .inl (cI, 16, .inl (kz_dg d11))), (mQ, .inl (cI, 16, .inl (kz_dg d16)))] := hdy.sub [0, 4, 1, 2, 5, 6, 3, 7] (by decide) rfl
          refine lv_aload_n hx hb zd_N_isSigned_100 rfl (lv_at hl 1 rfl) ?_
          refine va_get (D := (dC, dI)) (ci := 4) (v := .ref mP) (C := zR_N) (T := zT_N) (N := 26) hx hb hts (fun w h => kz_c (zi_N w h)) hown hK (hro.ob hdy.2.2 (k := 0) rfl) 0 rfl rfl 15 (by decide) (hts _ (kz_c mw_606)) (fun _ h9 => h9) rfl zd_N_isSigned_101 ?_
          refine lv_aload_n hx hb zd_N_isSigned_104 rfl (lv_at hl 1 rfl) ?_
          refine va_get (D := (dC, dI)) (ci := 4) (v := .ref mQ) (C := zR_N) (T := zT_N) (N := 26) hx hb hts (fun w h => kz_c (zi_N w h)) hown hK (hro.ob hdy.2.2 (k := 0) rfl) 0 rfl rfl 16 (by decide) (hts _ (kz_c mw_607)) (fun _ h9 => h9) rfl zd_N_isSigned_105 ?_
          refine kz_calli (wk := [(mm, .inl (cI, 16, .inl (kz_dg d1))), (mb, .inl (cI, 16, .inl (kz_dg d13))), (mw, .inl (cI, 16, .inl f7)), (mr, .inl (cI, 16, .inl (kz_dg d10))), (mx, .inl (cI, 32, .inl (kz_dg d14))), (me, .inl (cI, 18, .inl (kz_dg d15))), (mP, .inl (cI, 16, .inl (kz_dg d11))), (mQ, .inl (cI, 16, .inl (kz_dg d16)))]) (va_runS (As := [.ref mP, .ref mQ]) (rest := []) ⟨hx, hb, hml, hown, hts⟩ (c_X_compare16 l dC dI cI cAA cB cL mP mQ d11 d16 _ hd_d11 hd_d16) (va_cwS 2 hts (kz_g (kz_mc mw_715 (kz_mc mw_716 (kz_mc mw_43 kz_mn))) mw_717) rfl rfl rfl (by decide +kernel) ⟨Nat.le_of_ble_eq_true rfl, Nat.le_of_ble_eq_true rfl⟩) (kz_preS hdy hA hK hro hZ hN [] (by decide) rfl [(false, 6), (false, 7)] rfl (by decide) [0, 1, 2, 3] rfl (fun _ h => by cases h) (fun _ h => by cases h) rfl) rfl rfl hl.1 rfl (lv_room (Nat.le_of_ble_eq_true rfl)) zd_N_isSigned_108 ⟨Nat.le_of_ble_eq_true rfl, Nat.le_of_ble_eq_true rfl⟩) hdy hA [] [0, 1, 2, 3, 4, 5, 6, 7] rfl rfl (by decide) (by decide) (fun r u H locs hw hdy => ?_)
          obtain ⟨r17, rfl⟩ : ∃ z, z = r := ⟨_, rfl⟩
          try dsimp only at hw
          obtain ⟨q18, -⟩ := hw
          have hdy : kz_dy (dC, dI) vwCl A s.heap H locs [(mm, .inl (cI, 16, .inl (kz_dg d1))), (mb, .inl (cI, 16, .inl (kz_dg d13))), (mw, .inl (cI, 16, .inl f7)), (mr, .inl (cI, 16, .inl (kz_dg d10))), (mx, .inl (cI, 32, .inl (kz_dg d14))), (me, .inl (cI, 18, .inl (kz_dg d15))), (mP, .inl (cI, 16, .inl (kz_dg d11))), (mQ, .inl (cI, 16, .inl (kz_dg d16)))] := hdy.sub [0, 1, 2, 3, 4, 5, 6, 7] (by decide) rfl
          refine lv_if_ne (tgt := 118) hx hb zd_N_isSigned_111 (by decide) (fun hc111 => ?_) (fun hc111 => ?_)
          · refine lv_iconst (v := (nI (0))) hx hb zd_N_isSigned_118 (by decide) ?_
            exact kz_zret F (d1, d13, f7, d10, d14, d15, d11, d16) hdy (by first | exact Or.inl rfl | exact Or.inr rfl | assumption) (⟨hd_d1, hd_d13, hd_d10, hd_d14, hd_d15, hd_d11, hd_d16, by first | exact Or.inl rfl | exact Or.inr rfl | assumption, trivial⟩) zd_N_isSigned_119
          · refine lv_iconst (v := (nI (1))) hx hb zd_N_isSigned_114 (by decide) ?_
            refine lv_goto (tgt := 119) hx hb zd_N_isSigned_115 (by decide) ?_
            exact kz_zret F (d1, d13, f7, d10, d14, d15, d11, d16) hdy (by first | exact Or.inl rfl | exact Or.inr rfl | assumption) (⟨hd_d1, hd_d13, hd_d10, hd_d14, hd_d15, hd_d11, hd_d16, by first | exact Or.inl rfl | exact Or.inr rfl | assumption, trivial⟩) zd_N_isSigned_119
        · have hc47 : ¬ 16 ≤ k44 := fun h9 => hc47 ((nI_leI (by omega) (by omega)).mpr h9)
          refine lv_aload_n hx hb zd_N_isSigned_50 rfl (lv_at hl 1 rfl) ?_
          refine va_get (D := (dC, dI)) (ci := 4) (v := .ref mw) (C := zR_N) (T := zT_N) (N := 26) hx hb hts (fun w h => kz_c (zi_N w h)) hown hK (hro.ob hdy.2.2 (k := 0) rfl) 0 rfl rfl 11 (by decide) (hts _ (kz_c mw_602)) (fun _ h9 => h9) rfl zd_N_isSigned_51 ?_
          refine lv_iload_n hx hb zd_N_isSigned_54 rfl (lv_at hl 0 rfl) ?_
          refine lv_iload_n hx hb zd_N_isSigned_55 rfl (lv_at hl 0 rfl) ?_
          refine lv_if_eq (tgt := 64) hx hb zd_N_isSigned_56 (by decide) (fun hc56 => ?_) (fun hc56 => ?_)
          · have hc56 : k44 = 0 := (nI_eq (by omega) (by omega)).mp (by rw [nI_0]; exact hc56)
            refine lv_iconst (v := (nI (1))) hx hb zd_N_isSigned_64 (by decide) ?_
            refine lv_goto (tgt := 69) hx hb zd_N_isSigned_65 (by decide) ?_
            refine va_iast hx hb hK hdy.1 hdy.2.1 hdy.2.2 2 0 rfl rfl (vp_in_nI (by omega) (by omega)) zd_N_isSigned_69 (fun H locs hP hD hS => ?_)
            rw [nI_clamp (by omega)] at hP hD
            obtain ⟨f19, ef19, hdy⟩ : ∃ f19 : Nat → Int32, f19 = upd f7 k44 ((nI (1))) ∧ kz_dy (dC, dI) vwCl A s.heap H locs [(mm, .inl (cI, 16, .inl (kz_dg d1))), (mb, .inl (cI, 16, .inl (kz_dg d3))), (mw, .inl (cI, 16, .inl f19)), (mr, .inl (cI, 16, .inl (kz_dg gmr))), (mx, .inl (cI, 32, .inl (kz_dg gmx))), (me, .inl (cI, 18, .inl (kz_dg gme))), (mP, .inl (cI, 16, .inl (kz_dg gmP))), (mQ, .inl (cI, 16, .inl (kz_dg gmQ)))] := ⟨_, rfl, hP, hD, hS⟩
            refine lv_iinc (v := (nI (k44 + 1))) (lv' := [(1, .int (nI (k44 + 1))), (0, .ref o)]) hx hb zd_N_isSigned_70 hl (k := 0) rfl (nI_1 _) (by decide) rfl (fun ls hl => ?_)
            refine lv_goto (tgt := 44) hx hb zd_N_isSigned_73 (by decide) ?_
            exact ih44 (k44 + 1) f19 _ _ _ (by omega) (by omega) hdy (lv_sub hl [0, 1] rfl)
          · have hc56 : ¬ k44 = 0 := fun h9 => hc56 (by have h8 := (nI_eq (by omega) (by omega)).mpr h9; rw [nI_0] at h8; exact h8)
            refine lv_iload_n hx hb zd_N_isSigned_59 rfl (lv_at hl 0 rfl) ?_
            refine lv_iconst (v := (nI (1))) hx hb zd_N_isSigned_60 (by decide) ?_
            refine lv_icmp_ne (tgt := 68) hx hb zd_N_isSigned_61 (by decide) (fun hc61 => ?_) (fun hc61 => ?_)
            · have hc61 : ¬ k44 = 1 := fun h9 => hc61 ((nI_eq (by omega) (by omega)).mpr h9)
              refine lv_iconst (v := (nI (0))) hx hb zd_N_isSigned_68 (by decide) ?_
              refine va_iast hx hb hK hdy.1 hdy.2.1 hdy.2.2 2 0 rfl rfl (vp_in_nI (by omega) (by omega)) zd_N_isSigned_69 (fun H locs hP hD hS => ?_)
              rw [nI_clamp (by omega)] at hP hD
              obtain ⟨f20, ef20, hdy⟩ : ∃ f20 : Nat → Int32, f20 = upd f7 k44 ((nI (0))) ∧ kz_dy (dC, dI) vwCl A s.heap H locs [(mm, .inl (cI, 16, .inl (kz_dg d1))), (mb, .inl (cI, 16, .inl (kz_dg d3))), (mw, .inl (cI, 16, .inl f20)), (mr, .inl (cI, 16, .inl (kz_dg gmr))), (mx, .inl (cI, 32, .inl (kz_dg gmx))), (me, .inl (cI, 18, .inl (kz_dg gme))), (mP, .inl (cI, 16, .inl (kz_dg gmP))), (mQ, .inl (cI, 16, .inl (kz_dg gmQ)))] := ⟨_, rfl, hP, hD, hS⟩
              refine lv_iinc (v := (nI (k44 + 1))) (lv' := [(1, .int (nI (k44 + 1))), (0, .ref o)]) hx hb zd_N_isSigned_70 hl (k := 0) rfl (nI_1 _) (by decide) rfl (fun ls hl => ?_)
              refine lv_goto (tgt := 44) hx hb zd_N_isSigned_73 (by decide) ?_
              exact ih44 (k44 + 1) f20 _ _ _ (by omega) (by omega) hdy (lv_sub hl [0, 1] rfl)
            · have hc61 : k44 = 1 := (nI_eq (by omega) (by omega)).mp hc61
              refine lv_iconst (v := (nI (1))) hx hb zd_N_isSigned_64 (by decide) ?_
              refine lv_goto (tgt := 69) hx hb zd_N_isSigned_65 (by decide) ?_
              refine va_iast hx hb hK hdy.1 hdy.2.1 hdy.2.2 2 0 rfl rfl (vp_in_nI (by omega) (by omega)) zd_N_isSigned_69 (fun H locs hP hD hS => ?_)
              rw [nI_clamp (by omega)] at hP hD
              obtain ⟨f21, ef21, hdy⟩ : ∃ f21 : Nat → Int32, f21 = upd f7 k44 ((nI (1))) ∧ kz_dy (dC, dI) vwCl A s.heap H locs [(mm, .inl (cI, 16, .inl (kz_dg d1))), (mb, .inl (cI, 16, .inl (kz_dg d3))), (mw, .inl (cI, 16, .inl f21)), (mr, .inl (cI, 16, .inl (kz_dg gmr))), (mx, .inl (cI, 32, .inl (kz_dg gmx))), (me, .inl (cI, 18, .inl (kz_dg gme))), (mP, .inl (cI, 16, .inl (kz_dg gmP))), (mQ, .inl (cI, 16, .inl (kz_dg gmQ)))] := ⟨_, rfl, hP, hD, hS⟩
              refine lv_iinc (v := (nI (k44 + 1))) (lv' := [(1, .int (nI (k44 + 1))), (0, .ref o)]) hx hb zd_N_isSigned_70 hl (k := 0) rfl (nI_1 _) (by decide) rfl (fun ls hl => ?_)
              refine lv_goto (tgt := 44) hx hb zd_N_isSigned_73 (by decide) ?_
              exact ih44 (k44 + 1) f21 _ _ _ (by omega) (by omega) hdy (lv_sub hl [0, 1] rfl)
    exact lp44 (16 - 0 + 1) 0 gmw _ _ _ (by omega) (by omega) hdy (lv_sub hl [0, 1] rfl)
  · refine lv_iconst (v := (nI (0))) hx hb zd_N_isSigned_40 (by decide) ?_
    exact kz_zret F (d1, d3, gmw, gmr, gmx, gme, gmP, gmQ) hdy (by first | exact Or.inl rfl | exact Or.inr rfl | assumption) (⟨hd_d1, hd_d3, hd_gmr, hd_gmx, hd_gme, hd_gmP, hd_gmQ, by first | exact Or.inl rfl | exact Or.inr rfl | assumption, trivial⟩) zd_N_isSigned_41

set_option maxHeartbeats 4000000 in
set_option maxRecDepth 100000 in
/-- KeyMeetingModel.isTrusted()Z -/
theorem c_U_isTrusted (l : Launch) (dC : Nat → ClassId) (dI : Nat → Nat → Nat) (cI cAA cB cL : ClassId) (o mt mn ml mc mh mk mp mm mb mw mr mx me mP mQ ms mo mW mD mB mR mS : Nat) (th : Int32) (sta : Int32) (hs : Int32) (sz_ : Nat) (gmn : Nat → Int32) (gmt : Nat → Int32) (sz : Nat) : Met l zy_N_isTrusted zw_N_isTrusted { frames := 0, cells := 0, slots := 0, locals := 0 } (kz_Pc (dC, dI) vwCl [(cI, .int), (cAA, .array .int), (cB, .byte), (cL, .long)] [] [] [.ref o] [] [(o, .inr (4, [.int th, .int sta, .ref mt, .ref mn, .ref ml, .ref mc, .ref mh, .ref mk, .ref mp, .ref mm, .ref mb, .ref mw, .ref mr, .ref mx, .ref me, .ref mP, .ref mQ, .ref ms, .int hs, .int (nI (sz_)), .ref mo, .ref mW, .ref mD, .ref mB, .ref mR, .ref mS])), (mn, .inl (cI, 32, .inl gmn)), (mt, .inl (cI, 56, .inl gmt))] sz) (va_Qi (fun (r : Int32) (u : Unit) => (r = 0 ∨ r = 1) ∧ True) (kz_B (dC, dI) vwCl (va_A [] sz) (fun u : Unit => [])) (va_A [] sz)) 0 0 (va_A [] sz) := by
  refine kz_met (y := zy_N_isTrusted) (ws := zw_N_isTrusted) (av := [.ref o]) (sz := sz) (Qc := fun A => va_Qi (fun (r : Int32) (u : Unit) => (r = 0 ∨ r = 1) ∧ True) (kz_B (dC, dI) vwCl A (fun u : Unit => [])) A) (cc := zc_N_isTrusted) (maxL := 3) (ret := some .boolean) (by decide) rfl (Nat.le_of_ble_eq_true rfl) ?_
  intro p e s m below meth c A ls F hA hdy hK hro hZ hN hl
  obtain ⟨hx, hb, hml, hr, hown, hlocks, hts, hnm⟩ := id F
  have hl : lv_has ls 3 [(0, .ref o)] := hl
  refine lv_iconst (v := (nI (1))) hx hb zd_N_isTrusted_0 (by decide) ?_
  refine lv_istore_n (lv' := [(1, .int (nI (1))), (0, .ref o)]) hx hb zd_N_isTrusted_1 rfl hl (by decide) rfl (fun ls hl => ?_)
  refine lv_iconst (v := (nI (0))) hx hb zd_N_isTrusted_2 (by decide) ?_
  refine lv_istore_n (lv' := [(2, .int (nI (0))), (1, .int (nI (1))), (0, .ref o)]) hx hb zd_N_isTrusted_3 rfl hl (by decide) rfl (fun ls hl => ?_)
  have lp4 : ∀ (n4 k4 : Nat) (c1 : Nat) (H : Heap) (locs : List Loc) (ls : Array Slot), k4 ≤ 8 → 8 - k4 < n4 → (c1 ≤ 1) → kz_dy (dC, dI) vwCl A s.heap H locs [] → lv_has ls 3 [(2, .int (nI (k4))), (1, .int (nI (c1))), (0, .ref o)] → W p l e { frames := 0, cells := 0, slots := 0, locals := 0 } s m ([.ref o] : List Value).toArray below meth c H locs 0 0 (MQ below (va_Qi (fun (r : Int32) (u : Unit) => (r = 0 ∨ r = 1) ∧ True) (kz_B (dC, dI) vwCl A (fun u : Unit => [])) A) ([.ref o] : List Value).toArray s 0 0 A) (F0 m 4 ls []) := by
    intro n4
    induction n4 with
    | zero => intro k4; intros; omega
    | succ n4 ih4 =>
      intro k4 c1 H locs ls hi4 hn4 hb1 hdy hl
      refine lv_iload_n hx hb zd_N_isTrusted_4 rfl (lv_at hl 0 rfl) ?_
      refine lv_bipush (v := (nI (8))) hx hb zd_N_isTrusted_5 (by decide) ?_
      refine lv_icmp_ge (tgt := 47) hx hb zd_N_isTrusted_7 (by decide) (fun hc7 => ?_) (fun hc7 => ?_)
      · have hc7 : 8 ≤ k4 := (nI_leI (by omega) (by omega)).mp hc7
        refine lv_iload_n hx hb zd_N_isTrusted_47 rfl (lv_at hl 1 rfl) ?_
        exact kz_zret F () hdy (by first | exact Or.inl rfl | exact Or.inr rfl | assumption | exact kz_b01 (by omega)) (⟨by first | exact Or.inl rfl | exact Or.inr rfl | assumption | exact kz_b01 (by omega), trivial⟩) zd_N_isTrusted_48
      · have hc7 : ¬ 8 ≤ k4 := fun h9 => hc7 ((nI_leI (by omega) (by omega)).mpr h9)
        refine lv_iload_n hx hb zd_N_isTrusted_10 rfl (lv_at hl 1 rfl) ?_
        refine lv_if_eq (tgt := 39) hx hb zd_N_isTrusted_11 (by decide) (fun hc11 => ?_) (fun hc11 => ?_)
        · have hc11 : c1 = 0 := (nI_eq (by omega) (by omega)).mp (by rw [nI_0]; exact hc11)
          refine lv_iconst (v := (nI (0))) hx hb zd_N_isTrusted_39 (by decide) ?_
          refine lv_istore_n (lv' := [(1, .int (nI (0))), (2, .int (nI (k4))), (0, .ref o)]) hx hb zd_N_isTrusted_40 rfl hl (by decide) rfl (fun ls hl => ?_)
          refine lv_iinc (v := (nI (k4 + 1))) (lv' := [(2, .int (nI (k4 + 1))), (1, .int (nI (0))), (0, .ref o)]) hx hb zd_N_isTrusted_41 hl (k := 1) rfl (nI_1 _) (by decide) rfl (fun ls hl => ?_)
          refine lv_goto (tgt := 4) hx hb zd_N_isTrusted_44 (by decide) ?_
          have hi9_hb12 : 0 ≤ 1 := by omega
          exact ih4 (k4 + 1) (0) _ _ _ (by omega) (by omega) hi9_hb12 hdy (lv_sub hl [0, 1, 2] rfl)
        · have hc11 : ¬ c1 = 0 := fun h9 => hc11 (by have h8 := (nI_eq (by omega) (by omega)).mpr h9; rw [nI_0] at h8; exact h8)
          refine lv_aload_n hx hb zd_N_isTrusted_14 rfl (lv_at hl 2 rfl) ?_
          refine va_get (D := (dC, dI)) (ci := 4) (v := .ref mn) (C := zR_N) (T := zT_N) (N := 26) hx hb hts (fun w h => kz_c (zi_N w h)) hown hK (hro.ob hdy.2.2 (k := 0) rfl) 0 rfl rfl 3 (by decide) (hts _ (kz_c mw_594)) (fun _ h9 => h9) rfl zd_N_isTrusted_15 ?_
          refine lv_bipush (v := (nI (8))) hx hb zd_N_isTrusted_18 (by decide) ?_
          refine lv_iload_n hx hb zd_N_isTrusted_20 rfl (lv_at hl 0 rfl) ?_
          refine kz_iadd hx hb zd_N_isTrusted_21 (nI_add _ _) ?_
          refine kz_riald hx hb hK hro hdy.2.2 1 0 rfl rfl (vp_in_nI (by omega) (by omega)) zd_N_isTrusted_22 ?_
          refine lv_topi (fun x3 _ => ?_)
          refine lv_aload_n hx hb zd_N_isTrusted_23 rfl (lv_at hl 2 rfl) ?_
          refine va_get (D := (dC, dI)) (ci := 4) (v := .ref mt) (C := zR_N) (T := zT_N) (N := 26) hx hb hts (fun w h => kz_c (zi_N w h)) hown hK (hro.ob hdy.2.2 (k := 0) rfl) 0 rfl rfl 2 (by decide) (hts _ (kz_c mw_593)) (fun _ h9 => h9) rfl zd_N_isTrusted_24 ?_
          refine lv_bipush (v := (nI (48))) hx hb zd_N_isTrusted_27 (by decide) ?_
          refine lv_iload_n hx hb zd_N_isTrusted_29 rfl (lv_at hl 0 rfl) ?_
          refine kz_iadd hx hb zd_N_isTrusted_30 (nI_add _ _) ?_
          refine kz_riald hx hb hK hro hdy.2.2 2 0 rfl rfl (vp_in_nI (by omega) (by omega)) zd_N_isTrusted_31 ?_
          refine lv_topi (fun x4 _ => ?_)
          refine lv_icmp_ne (tgt := 39) hx hb zd_N_isTrusted_32 (by decide) (fun hc32 => ?_) (fun hc32 => ?_)
          · refine lv_iconst (v := (nI (0))) hx hb zd_N_isTrusted_39 (by decide) ?_
            refine lv_istore_n (lv' := [(1, .int (nI (0))), (2, .int (nI (k4))), (0, .ref o)]) hx hb zd_N_isTrusted_40 rfl hl (by decide) rfl (fun ls hl => ?_)
            refine lv_iinc (v := (nI (k4 + 1))) (lv' := [(2, .int (nI (k4 + 1))), (1, .int (nI (0))), (0, .ref o)]) hx hb zd_N_isTrusted_41 hl (k := 1) rfl (nI_1 _) (by decide) rfl (fun ls hl => ?_)
            refine lv_goto (tgt := 4) hx hb zd_N_isTrusted_44 (by decide) ?_
            have hi9_hb15 : 0 ≤ 1 := by omega
            exact ih4 (k4 + 1) (0) _ _ _ (by omega) (by omega) hi9_hb15 hdy (lv_sub hl [0, 1, 2] rfl)
          · refine lv_iconst (v := (nI (1))) hx hb zd_N_isTrusted_35 (by decide) ?_
            refine lv_goto (tgt := 40) hx hb zd_N_isTrusted_36 (by decide) ?_
            refine lv_istore_n (lv' := [(1, .int (nI (1))), (2, .int (nI (k4))), (0, .ref o)]) hx hb zd_N_isTrusted_40 rfl hl (by decide) rfl (fun ls hl => ?_)
            refine lv_iinc (v := (nI (k4 + 1))) (lv' := [(2, .int (nI (k4 + 1))), (1, .int (nI (1))), (0, .ref o)]) hx hb zd_N_isTrusted_41 hl (k := 1) rfl (nI_1 _) (by decide) rfl (fun ls hl => ?_)
            refine lv_goto (tgt := 4) hx hb zd_N_isTrusted_44 (by decide) ?_
            have hi9_hb16 : 1 ≤ 1 := by omega
            exact ih4 (k4 + 1) (1) _ _ _ (by omega) (by omega) hi9_hb16 hdy (lv_sub hl [0, 1, 2] rfl)
  have hi9_hb17 : 1 ≤ 1 := by omega
  exact lp4 (8 - 0 + 1) 0 (1) _ _ _ (by omega) (by omega) hi9_hb17 hdy (lv_sub hl [0, 1, 2] rfl)

