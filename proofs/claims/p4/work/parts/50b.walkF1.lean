set_option maxHeartbeats 4000000 in
set_option maxRecDepth 100000 in
/-- KeyMeetingModel.secret(I)I -/
theorem c_F_secret1 (l : Launch) (dC : Nat → ClassId) (dI : Nat → Nat → Nat) (cI cAA cB cL : ClassId) (o mt mn ml mc mh mk mp mm mb mw mr mx me mP mQ ms mo mW mD mB mR mS : Nat) (th : Int32) (sta : Int32) (hs : Int32) (sz_ : Nat) (i_ : Int32) (sz : Nat) (hbad : i_ < 0 ∨ nI 7 < i_) : Met l zy_N_secret zw_N_secret { frames := 2, cells := 0, slots := 0, locals := 54 } (kz_Pc (dC, dI) vwCl [(cI, .int), (cAA, .array .int), (cB, .byte), (cL, .long)] [] [] [.ref o, .int i_] [(o, .inr (4, [.int th, .int sta, .ref mt, .ref mn, .ref ml, .ref mc, .ref mh, .ref mk, .ref mp, .ref mm, .ref mb, .ref mw, .ref mr, .ref mx, .ref me, .ref mP, .ref mQ, .ref ms, .int hs, .int (nI (sz_)), .ref mo, .ref mW, .ref mD, .ref mB, .ref mR, .ref mS]))] [] sz) (va_Qi (fun (r : Int32) (u : Int32) => (u = nI 1) ∧ True) (kz_B (dC, dI) vwCl (va_A [(o, .inr (4, [.int th, .int sta, .ref mt, .ref mn, .ref ml, .ref mc, .ref mh, .ref mk, .ref mp, .ref mm, .ref mb, .ref mw, .ref mr, .ref mx, .ref me, .ref mP, .ref mQ, .ref ms, .int hs, .int (nI (sz_)), .ref mo, .ref mW, .ref mD, .ref mB, .ref mR, .ref mS]))] sz) (fun u : Int32 => [(o, .inr (4, [.int u, .int sta, .ref mt, .ref mn, .ref ml, .ref mc, .ref mh, .ref mk, .ref mp, .ref mm, .ref mb, .ref mw, .ref mr, .ref mx, .ref me, .ref mP, .ref mQ, .ref ms, .int hs, .int (nI (sz_)), .ref mo, .ref mW, .ref mD, .ref mB, .ref mR, .ref mS]))])) (va_A [(o, .inr (4, [.int th, .int sta, .ref mt, .ref mn, .ref ml, .ref mc, .ref mh, .ref mk, .ref mp, .ref mm, .ref mb, .ref mw, .ref mr, .ref mx, .ref me, .ref mP, .ref mQ, .ref ms, .int hs, .int (nI (sz_)), .ref mo, .ref mW, .ref mD, .ref mB, .ref mR, .ref mS]))] sz)) 0 0 (va_A [(o, .inr (4, [.int th, .int sta, .ref mt, .ref mn, .ref ml, .ref mc, .ref mh, .ref mk, .ref mp, .ref mm, .ref mb, .ref mw, .ref mr, .ref mx, .ref me, .ref mP, .ref mQ, .ref ms, .int hs, .int (nI (sz_)), .ref mo, .ref mW, .ref mD, .ref mB, .ref mR, .ref mS]))] sz) := by
  refine kz_met (y := zy_N_secret) (ws := zw_N_secret) (av := [.ref o, .int i_]) (sz := sz) (Qc := fun A => va_Qi (fun (r : Int32) (u : Int32) => (u = nI 1) ∧ True) (kz_B (dC, dI) vwCl A (fun u : Int32 => [(o, .inr (4, [.int u, .int sta, .ref mt, .ref mn, .ref ml, .ref mc, .ref mh, .ref mk, .ref mp, .ref mm, .ref mb, .ref mw, .ref mr, .ref mx, .ref me, .ref mP, .ref mQ, .ref ms, .int hs, .int (nI (sz_)), .ref mo, .ref mW, .ref mD, .ref mB, .ref mR, .ref mS]))])) A) (cc := zc_N_secret) (maxL := 2) (ret := some .int) (by decide) rfl (Nat.le_of_ble_eq_true rfl) ?_
  intro p e s m below meth c A ls F hA hdy hK hro hZ hN hl
  obtain ⟨hx, hb, hml, hr, hown, hlocks, hts, hnm⟩ := id F
  have hl : lv_has ls 2 [(0, .ref o), (1, .int i_)] := hl
  refine lv_aload_n hx hb zd_N_secret_0 rfl (lv_at hl 0 rfl) ?_
  refine lv_iload_n hx hb zd_N_secret_1 rfl (lv_at hl 1 rfl) ?_
  refine lv_if_lt (tgt := 11) hx hb zd_N_secret_2 (by decide) (fun hc2 => ?_) (fun hc2 => ?_)
  · refine lv_iconst (v := (nI (1))) hx hb zd_N_secret_11 (by decide) ?_
    refine lv_goto (tgt := 16) hx hb zd_N_secret_12 (by decide) ?_
    refine lv_iconst (v := (nI (0))) hx hb zd_N_secret_16 (by decide) ?_
    refine kz_calli (wk := []) (va_runV (As := [.int (nI (1)), .int (nI (0))]) (rest := []) ⟨hx, hb, hml, hown, hts⟩ (c_M_refused1 l dC dI cI cAA cB cL o mt mn ml mc mh mk mp mm mb mw mr mx me mP mQ ms mo mW mD mB mR mS (th) (sta) (hs) sz_ _) (cwV 2 hts (kz_g (kz_mc mw_674 (kz_mc mw_676 (kz_mc mw_20 (kz_mc mw_43 kz_mn)))) mw_677) rfl rfl rfl (by decide +kernel) ⟨Nat.le_of_ble_eq_true rfl, Nat.le_of_ble_eq_true rfl⟩) (kz_preV hdy hA hK hro hZ hN [0] (by decide) rfl [] rfl (by decide) [0, 1, 2, 3] rfl (fun _ h => by cases h) (fun _ h => by cases h) rfl (ci := 4) (q0 := 0) rfl rfl rfl) rfl rfl hl.1 rfl (lv_room (Nat.le_of_ble_eq_true rfl)) zd_N_secret_17 ⟨Nat.le_of_ble_eq_true rfl, Nat.le_of_ble_eq_true rfl⟩) hdy hA [0] [] rfl rfl (by decide) (by decide) (fun r u H locs hw hdy => ?_)
    obtain ⟨x1, rfl⟩ : ∃ z, z = u := ⟨_, rfl⟩
    try dsimp only at hw
    obtain ⟨rfl, q2, -⟩ := hw
    have hdy : kz_dy (dC, dI) vwCl A s.heap H locs [(o, .inr (4, [.int x1, .int sta, .ref mt, .ref mn, .ref ml, .ref mc, .ref mh, .ref mk, .ref mp, .ref mm, .ref mb, .ref mw, .ref mr, .ref mx, .ref me, .ref mP, .ref mQ, .ref ms, .int hs, .int (nI (sz_)), .ref mo, .ref mW, .ref mD, .ref mB, .ref mR, .ref mS]))] := hdy.sub [0] (by decide) rfl
    refine lv_if_eq (tgt := 25) hx hb zd_N_secret_20 (by decide) (fun hc20 => ?_) (fun hc20 => ?_)
    · exact absurd hc20 (by decide)
    · refine lv_iconst (v := (nI (0))) hx hb zd_N_secret_23 (by decide) ?_
      exact kz_iret F (x1) hdy (⟨by first | assumption | rfl | omega, trivial⟩) zd_N_secret_24
  · refine lv_iload_n hx hb zd_N_secret_5 rfl (lv_at hl 1 rfl) ?_
    refine lv_bipush (v := (nI (7))) hx hb zd_N_secret_6 (by decide) ?_
    refine lv_icmp_le (tgt := 15) hx hb zd_N_secret_8 (by decide) (fun hc8 => ?_) (fun hc8 => ?_)
    · rcases hbad with h9 | h9 <;> first | contradiction | exact (kz_nle h9 (by assumption)).elim
    · refine lv_iconst (v := (nI (1))) hx hb zd_N_secret_11 (by decide) ?_
      refine lv_goto (tgt := 16) hx hb zd_N_secret_12 (by decide) ?_
      refine lv_iconst (v := (nI (0))) hx hb zd_N_secret_16 (by decide) ?_
      refine kz_calli (wk := []) (va_runV (As := [.int (nI (1)), .int (nI (0))]) (rest := []) ⟨hx, hb, hml, hown, hts⟩ (c_M_refused1 l dC dI cI cAA cB cL o mt mn ml mc mh mk mp mm mb mw mr mx me mP mQ ms mo mW mD mB mR mS (th) (sta) (hs) sz_ _) (cwV 2 hts (kz_g (kz_mc mw_674 (kz_mc mw_676 (kz_mc mw_20 (kz_mc mw_43 kz_mn)))) mw_677) rfl rfl rfl (by decide +kernel) ⟨Nat.le_of_ble_eq_true rfl, Nat.le_of_ble_eq_true rfl⟩) (kz_preV hdy hA hK hro hZ hN [0] (by decide) rfl [] rfl (by decide) [0, 1, 2, 3] rfl (fun _ h => by cases h) (fun _ h => by cases h) rfl (ci := 4) (q0 := 0) rfl rfl rfl) rfl rfl hl.1 rfl (lv_room (Nat.le_of_ble_eq_true rfl)) zd_N_secret_17 ⟨Nat.le_of_ble_eq_true rfl, Nat.le_of_ble_eq_true rfl⟩) hdy hA [0] [] rfl rfl (by decide) (by decide) (fun r u H locs hw hdy => ?_)
      obtain ⟨x3, rfl⟩ : ∃ z, z = u := ⟨_, rfl⟩
      try dsimp only at hw
      obtain ⟨rfl, q4, -⟩ := hw
      have hdy : kz_dy (dC, dI) vwCl A s.heap H locs [(o, .inr (4, [.int x3, .int sta, .ref mt, .ref mn, .ref ml, .ref mc, .ref mh, .ref mk, .ref mp, .ref mm, .ref mb, .ref mw, .ref mr, .ref mx, .ref me, .ref mP, .ref mQ, .ref ms, .int hs, .int (nI (sz_)), .ref mo, .ref mW, .ref mD, .ref mB, .ref mR, .ref mS]))] := hdy.sub [0] (by decide) rfl
      refine lv_if_eq (tgt := 25) hx hb zd_N_secret_20 (by decide) (fun hc20 => ?_) (fun hc20 => ?_)
      · exact absurd hc20 (by decide)
      · refine lv_iconst (v := (nI (0))) hx hb zd_N_secret_23 (by decide) ?_
        exact kz_iret F (x3) hdy (⟨by first | assumption | rfl | omega, trivial⟩) zd_N_secret_24

