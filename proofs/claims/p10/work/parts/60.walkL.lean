set_option maxHeartbeats 4000000 in
set_option maxRecDepth 100000 in
/-- KeyMeetingModel.key(II)I -/
theorem c_F_keyW (l : Launch) (dC : Nat → ClassId) (dI : Nat → Nat → Nat) (cI cAA cB cL : ClassId) (o mt mn ml mc mh mk mp mm mb mw mr mx me mP mQ ms mo mW mD mB mR mS : Nat) (th : Int32) (sta : Int32) (hs : Int32) (sz_ : Nat) (gmk : Nat → Int32) (w_ : Nat) (i_ : Nat) (sz : Nat) (hw_ : w_ < 2) (hi_ : i_ < 16) : Met l zy_N_key zw_N_key { frames := 1, cells := 0, slots := 0, locals := 22 } (kz_Pc (dC, dI) vwCl [(cI, .int), (cAA, .array .int), (cB, .byte), (cL, .long)] [] [] [.ref o, .int (nI (w_)), .int (nI (i_))] [(o, .inr (4, [.int th, .int sta, .ref mt, .ref mn, .ref ml, .ref mc, .ref mh, .ref mk, .ref mp, .ref mm, .ref mb, .ref mw, .ref mr, .ref mx, .ref me, .ref mP, .ref mQ, .ref ms, .int hs, .int (nI (sz_)), .ref mo, .ref mW, .ref mD, .ref mB, .ref mR, .ref mS]))] [(mk, .inl (cI, 32, .inl gmk))] sz) (va_Qi (fun _ _ => True) (kz_B (dC, dI) vwCl (va_A [(o, .inr (4, [.int th, .int sta, .ref mt, .ref mn, .ref ml, .ref mc, .ref mh, .ref mk, .ref mp, .ref mm, .ref mb, .ref mw, .ref mr, .ref mx, .ref me, .ref mP, .ref mQ, .ref ms, .int hs, .int (nI (sz_)), .ref mo, .ref mW, .ref mD, .ref mB, .ref mR, .ref mS]))] sz) (fun u : Int32 => [(o, .inr (4, [.int u, .int sta, .ref mt, .ref mn, .ref ml, .ref mc, .ref mh, .ref mk, .ref mp, .ref mm, .ref mb, .ref mw, .ref mr, .ref mx, .ref me, .ref mP, .ref mQ, .ref ms, .int hs, .int (nI (sz_)), .ref mo, .ref mW, .ref mD, .ref mB, .ref mR, .ref mS]))])) (va_A [(o, .inr (4, [.int th, .int sta, .ref mt, .ref mn, .ref ml, .ref mc, .ref mh, .ref mk, .ref mp, .ref mm, .ref mb, .ref mw, .ref mr, .ref mx, .ref me, .ref mP, .ref mQ, .ref ms, .int hs, .int (nI (sz_)), .ref mo, .ref mW, .ref mD, .ref mB, .ref mR, .ref mS]))] sz)) 0 0 (va_A [(o, .inr (4, [.int th, .int sta, .ref mt, .ref mn, .ref ml, .ref mc, .ref mh, .ref mk, .ref mp, .ref mm, .ref mb, .ref mw, .ref mr, .ref mx, .ref me, .ref mP, .ref mQ, .ref ms, .int hs, .int (nI (sz_)), .ref mo, .ref mW, .ref mD, .ref mB, .ref mR, .ref mS]))] sz) := by
  refine kz_met (y := zy_N_key) (ws := zw_N_key) (av := [.ref o, .int (nI (w_)), .int (nI (i_))]) (sz := sz) (Qc := fun A => va_Qi (fun _ _ => True) (kz_B (dC, dI) vwCl A (fun u : Int32 => [(o, .inr (4, [.int u, .int sta, .ref mt, .ref mn, .ref ml, .ref mc, .ref mh, .ref mk, .ref mp, .ref mm, .ref mb, .ref mw, .ref mr, .ref mx, .ref me, .ref mP, .ref mQ, .ref ms, .int hs, .int (nI (sz_)), .ref mo, .ref mW, .ref mD, .ref mB, .ref mR, .ref mS]))])) A) (cc := zc_N_key) (maxL := 3) (ret := some .int) (by decide) rfl (Nat.le_of_ble_eq_true rfl) ?_
  intro p e s m below meth c A ls F hA hdy hK hro hZ hN hl
  obtain ⟨hx, hb, hml, hr, hown, hlocks, hts, hnm⟩ := id F
  have hl : lv_has ls 3 [(0, .ref o), (1, .int (nI (w_))), (2, .int (nI (i_)))] := hl
  refine lv_aload_n hx hb zd_N_key_0 rfl (lv_at hl 0 rfl) ?_
  refine lv_iload_n hx hb zd_N_key_1 rfl (lv_at hl 1 rfl) ?_
  refine lv_if_lt (tgt := 20) hx hb zd_N_key_2 (by decide) (fun hc2 => ?_) (fun hc2 => ?_)
  · exact absurd hc2 (nI_pos (by omega))
  · refine lv_iload_n hx hb zd_N_key_5 rfl (lv_at hl 1 rfl) ?_
    refine lv_iconst (v := (nI (1))) hx hb zd_N_key_6 (by decide) ?_
    refine lv_icmp_gt (tgt := 20) hx hb zd_N_key_7 (by decide) (fun hc7 => ?_) (fun hc7 => ?_)
    · have hc7 : 1 < w_ := (nI_ltI (by omega) (by omega)).mp hc7
      refine lv_iconst (v := (nI (1))) hx hb zd_N_key_20 (by decide) ?_
      refine lv_goto (tgt := 25) hx hb zd_N_key_21 (by decide) ?_
      refine lv_aload_n hx hb zd_N_key_25 rfl (lv_at hl 0 rfl) ?_
      refine va_get (D := (dC, dI)) (ci := 4) (v := .int sta) (C := zR_N) (T := zT_N) (N := 26) hx hb hts (fun w h => kz_c (zi_N w h)) hown hK hdy.1 0 rfl rfl 1 (by decide) (hts _ (kz_c mw_592)) (fun _ h9 => h9) rfl zd_N_key_26 ?_
      refine lv_iconst (v := (nI (3))) hx hb zd_N_key_29 (by decide) ?_
      refine lv_icmp_eq (tgt := 37) hx hb zd_N_key_30 (by decide) (fun hc30 => ?_) (fun hc30 => ?_)
      · refine lv_iconst (v := (nI (0))) hx hb zd_N_key_37 (by decide) ?_
        refine kz_calli (wk := []) (va_runV (As := [.int (nI (1)), .int (nI (0))]) (rest := []) ⟨hx, hb, hml, hown, hts⟩ (c_M_refused1 l dC dI cI cAA cB cL o mt mn ml mc mh mk mp mm mb mw mr mx me mP mQ ms mo mW mD mB mR mS (th) (sta) (hs) sz_ _) (cwV 2 hts (kz_g (kz_mc mw_674 (kz_mc mw_676 (kz_mc mw_20 (kz_mc mw_43 kz_mn)))) mw_677) rfl rfl rfl (by decide +kernel) ⟨Nat.le_of_ble_eq_true rfl, Nat.le_of_ble_eq_true rfl⟩) (kz_preV hdy hA hK hro hZ hN [0] (by decide) rfl [] rfl (by decide) [0, 1, 2, 3] rfl (fun _ h => by cases h) (fun _ h => by cases h) rfl (ci := 4) (q0 := 0) rfl rfl rfl) rfl rfl hl.1 rfl (lv_room (Nat.le_of_ble_eq_true rfl)) zd_N_key_38 ⟨Nat.le_of_ble_eq_true rfl, Nat.le_of_ble_eq_true rfl⟩) hdy hA [0] [] rfl rfl (by decide) (by decide) (fun r u H locs hw hdy => ?_)
        obtain ⟨x1, rfl⟩ : ∃ z, z = u := ⟨_, rfl⟩
        try dsimp only at hw
        obtain ⟨rfl, q2, -⟩ := hw
        have hdy : kz_dy (dC, dI) vwCl A s.heap H locs [(o, .inr (4, [.int x1, .int sta, .ref mt, .ref mn, .ref ml, .ref mc, .ref mh, .ref mk, .ref mp, .ref mm, .ref mb, .ref mw, .ref mr, .ref mx, .ref me, .ref mP, .ref mQ, .ref ms, .int hs, .int (nI (sz_)), .ref mo, .ref mW, .ref mD, .ref mB, .ref mR, .ref mS]))] := hdy.sub [0] (by decide) rfl
        refine lv_if_eq (tgt := 48) hx hb zd_N_key_41 (by decide) (fun hc41 => ?_) (fun hc41 => ?_)
        · exact absurd hc41 (by decide)
        · refine lv_iconst (v := (nI (0))) hx hb zd_N_key_44 (by decide) ?_
          refine lv_goto (tgt := 59) hx hb zd_N_key_45 (by decide) ?_
          exact kz_iret F (x1) hdy (trivial) zd_N_key_59
      · refine lv_iconst (v := (nI (1))) hx hb zd_N_key_33 (by decide) ?_
        refine lv_goto (tgt := 38) hx hb zd_N_key_34 (by decide) ?_
        refine kz_calli (wk := []) (va_runV (As := [.int (nI (1)), .int (nI (1))]) (rest := []) ⟨hx, hb, hml, hown, hts⟩ (c_M_refused3 l dC dI cI cAA cB cL o mt mn ml mc mh mk mp mm mb mw mr mx me mP mQ ms mo mW mD mB mR mS (th) (sta) (hs) sz_ _) (cwV 2 hts (kz_g (kz_mc mw_674 (kz_mc mw_676 (kz_mc mw_20 (kz_mc mw_43 kz_mn)))) mw_677) rfl rfl rfl (by decide +kernel) ⟨Nat.le_of_ble_eq_true rfl, Nat.le_of_ble_eq_true rfl⟩) (kz_preV hdy hA hK hro hZ hN [0] (by decide) rfl [] rfl (by decide) [0, 1, 2, 3] rfl (fun _ h => by cases h) (fun _ h => by cases h) rfl (ci := 4) (q0 := 0) rfl rfl rfl) rfl rfl hl.1 rfl (lv_room (Nat.le_of_ble_eq_true rfl)) zd_N_key_38 ⟨Nat.le_of_ble_eq_true rfl, Nat.le_of_ble_eq_true rfl⟩) hdy hA [0] [] rfl rfl (by decide) (by decide) (fun r u H locs hw hdy => ?_)
        obtain ⟨x3, rfl⟩ : ∃ z, z = u := ⟨_, rfl⟩
        try dsimp only at hw
        obtain ⟨rfl, q4, -⟩ := hw
        have hdy : kz_dy (dC, dI) vwCl A s.heap H locs [(o, .inr (4, [.int x3, .int sta, .ref mt, .ref mn, .ref ml, .ref mc, .ref mh, .ref mk, .ref mp, .ref mm, .ref mb, .ref mw, .ref mr, .ref mx, .ref me, .ref mP, .ref mQ, .ref ms, .int hs, .int (nI (sz_)), .ref mo, .ref mW, .ref mD, .ref mB, .ref mR, .ref mS]))] := hdy.sub [0] (by decide) rfl
        refine lv_if_eq (tgt := 48) hx hb zd_N_key_41 (by decide) (fun hc41 => ?_) (fun hc41 => ?_)
        · exact absurd hc41 (by decide)
        · refine lv_iconst (v := (nI (0))) hx hb zd_N_key_44 (by decide) ?_
          refine lv_goto (tgt := 59) hx hb zd_N_key_45 (by decide) ?_
          exact kz_iret F (x3) hdy (trivial) zd_N_key_59
    · have hc7 : ¬ 1 < w_ := fun h9 => hc7 ((nI_ltI (by omega) (by omega)).mpr h9)
      refine lv_iload_n hx hb zd_N_key_10 rfl (lv_at hl 2 rfl) ?_
      refine lv_if_lt (tgt := 20) hx hb zd_N_key_11 (by decide) (fun hc11 => ?_) (fun hc11 => ?_)
      · exact absurd hc11 (nI_pos (by omega))
      · refine lv_iload_n hx hb zd_N_key_14 rfl (lv_at hl 2 rfl) ?_
        refine lv_bipush (v := (nI (15))) hx hb zd_N_key_15 (by decide) ?_
        refine lv_icmp_le (tgt := 24) hx hb zd_N_key_17 (by decide) (fun hc17 => ?_) (fun hc17 => ?_)
        · have hc17 : i_ ≤ 15 := (nI_leI (by omega) (by omega)).mp hc17
          refine lv_iconst (v := (nI (0))) hx hb zd_N_key_24 (by decide) ?_
          refine lv_aload_n hx hb zd_N_key_25 rfl (lv_at hl 0 rfl) ?_
          refine va_get (D := (dC, dI)) (ci := 4) (v := .int sta) (C := zR_N) (T := zT_N) (N := 26) hx hb hts (fun w h => kz_c (zi_N w h)) hown hK hdy.1 0 rfl rfl 1 (by decide) (hts _ (kz_c mw_592)) (fun _ h9 => h9) rfl zd_N_key_26 ?_
          refine lv_iconst (v := (nI (3))) hx hb zd_N_key_29 (by decide) ?_
          refine lv_icmp_eq (tgt := 37) hx hb zd_N_key_30 (by decide) (fun hc30 => ?_) (fun hc30 => ?_)
          · refine lv_iconst (v := (nI (0))) hx hb zd_N_key_37 (by decide) ?_
            refine kz_calli (wk := []) (va_runV (As := [.int (nI (0)), .int (nI (0))]) (rest := []) ⟨hx, hb, hml, hown, hts⟩ (c_M_refused0 l dC dI cI cAA cB cL o mt mn ml mc mh mk mp mm mb mw mr mx me mP mQ ms mo mW mD mB mR mS (th) (sta) (hs) sz_ _) (cwV 2 hts (kz_g (kz_mc mw_674 (kz_mc mw_676 (kz_mc mw_20 (kz_mc mw_43 kz_mn)))) mw_677) rfl rfl rfl (by decide +kernel) ⟨Nat.le_of_ble_eq_true rfl, Nat.le_of_ble_eq_true rfl⟩) (kz_preV hdy hA hK hro hZ hN [0] (by decide) rfl [] rfl (by decide) [0, 1, 2, 3] rfl (fun _ h => by cases h) (fun _ h => by cases h) rfl (ci := 4) (q0 := 0) rfl rfl rfl) rfl rfl hl.1 rfl (lv_room (Nat.le_of_ble_eq_true rfl)) zd_N_key_38 ⟨Nat.le_of_ble_eq_true rfl, Nat.le_of_ble_eq_true rfl⟩) hdy hA [0] [] rfl rfl (by decide) (by decide) (fun r u H locs hw hdy => ?_)
            obtain ⟨x5, rfl⟩ : ∃ z, z = u := ⟨_, rfl⟩
            try dsimp only at hw
            obtain ⟨rfl, q6, -⟩ := hw
            have hdy : kz_dy (dC, dI) vwCl A s.heap H locs [(o, .inr (4, [.int x5, .int sta, .ref mt, .ref mn, .ref ml, .ref mc, .ref mh, .ref mk, .ref mp, .ref mm, .ref mb, .ref mw, .ref mr, .ref mx, .ref me, .ref mP, .ref mQ, .ref ms, .int hs, .int (nI (sz_)), .ref mo, .ref mW, .ref mD, .ref mB, .ref mR, .ref mS]))] := hdy.sub [0] (by decide) rfl
            refine lv_if_eq (tgt := 48) hx hb zd_N_key_41 (by decide) (fun hc41 => ?_) (fun hc41 => ?_)
            · refine lv_aload_n hx hb zd_N_key_48 rfl (lv_at hl 0 rfl) ?_
              refine va_get (D := (dC, dI)) (ci := 4) (v := .ref mk) (C := zR_N) (T := zT_N) (N := 26) hx hb hts (fun w h => kz_c (zi_N w h)) hown hK hdy.1 0 rfl rfl 7 (by decide) (hts _ (kz_c mw_598)) (fun _ h9 => h9) rfl zd_N_key_49 ?_
              refine lv_bipush (v := (nI (16))) hx hb zd_N_key_52 (by decide) ?_
              refine lv_iload_n hx hb zd_N_key_54 rfl (lv_at hl 1 rfl) ?_
              refine kz_imul hx hb zd_N_key_55 (pk_mul _ _) ?_
              refine lv_iload_n hx hb zd_N_key_56 rfl (lv_at hl 2 rfl) ?_
              refine kz_iadd hx hb zd_N_key_57 (nI_add _ _) ?_
              refine kz_riald hx hb hK hro hdy.2.2 0 0 rfl rfl (vp_in_nI (by omega) (by omega)) zd_N_key_58 ?_
              refine lv_topi (fun x7 h9 => ?_)
              obtain rfl : x7 = gmk (16 * w_ + i_) := h9.trans (by rw [nI_clamp (by omega)])
              exact kz_iret F (x5) hdy (trivial) zd_N_key_59
            · exact absurd (by decide) hc41
          · refine lv_iconst (v := (nI (1))) hx hb zd_N_key_33 (by decide) ?_
            refine lv_goto (tgt := 38) hx hb zd_N_key_34 (by decide) ?_
            refine kz_calli (wk := []) (va_runV (As := [.int (nI (0)), .int (nI (1))]) (rest := []) ⟨hx, hb, hml, hown, hts⟩ (c_M_refused2 l dC dI cI cAA cB cL o mt mn ml mc mh mk mp mm mb mw mr mx me mP mQ ms mo mW mD mB mR mS (th) (sta) (hs) sz_ _) (cwV 2 hts (kz_g (kz_mc mw_674 (kz_mc mw_676 (kz_mc mw_20 (kz_mc mw_43 kz_mn)))) mw_677) rfl rfl rfl (by decide +kernel) ⟨Nat.le_of_ble_eq_true rfl, Nat.le_of_ble_eq_true rfl⟩) (kz_preV hdy hA hK hro hZ hN [0] (by decide) rfl [] rfl (by decide) [0, 1, 2, 3] rfl (fun _ h => by cases h) (fun _ h => by cases h) rfl (ci := 4) (q0 := 0) rfl rfl rfl) rfl rfl hl.1 rfl (lv_room (Nat.le_of_ble_eq_true rfl)) zd_N_key_38 ⟨Nat.le_of_ble_eq_true rfl, Nat.le_of_ble_eq_true rfl⟩) hdy hA [0] [] rfl rfl (by decide) (by decide) (fun r u H locs hw hdy => ?_)
            obtain ⟨x8, rfl⟩ : ∃ z, z = u := ⟨_, rfl⟩
            try dsimp only at hw
            obtain ⟨rfl, q9, -⟩ := hw
            have hdy : kz_dy (dC, dI) vwCl A s.heap H locs [(o, .inr (4, [.int x8, .int sta, .ref mt, .ref mn, .ref ml, .ref mc, .ref mh, .ref mk, .ref mp, .ref mm, .ref mb, .ref mw, .ref mr, .ref mx, .ref me, .ref mP, .ref mQ, .ref ms, .int hs, .int (nI (sz_)), .ref mo, .ref mW, .ref mD, .ref mB, .ref mR, .ref mS]))] := hdy.sub [0] (by decide) rfl
            refine lv_if_eq (tgt := 48) hx hb zd_N_key_41 (by decide) (fun hc41 => ?_) (fun hc41 => ?_)
            · exact absurd hc41 (by decide)
            · refine lv_iconst (v := (nI (0))) hx hb zd_N_key_44 (by decide) ?_
              refine lv_goto (tgt := 59) hx hb zd_N_key_45 (by decide) ?_
              exact kz_iret F (x8) hdy (trivial) zd_N_key_59
        · have hc17 : ¬ i_ ≤ 15 := fun h9 => hc17 ((nI_leI (by omega) (by omega)).mpr h9)
          refine lv_iconst (v := (nI (1))) hx hb zd_N_key_20 (by decide) ?_
          refine lv_goto (tgt := 25) hx hb zd_N_key_21 (by decide) ?_
          refine lv_aload_n hx hb zd_N_key_25 rfl (lv_at hl 0 rfl) ?_
          refine va_get (D := (dC, dI)) (ci := 4) (v := .int sta) (C := zR_N) (T := zT_N) (N := 26) hx hb hts (fun w h => kz_c (zi_N w h)) hown hK hdy.1 0 rfl rfl 1 (by decide) (hts _ (kz_c mw_592)) (fun _ h9 => h9) rfl zd_N_key_26 ?_
          refine lv_iconst (v := (nI (3))) hx hb zd_N_key_29 (by decide) ?_
          refine lv_icmp_eq (tgt := 37) hx hb zd_N_key_30 (by decide) (fun hc30 => ?_) (fun hc30 => ?_)
          · refine lv_iconst (v := (nI (0))) hx hb zd_N_key_37 (by decide) ?_
            refine kz_calli (wk := []) (va_runV (As := [.int (nI (1)), .int (nI (0))]) (rest := []) ⟨hx, hb, hml, hown, hts⟩ (c_M_refused1 l dC dI cI cAA cB cL o mt mn ml mc mh mk mp mm mb mw mr mx me mP mQ ms mo mW mD mB mR mS (th) (sta) (hs) sz_ _) (cwV 2 hts (kz_g (kz_mc mw_674 (kz_mc mw_676 (kz_mc mw_20 (kz_mc mw_43 kz_mn)))) mw_677) rfl rfl rfl (by decide +kernel) ⟨Nat.le_of_ble_eq_true rfl, Nat.le_of_ble_eq_true rfl⟩) (kz_preV hdy hA hK hro hZ hN [0] (by decide) rfl [] rfl (by decide) [0, 1, 2, 3] rfl (fun _ h => by cases h) (fun _ h => by cases h) rfl (ci := 4) (q0 := 0) rfl rfl rfl) rfl rfl hl.1 rfl (lv_room (Nat.le_of_ble_eq_true rfl)) zd_N_key_38 ⟨Nat.le_of_ble_eq_true rfl, Nat.le_of_ble_eq_true rfl⟩) hdy hA [0] [] rfl rfl (by decide) (by decide) (fun r u H locs hw hdy => ?_)
            obtain ⟨x10, rfl⟩ : ∃ z, z = u := ⟨_, rfl⟩
            try dsimp only at hw
            obtain ⟨rfl, q11, -⟩ := hw
            have hdy : kz_dy (dC, dI) vwCl A s.heap H locs [(o, .inr (4, [.int x10, .int sta, .ref mt, .ref mn, .ref ml, .ref mc, .ref mh, .ref mk, .ref mp, .ref mm, .ref mb, .ref mw, .ref mr, .ref mx, .ref me, .ref mP, .ref mQ, .ref ms, .int hs, .int (nI (sz_)), .ref mo, .ref mW, .ref mD, .ref mB, .ref mR, .ref mS]))] := hdy.sub [0] (by decide) rfl
            refine lv_if_eq (tgt := 48) hx hb zd_N_key_41 (by decide) (fun hc41 => ?_) (fun hc41 => ?_)
            · exact absurd hc41 (by decide)
            · refine lv_iconst (v := (nI (0))) hx hb zd_N_key_44 (by decide) ?_
              refine lv_goto (tgt := 59) hx hb zd_N_key_45 (by decide) ?_
              exact kz_iret F (x10) hdy (trivial) zd_N_key_59
          · refine lv_iconst (v := (nI (1))) hx hb zd_N_key_33 (by decide) ?_
            refine lv_goto (tgt := 38) hx hb zd_N_key_34 (by decide) ?_
            refine kz_calli (wk := []) (va_runV (As := [.int (nI (1)), .int (nI (1))]) (rest := []) ⟨hx, hb, hml, hown, hts⟩ (c_M_refused3 l dC dI cI cAA cB cL o mt mn ml mc mh mk mp mm mb mw mr mx me mP mQ ms mo mW mD mB mR mS (th) (sta) (hs) sz_ _) (cwV 2 hts (kz_g (kz_mc mw_674 (kz_mc mw_676 (kz_mc mw_20 (kz_mc mw_43 kz_mn)))) mw_677) rfl rfl rfl (by decide +kernel) ⟨Nat.le_of_ble_eq_true rfl, Nat.le_of_ble_eq_true rfl⟩) (kz_preV hdy hA hK hro hZ hN [0] (by decide) rfl [] rfl (by decide) [0, 1, 2, 3] rfl (fun _ h => by cases h) (fun _ h => by cases h) rfl (ci := 4) (q0 := 0) rfl rfl rfl) rfl rfl hl.1 rfl (lv_room (Nat.le_of_ble_eq_true rfl)) zd_N_key_38 ⟨Nat.le_of_ble_eq_true rfl, Nat.le_of_ble_eq_true rfl⟩) hdy hA [0] [] rfl rfl (by decide) (by decide) (fun r u H locs hw hdy => ?_)
            obtain ⟨x12, rfl⟩ : ∃ z, z = u := ⟨_, rfl⟩
            try dsimp only at hw
            obtain ⟨rfl, q13, -⟩ := hw
            have hdy : kz_dy (dC, dI) vwCl A s.heap H locs [(o, .inr (4, [.int x12, .int sta, .ref mt, .ref mn, .ref ml, .ref mc, .ref mh, .ref mk, .ref mp, .ref mm, .ref mb, .ref mw, .ref mr, .ref mx, .ref me, .ref mP, .ref mQ, .ref ms, .int hs, .int (nI (sz_)), .ref mo, .ref mW, .ref mD, .ref mB, .ref mR, .ref mS]))] := hdy.sub [0] (by decide) rfl
            refine lv_if_eq (tgt := 48) hx hb zd_N_key_41 (by decide) (fun hc41 => ?_) (fun hc41 => ?_)
            · exact absurd hc41 (by decide)
            · refine lv_iconst (v := (nI (0))) hx hb zd_N_key_44 (by decide) ?_
              refine lv_goto (tgt := 59) hx hb zd_N_key_45 (by decide) ?_
              exact kz_iret F (x12) hdy (trivial) zd_N_key_59

set_option maxHeartbeats 4000000 in
set_option maxRecDepth 100000 in
/-- KeyMeetingLaw.number(LKeyMeeting;III)I -/
theorem c_L_number0 (l : Launch) (hl9 : l.stackTraces = false) (dC : Nat → ClassId) (dI : Nat → Nat → Nat) (cI cAA cB cL : ClassId) (t0 t1 t2 t3 t4 t5 t6 to h wy off cm hs ks ah ar ao ho mo dg : Nat) (gt0 : Nat → Nat) (gt1 : Nat → Nat) (gt2 : Nat → Nat) (gt3 : Nat → Nat) (gt4 : Nat → Nat) (gt5 : Nat → Nat) (gt6 : Nat → Nat) (stg : Int32) (w_ : Nat) (i_ : Nat) (v_ : Nat) (sz : Nat) (hd_gt0 : ∀ j, gt0 j < 4294967296) (hd_gt1 : ∀ j, gt1 j < 4294967296) (hd_gt2 : ∀ j, gt2 j < 4294967296) (hd_gt3 : ∀ j, gt3 j < 4294967296) (hd_gt4 : ∀ j, gt4 j < 4294967296) (hd_gt5 : ∀ j, gt5 j < 4294967296) (hd_gt6 : ∀ j, gt6 j < 4294967296) (hw_ : w_ < 7) (hi_ : i_ < 8) (hv_ : v_ < 4294967296) (sa : Nat) : Met l zy_L_number zw_L_number { frames := 10, cells := 0, slots := 0, locals := 244 } (fun a U => kz_Pc (dC, dI) vwCl [(cI, .int), (cAA, .array .int), (cB, .byte), (cL, .long)] [] [] [.ref h, .int (nI (w_)), .int (nI (i_)), .int (nI (v_))] [(t0, .inl (cI, 8, .inl (kz_dg gt0))), (t1, .inl (cI, 8, .inl (kz_dg gt1))), (t2, .inl (cI, 8, .inl (kz_dg gt2))), (t3, .inl (cI, 8, .inl (kz_dg gt3))), (t4, .inl (cI, 8, .inl (kz_dg gt4))), (t5, .inl (cI, 8, .inl (kz_dg gt5))), (t6, .inl (cI, 8, .inl (kz_dg gt6))), (to, .inl (cAA, 7, .inr (.inr (.inr (.inr (kz_row [t0, t1, t2, t3, t4, t5, t6]))))))] [(h, .inr (0, [.ref to, .ref wy, .ref off, .ref cm, .ref hs, .ref ks, .ref ah, .ref ar, .ref ao, .ref ho, .ref mo, .ref dg, .int stg]))] sz a U ∧ (fun _ => True) U) (va_Qi (fun (r : Int32) (u : (Nat → Nat) × (Nat → Nat) × (Nat → Nat) × (Nat → Nat) × (Nat → Nat) × (Nat → Nat) × (Nat → Nat)) => (∀ j, u.1 j < 4294967296) ∧ (∀ j, u.2.1 j < 4294967296) ∧ (∀ j, u.2.2.1 j < 4294967296) ∧ (∀ j, u.2.2.2.1 j < 4294967296) ∧ (∀ j, u.2.2.2.2.1 j < 4294967296) ∧ (∀ j, u.2.2.2.2.2.1 j < 4294967296) ∧ (∀ j, u.2.2.2.2.2.2 j < 4294967296) ∧ (r = nI 0) ∧ (∀ j, j < 8 → u.1 j = if w_ = 0 then kv_up gt0 i_ v_ j else gt0 j) ∧ (∀ j, j < 8 → u.2.1 j = if w_ = 1 then kv_up gt1 i_ v_ j else gt1 j) ∧ (∀ j, j < 8 → u.2.2.1 j = if w_ = 2 then kv_up gt2 i_ v_ j else gt2 j) ∧ (∀ j, j < 8 → u.2.2.2.1 j = if w_ = 3 then kv_up gt3 i_ v_ j else gt3 j) ∧ (∀ j, j < 8 → u.2.2.2.2.1 j = if w_ = 4 then kv_up gt4 i_ v_ j else gt4 j) ∧ (∀ j, j < 8 → u.2.2.2.2.2.1 j = if w_ = 5 then kv_up gt5 i_ v_ j else gt5 j) ∧ (∀ j, j < 8 → u.2.2.2.2.2.2 j = if w_ = 6 then kv_up gt6 i_ v_ j else gt6 j) ∧ True) (kz_B (dC, dI) vwCl (va_A [(t0, .inl (cI, 8, .inl (kz_dg gt0))), (t1, .inl (cI, 8, .inl (kz_dg gt1))), (t2, .inl (cI, 8, .inl (kz_dg gt2))), (t3, .inl (cI, 8, .inl (kz_dg gt3))), (t4, .inl (cI, 8, .inl (kz_dg gt4))), (t5, .inl (cI, 8, .inl (kz_dg gt5))), (t6, .inl (cI, 8, .inl (kz_dg gt6))), (to, .inl (cAA, 7, .inr (.inr (.inr (.inr (kz_row [t0, t1, t2, t3, t4, t5, t6]))))))] sz) (fun u : (Nat → Nat) × (Nat → Nat) × (Nat → Nat) × (Nat → Nat) × (Nat → Nat) × (Nat → Nat) × (Nat → Nat) => [(t0, .inl (cI, 8, .inl (kz_dg u.1))), (t1, .inl (cI, 8, .inl (kz_dg u.2.1))), (t2, .inl (cI, 8, .inl (kz_dg u.2.2.1))), (t3, .inl (cI, 8, .inl (kz_dg u.2.2.2.1))), (t4, .inl (cI, 8, .inl (kz_dg u.2.2.2.2.1))), (t5, .inl (cI, 8, .inl (kz_dg u.2.2.2.2.2.1))), (t6, .inl (cI, 8, .inl (kz_dg u.2.2.2.2.2.2))), (to, .inl (cAA, 7, .inr (.inr (.inr (.inr (kz_row [t0, t1, t2, t3, t4, t5, t6]))))))])) (va_A [(t0, .inl (cI, 8, .inl (kz_dg gt0))), (t1, .inl (cI, 8, .inl (kz_dg gt1))), (t2, .inl (cI, 8, .inl (kz_dg gt2))), (t3, .inl (cI, 8, .inl (kz_dg gt3))), (t4, .inl (cI, 8, .inl (kz_dg gt4))), (t5, .inl (cI, 8, .inl (kz_dg gt5))), (t6, .inl (cI, 8, .inl (kz_dg gt6))), (to, .inl (cAA, 7, .inr (.inr (.inr (.inr (kz_row [t0, t1, t2, t3, t4, t5, t6]))))))] sz)) 0 0 (va_A [(t0, .inl (cI, 8, .inl (kz_dg gt0))), (t1, .inl (cI, 8, .inl (kz_dg gt1))), (t2, .inl (cI, 8, .inl (kz_dg gt2))), (t3, .inl (cI, 8, .inl (kz_dg gt3))), (t4, .inl (cI, 8, .inl (kz_dg gt4))), (t5, .inl (cI, 8, .inl (kz_dg gt5))), (t6, .inl (cI, 8, .inl (kz_dg gt6))), (to, .inl (cAA, 7, .inr (.inr (.inr (.inr (kz_row [t0, t1, t2, t3, t4, t5, t6]))))))] sz) := by
  refine kz_metW (y := zy_L_number) (ws := zw_L_number) (av := [.ref h, .int (nI (w_)), .int (nI (i_)), .int (nI (v_))]) (sz := sz) (PX := (fun _ => True)) (Qc := fun A => va_Qi (fun (r : Int32) (u : (Nat → Nat) × (Nat → Nat) × (Nat → Nat) × (Nat → Nat) × (Nat → Nat) × (Nat → Nat) × (Nat → Nat)) => (∀ j, u.1 j < 4294967296) ∧ (∀ j, u.2.1 j < 4294967296) ∧ (∀ j, u.2.2.1 j < 4294967296) ∧ (∀ j, u.2.2.2.1 j < 4294967296) ∧ (∀ j, u.2.2.2.2.1 j < 4294967296) ∧ (∀ j, u.2.2.2.2.2.1 j < 4294967296) ∧ (∀ j, u.2.2.2.2.2.2 j < 4294967296) ∧ (r = nI 0) ∧ (∀ j, j < 8 → u.1 j = if w_ = 0 then kv_up gt0 i_ v_ j else gt0 j) ∧ (∀ j, j < 8 → u.2.1 j = if w_ = 1 then kv_up gt1 i_ v_ j else gt1 j) ∧ (∀ j, j < 8 → u.2.2.1 j = if w_ = 2 then kv_up gt2 i_ v_ j else gt2 j) ∧ (∀ j, j < 8 → u.2.2.2.1 j = if w_ = 3 then kv_up gt3 i_ v_ j else gt3 j) ∧ (∀ j, j < 8 → u.2.2.2.2.1 j = if w_ = 4 then kv_up gt4 i_ v_ j else gt4 j) ∧ (∀ j, j < 8 → u.2.2.2.2.2.1 j = if w_ = 5 then kv_up gt5 i_ v_ j else gt5 j) ∧ (∀ j, j < 8 → u.2.2.2.2.2.2 j = if w_ = 6 then kv_up gt6 i_ v_ j else gt6 j) ∧ True) (kz_B (dC, dI) vwCl A (fun u : (Nat → Nat) × (Nat → Nat) × (Nat → Nat) × (Nat → Nat) × (Nat → Nat) × (Nat → Nat) × (Nat → Nat) => [(t0, .inl (cI, 8, .inl (kz_dg u.1))), (t1, .inl (cI, 8, .inl (kz_dg u.2.1))), (t2, .inl (cI, 8, .inl (kz_dg u.2.2.1))), (t3, .inl (cI, 8, .inl (kz_dg u.2.2.2.1))), (t4, .inl (cI, 8, .inl (kz_dg u.2.2.2.2.1))), (t5, .inl (cI, 8, .inl (kz_dg u.2.2.2.2.2.1))), (t6, .inl (cI, 8, .inl (kz_dg u.2.2.2.2.2.2))), (to, .inl (cAA, 7, .inr (.inr (.inr (.inr (kz_row [t0, t1, t2, t3, t4, t5, t6]))))))])) A) (cc := zc_L_number) (maxL := 5) (ret := some .int) (hh := zh_L_number) (by decide) rfl (Nat.le_of_ble_eq_true rfl) ?_
  intro p e s m below meth c A ls F htab hA hAw hdy hK hro hZ hN hPX hl
  obtain ⟨hx, hb, hml, hr, hown, hlocks, hts, hnm⟩ := id F
  have hl : lv_has ls 5 [(0, .ref h), (1, .int (nI (w_))), (2, .int (nI (i_))), (3, .int (nI (v_)))] := hl
  refine lv_aload_n hx hb zd_L_number_0 rfl (lv_at hl 0 rfl) ?_
  refine lv_iload_n hx hb zd_L_number_1 rfl (lv_at hl 1 rfl) ?_
  refine lv_iload_n hx hb zd_L_number_2 rfl (lv_at hl 2 rfl) ?_
  refine lv_iload_n hx hb zd_L_number_3 rfl (lv_at hl 3 rfl) ?_
  refine kz_callv (wk := []) (va_runV (As := [.int (nI (w_)), .int (nI (i_)), .int (nI (v_))]) (rest := []) ⟨hx, hb, hml, hown, hts⟩ (c_J_number l dC dI cI cAA cB cL t0 t1 t2 t3 t4 t5 t6 to h wy off cm hs ks ah ar ao ho mo dg gt0 gt1 gt2 gt3 gt4 gt5 gt6 (stg) w_ i_ v_ _ hd_gt0 hd_gt1 hd_gt2 hd_gt3 hd_gt4 hd_gt5 hd_gt6 (by first | omega | assumption) (by first | omega | assumption) (by first | omega | assumption)) (cwV 3 hts (kz_g (kz_mc mw_368 (kz_mc mw_369 (kz_mc mw_370 (kz_mc mw_39 kz_mn)))) mw_371) rfl rfl rfl (by decide +kernel) ⟨Nat.le_of_ble_eq_true rfl, Nat.le_of_ble_eq_true rfl⟩) (kz_preVr hdy hA hK hro hZ hN [0, 1, 2, 3, 4, 5, 6, 7] (by decide) rfl [(true, 0)] rfl (by decide) [0, 1, 2, 3] rfl (fun _ h => by cases h) (fun _ h => by cases h) rfl (ci := 0) (q0 := 0) rfl rfl rfl) rfl rfl hl.1 rfl (lv_room (Nat.le_of_ble_eq_true rfl)) zd_L_number_4 ⟨Nat.le_of_ble_eq_true rfl, Nat.le_of_ble_eq_true rfl⟩) hdy hA [0, 1, 2, 3, 4, 5, 6, 7] [] rfl rfl (by decide) (by decide) (fun u H locs hw hdy => ?_)
  obtain ⟨d1, d2, d3, d4, d5, d6, d7⟩ := u
  try dsimp only at hw
  obtain ⟨hd_d1, hd_d2, hd_d3, hd_d4, hd_d5, hd_d6, hd_d7, q8, q9, q10, q11, q12, q13, q14, -⟩ := hw
  have hdy : kz_dy (dC, dI) vwCl A s.heap H locs [(t0, .inl (cI, 8, .inl (kz_dg d1))), (t1, .inl (cI, 8, .inl (kz_dg d2))), (t2, .inl (cI, 8, .inl (kz_dg d3))), (t3, .inl (cI, 8, .inl (kz_dg d4))), (t4, .inl (cI, 8, .inl (kz_dg d5))), (t5, .inl (cI, 8, .inl (kz_dg d6))), (t6, .inl (cI, 8, .inl (kz_dg d7))), (to, .inl (cAA, 7, .inr (.inr (.inr (.inr (kz_row [t0, t1, t2, t3, t4, t5, t6]))))))] := hdy.sub [0, 1, 2, 3, 4, 5, 6, 7] (by decide) rfl
  refine lv_goto (tgt := 14) hx hb zd_L_number_7 (by decide) ?_
  refine lv_iconst (v := (nI (0))) hx hb zd_L_number_14 (by decide) ?_
  exact kz_iret F (d1, d2, d3, d4, d5, d6, d7) hdy (⟨hd_d1, hd_d2, hd_d3, hd_d4, hd_d5, hd_d6, hd_d7, by first | rfl | omega, by assumption, by assumption, by assumption, by assumption, by assumption, by assumption, by assumption, trivial⟩) zd_L_number_15

set_option maxHeartbeats 4000000 in
set_option maxRecDepth 100000 in
/-- KeyMeetingLaw.number(LKeyMeeting;III)I -/
theorem c_L_number1 (l : Launch) (hl9 : l.stackTraces = false) (dC : Nat → ClassId) (dI : Nat → Nat → Nat) (cI cAA cB cL : ClassId) (h to wy off cm hs ks ah ar ao ho mo dg : Nat) (stg : Int32) (w_ : Int32) (i_ : Int32) (v : Int32) (sz : Nat) (hbad : w_ < 0 ∨ nI 7 ≤ w_) (sa : Nat) : Met l zy_L_number zw_L_number { frames := 10, cells := 1, slots := 6, locals := 244 } (fun a U => kz_Pc (dC, dI) vwCl [(cI, .int), (cAA, .array .int), (cB, .byte), (cL, .long)] [] [] [.ref h, .int w_, .int i_, .int v] [] [(h, .inr (0, [.ref to, .ref wy, .ref off, .ref cm, .ref hs, .ref ks, .ref ah, .ref ar, .ref ao, .ref ho, .ref mo, .ref dg, .int stg]))] sz a U ∧ (kz_PI sa) U) (va_Qi (fun (r : Int32) (u : Unit) => (r = nI 1) ∧ True) (kz_B (dC, dI) vwCl (va_A [] sz) (fun u : Unit => [])) (va_A [] sz)) 1 6 (va_A [] sz) := by
  refine kz_metW (y := zy_L_number) (ws := zw_L_number) (av := [.ref h, .int w_, .int i_, .int v]) (sz := sz) (PX := (kz_PI sa)) (Qc := fun A => va_Qi (fun (r : Int32) (u : Unit) => (r = nI 1) ∧ True) (kz_B (dC, dI) vwCl A (fun u : Unit => [])) A) (cc := zc_L_number) (maxL := 5) (ret := some .int) (hh := zh_L_number) (by decide) rfl (Nat.le_of_ble_eq_true rfl) ?_
  intro p e s m below meth c A ls F htab hA hAw hdy hK hro hZ hN hPX hl
  obtain ⟨hx, hb, hml, hr, hown, hlocks, hts, hnm⟩ := id F
  have hAn : ∀ q, A q → s.heap.size ≤ q := fun q h => (hAw q h).elim (fun ⟨k, e, h⟩ => by simp at h) id
  have hl : lv_has ls 5 [(0, .ref h), (1, .int w_), (2, .int i_), (3, .int v)] := hl
  refine lv_aload_n hx hb zd_L_number_0 rfl (lv_at hl 0 rfl) ?_
  refine lv_iload_n hx hb zd_L_number_1 rfl (lv_at hl 1 rfl) ?_
  refine lv_iload_n hx hb zd_L_number_2 rfl (lv_at hl 2 rfl) ?_
  refine lv_iload_n hx hb zd_L_number_3 rfl (lv_at hl 3 rfl) ?_
  refine kz_catchV1 (As := [.int w_, .int i_, .int v]) (rest := []) (b := h) ⟨hx, hb, hml, hown, hts⟩ (c_P_number1 l hl9 dC dI cI cAA cB cL h w_ i_ v _ sa hbad) (cwV 3 hts (kz_g (kz_mc mw_368 (kz_mc mw_369 (kz_mc mw_370 (kz_mc mw_39 kz_mn)))) mw_371) rfl rfl rfl (by decide +kernel) ⟨Nat.le_of_ble_eq_true rfl, Nat.le_of_ble_eq_true rfl⟩) (kz_preTV (fun _ _ h => kz_PI.old h) hPX (kz_preVr (As := [.int w_, .int i_, .int v]) hdy hA hK hro hZ hN [] (by decide) rfl [] rfl (by decide) [0, 1, 2, 3] rfl (fun _ h => by cases h) (fun _ h => by cases h) rfl (ci := 0) (q0 := 0) rfl rfl rfl) hdy.2.2 hAn) rfl hl.1 (Nat.le_of_ble_eq_true rfl) zd_L_number_4 ⟨Nat.le_of_ble_eq_true rfl, Nat.le_of_ble_eq_true rfl⟩ (kz_tab1 htab) (by decide) (by decide) (hts _ (kz_c mw_367)) (hPX.1 _ _ (by simp [Bundle.ownAtoms])) (fun q1 H z1 z2 => ?_)
  have hdy := hdy.grow z1 z2
  refine lv_astore (lv' := [(4, .ref q1), (0, .ref h), (1, .int w_), (2, .int i_), (3, .int v)]) hx hb zd_L_number_10 hl (by decide) rfl (fun ls hl => ?_)
  refine lv_iconst (v := (nI (1))) hx hb zd_L_number_12 (by decide) ?_
  exact kz_iret F () hdy (⟨by first | rfl | omega, trivial⟩) zd_L_number_13

set_option maxHeartbeats 4000000 in
set_option maxRecDepth 100000 in
/-- KeyMeetingLaw.number(LKeyMeeting;III)I -/
theorem c_L_number2 (l : Launch) (hl9 : l.stackTraces = false) (dC : Nat → ClassId) (dI : Nat → Nat → Nat) (cI cAA cB cL : ClassId) (h to wy off cm hs ks ah ar ao ho mo dg : Nat) (stg : Int32) (w_ : Nat) (i_ : Int32) (v : Int32) (sz : Nat) (hw_ : w_ < 7) (hbad : i_ < 0 ∨ nI 8 ≤ i_) (sa : Nat) : Met l zy_L_number zw_L_number { frames := 10, cells := 1, slots := 6, locals := 244 } (fun a U => kz_Pc (dC, dI) vwCl [(cI, .int), (cAA, .array .int), (cB, .byte), (cL, .long)] [] [] [.ref h, .int (nI (w_)), .int i_, .int v] [] [(h, .inr (0, [.ref to, .ref wy, .ref off, .ref cm, .ref hs, .ref ks, .ref ah, .ref ar, .ref ao, .ref ho, .ref mo, .ref dg, .int stg]))] sz a U ∧ (kz_PI sa) U) (va_Qi (fun (r : Int32) (u : Unit) => (r = nI 1) ∧ True) (kz_B (dC, dI) vwCl (va_A [] sz) (fun u : Unit => [])) (va_A [] sz)) 1 6 (va_A [] sz) := by
  refine kz_metW (y := zy_L_number) (ws := zw_L_number) (av := [.ref h, .int (nI (w_)), .int i_, .int v]) (sz := sz) (PX := (kz_PI sa)) (Qc := fun A => va_Qi (fun (r : Int32) (u : Unit) => (r = nI 1) ∧ True) (kz_B (dC, dI) vwCl A (fun u : Unit => [])) A) (cc := zc_L_number) (maxL := 5) (ret := some .int) (hh := zh_L_number) (by decide) rfl (Nat.le_of_ble_eq_true rfl) ?_
  intro p e s m below meth c A ls F htab hA hAw hdy hK hro hZ hN hPX hl
  obtain ⟨hx, hb, hml, hr, hown, hlocks, hts, hnm⟩ := id F
  have hAn : ∀ q, A q → s.heap.size ≤ q := fun q h => (hAw q h).elim (fun ⟨k, e, h⟩ => by simp at h) id
  have hl : lv_has ls 5 [(0, .ref h), (1, .int (nI (w_))), (2, .int i_), (3, .int v)] := hl
  refine lv_aload_n hx hb zd_L_number_0 rfl (lv_at hl 0 rfl) ?_
  refine lv_iload_n hx hb zd_L_number_1 rfl (lv_at hl 1 rfl) ?_
  refine lv_iload_n hx hb zd_L_number_2 rfl (lv_at hl 2 rfl) ?_
  refine lv_iload_n hx hb zd_L_number_3 rfl (lv_at hl 3 rfl) ?_
  refine kz_catchV1 (As := [.int (nI (w_)), .int i_, .int v]) (rest := []) (b := h) ⟨hx, hb, hml, hown, hts⟩ (c_P_number2 l hl9 dC dI cI cAA cB cL h w_ i_ v _ sa hw_ hbad) (cwV 3 hts (kz_g (kz_mc mw_368 (kz_mc mw_369 (kz_mc mw_370 (kz_mc mw_39 kz_mn)))) mw_371) rfl rfl rfl (by decide +kernel) ⟨Nat.le_of_ble_eq_true rfl, Nat.le_of_ble_eq_true rfl⟩) (kz_preTV (fun _ _ h => kz_PI.old h) hPX (kz_preVr (As := [.int (nI (w_)), .int i_, .int v]) hdy hA hK hro hZ hN [] (by decide) rfl [] rfl (by decide) [0, 1, 2, 3] rfl (fun _ h => by cases h) (fun _ h => by cases h) rfl (ci := 0) (q0 := 0) rfl rfl rfl) hdy.2.2 hAn) rfl hl.1 (Nat.le_of_ble_eq_true rfl) zd_L_number_4 ⟨Nat.le_of_ble_eq_true rfl, Nat.le_of_ble_eq_true rfl⟩ (kz_tab1 htab) (by decide) (by decide) (hts _ (kz_c mw_367)) (hPX.1 _ _ (by simp [Bundle.ownAtoms])) (fun q1 H z1 z2 => ?_)
  have hdy := hdy.grow z1 z2
  refine lv_astore (lv' := [(4, .ref q1), (0, .ref h), (1, .int (nI (w_))), (2, .int i_), (3, .int v)]) hx hb zd_L_number_10 hl (by decide) rfl (fun ls hl => ?_)
  refine lv_iconst (v := (nI (1))) hx hb zd_L_number_12 (by decide) ?_
  exact kz_iret F () hdy (⟨by first | rfl | omega, trivial⟩) zd_L_number_13

set_option maxHeartbeats 4000000 in
set_option maxRecDepth 100000 in
/-- KeyMeetingLaw.small(LKeyMeeting;IJ)I -/
theorem c_L_small0 (l : Launch) (hl9 : l.stackTraces = false) (dC : Nat → ClassId) (dI : Nat → Nat → Nat) (cI cAA cB cL : ClassId) (t0 t1 t2 t3 t4 t5 t6 to h wy off cm hs ks ah ar ao ho mo dg : Nat) (gt0 : Nat → Nat) (gt1 : Nat → Nat) (gt2 : Nat → Nat) (gt3 : Nat → Nat) (gt4 : Nat → Nat) (gt5 : Nat → Nat) (gt6 : Nat → Nat) (stg : Int32) (w_ : Nat) (vn : Nat) (sz : Nat) (hd_gt0 : ∀ j, gt0 j < 4294967296) (hd_gt1 : ∀ j, gt1 j < 4294967296) (hd_gt2 : ∀ j, gt2 j < 4294967296) (hd_gt3 : ∀ j, gt3 j < 4294967296) (hd_gt4 : ∀ j, gt4 j < 4294967296) (hd_gt5 : ∀ j, gt5 j < 4294967296) (hd_gt6 : ∀ j, gt6 j < 4294967296) (hw_ : w_ < 7) (hv_ : vn < 9223372036854775808) (sa : Nat) : Met l zy_L_small zw_L_small { frames := 10, cells := 0, slots := 0, locals := 244 } (fun a U => kz_Pc (dC, dI) vwCl [(cI, .int), (cAA, .array .int), (cB, .byte), (cL, .long)] [] [] [.ref h, .int (nI (w_)), .long (kz_lz (((vn : Nat) : Int)))] [(t0, .inl (cI, 8, .inl (kz_dg gt0))), (t1, .inl (cI, 8, .inl (kz_dg gt1))), (t2, .inl (cI, 8, .inl (kz_dg gt2))), (t3, .inl (cI, 8, .inl (kz_dg gt3))), (t4, .inl (cI, 8, .inl (kz_dg gt4))), (t5, .inl (cI, 8, .inl (kz_dg gt5))), (t6, .inl (cI, 8, .inl (kz_dg gt6))), (to, .inl (cAA, 7, .inr (.inr (.inr (.inr (kz_row [t0, t1, t2, t3, t4, t5, t6]))))))] [(h, .inr (0, [.ref to, .ref wy, .ref off, .ref cm, .ref hs, .ref ks, .ref ah, .ref ar, .ref ao, .ref ho, .ref mo, .ref dg, .int stg]))] sz a U ∧ (fun _ => True) U) (va_Qi (fun (r : Int32) (u : (Nat → Nat) × (Nat → Nat) × (Nat → Nat) × (Nat → Nat) × (Nat → Nat) × (Nat → Nat) × (Nat → Nat)) => (∀ j, u.1 j < 4294967296) ∧ (∀ j, u.2.1 j < 4294967296) ∧ (∀ j, u.2.2.1 j < 4294967296) ∧ (∀ j, u.2.2.2.1 j < 4294967296) ∧ (∀ j, u.2.2.2.2.1 j < 4294967296) ∧ (∀ j, u.2.2.2.2.2.1 j < 4294967296) ∧ (∀ j, u.2.2.2.2.2.2 j < 4294967296) ∧ (r = nI 0) ∧ (∀ j, j < 8 → u.1 j = if w_ = 0 then kx_smallrow vn j else gt0 j) ∧ (∀ j, j < 8 → u.2.1 j = if w_ = 1 then kx_smallrow vn j else gt1 j) ∧ (∀ j, j < 8 → u.2.2.1 j = if w_ = 2 then kx_smallrow vn j else gt2 j) ∧ (∀ j, j < 8 → u.2.2.2.1 j = if w_ = 3 then kx_smallrow vn j else gt3 j) ∧ (∀ j, j < 8 → u.2.2.2.2.1 j = if w_ = 4 then kx_smallrow vn j else gt4 j) ∧ (∀ j, j < 8 → u.2.2.2.2.2.1 j = if w_ = 5 then kx_smallrow vn j else gt5 j) ∧ (∀ j, j < 8 → u.2.2.2.2.2.2 j = if w_ = 6 then kx_smallrow vn j else gt6 j) ∧ True) (kz_B (dC, dI) vwCl (va_A [(t0, .inl (cI, 8, .inl (kz_dg gt0))), (t1, .inl (cI, 8, .inl (kz_dg gt1))), (t2, .inl (cI, 8, .inl (kz_dg gt2))), (t3, .inl (cI, 8, .inl (kz_dg gt3))), (t4, .inl (cI, 8, .inl (kz_dg gt4))), (t5, .inl (cI, 8, .inl (kz_dg gt5))), (t6, .inl (cI, 8, .inl (kz_dg gt6))), (to, .inl (cAA, 7, .inr (.inr (.inr (.inr (kz_row [t0, t1, t2, t3, t4, t5, t6]))))))] sz) (fun u : (Nat → Nat) × (Nat → Nat) × (Nat → Nat) × (Nat → Nat) × (Nat → Nat) × (Nat → Nat) × (Nat → Nat) => [(t0, .inl (cI, 8, .inl (kz_dg u.1))), (t1, .inl (cI, 8, .inl (kz_dg u.2.1))), (t2, .inl (cI, 8, .inl (kz_dg u.2.2.1))), (t3, .inl (cI, 8, .inl (kz_dg u.2.2.2.1))), (t4, .inl (cI, 8, .inl (kz_dg u.2.2.2.2.1))), (t5, .inl (cI, 8, .inl (kz_dg u.2.2.2.2.2.1))), (t6, .inl (cI, 8, .inl (kz_dg u.2.2.2.2.2.2))), (to, .inl (cAA, 7, .inr (.inr (.inr (.inr (kz_row [t0, t1, t2, t3, t4, t5, t6]))))))])) (va_A [(t0, .inl (cI, 8, .inl (kz_dg gt0))), (t1, .inl (cI, 8, .inl (kz_dg gt1))), (t2, .inl (cI, 8, .inl (kz_dg gt2))), (t3, .inl (cI, 8, .inl (kz_dg gt3))), (t4, .inl (cI, 8, .inl (kz_dg gt4))), (t5, .inl (cI, 8, .inl (kz_dg gt5))), (t6, .inl (cI, 8, .inl (kz_dg gt6))), (to, .inl (cAA, 7, .inr (.inr (.inr (.inr (kz_row [t0, t1, t2, t3, t4, t5, t6]))))))] sz)) 0 0 (va_A [(t0, .inl (cI, 8, .inl (kz_dg gt0))), (t1, .inl (cI, 8, .inl (kz_dg gt1))), (t2, .inl (cI, 8, .inl (kz_dg gt2))), (t3, .inl (cI, 8, .inl (kz_dg gt3))), (t4, .inl (cI, 8, .inl (kz_dg gt4))), (t5, .inl (cI, 8, .inl (kz_dg gt5))), (t6, .inl (cI, 8, .inl (kz_dg gt6))), (to, .inl (cAA, 7, .inr (.inr (.inr (.inr (kz_row [t0, t1, t2, t3, t4, t5, t6]))))))] sz) := by
  refine kz_metW (y := zy_L_small) (ws := zw_L_small) (av := [.ref h, .int (nI (w_)), .long (kz_lz (((vn : Nat) : Int)))]) (sz := sz) (PX := (fun _ => True)) (Qc := fun A => va_Qi (fun (r : Int32) (u : (Nat → Nat) × (Nat → Nat) × (Nat → Nat) × (Nat → Nat) × (Nat → Nat) × (Nat → Nat) × (Nat → Nat)) => (∀ j, u.1 j < 4294967296) ∧ (∀ j, u.2.1 j < 4294967296) ∧ (∀ j, u.2.2.1 j < 4294967296) ∧ (∀ j, u.2.2.2.1 j < 4294967296) ∧ (∀ j, u.2.2.2.2.1 j < 4294967296) ∧ (∀ j, u.2.2.2.2.2.1 j < 4294967296) ∧ (∀ j, u.2.2.2.2.2.2 j < 4294967296) ∧ (r = nI 0) ∧ (∀ j, j < 8 → u.1 j = if w_ = 0 then kx_smallrow vn j else gt0 j) ∧ (∀ j, j < 8 → u.2.1 j = if w_ = 1 then kx_smallrow vn j else gt1 j) ∧ (∀ j, j < 8 → u.2.2.1 j = if w_ = 2 then kx_smallrow vn j else gt2 j) ∧ (∀ j, j < 8 → u.2.2.2.1 j = if w_ = 3 then kx_smallrow vn j else gt3 j) ∧ (∀ j, j < 8 → u.2.2.2.2.1 j = if w_ = 4 then kx_smallrow vn j else gt4 j) ∧ (∀ j, j < 8 → u.2.2.2.2.2.1 j = if w_ = 5 then kx_smallrow vn j else gt5 j) ∧ (∀ j, j < 8 → u.2.2.2.2.2.2 j = if w_ = 6 then kx_smallrow vn j else gt6 j) ∧ True) (kz_B (dC, dI) vwCl A (fun u : (Nat → Nat) × (Nat → Nat) × (Nat → Nat) × (Nat → Nat) × (Nat → Nat) × (Nat → Nat) × (Nat → Nat) => [(t0, .inl (cI, 8, .inl (kz_dg u.1))), (t1, .inl (cI, 8, .inl (kz_dg u.2.1))), (t2, .inl (cI, 8, .inl (kz_dg u.2.2.1))), (t3, .inl (cI, 8, .inl (kz_dg u.2.2.2.1))), (t4, .inl (cI, 8, .inl (kz_dg u.2.2.2.2.1))), (t5, .inl (cI, 8, .inl (kz_dg u.2.2.2.2.2.1))), (t6, .inl (cI, 8, .inl (kz_dg u.2.2.2.2.2.2))), (to, .inl (cAA, 7, .inr (.inr (.inr (.inr (kz_row [t0, t1, t2, t3, t4, t5, t6]))))))])) A) (cc := zc_L_small) (maxL := 5) (ret := some .int) (hh := zh_L_small) (by decide) rfl (Nat.le_of_ble_eq_true rfl) ?_
  intro p e s m below meth c A ls F htab hA hAw hdy hK hro hZ hN hPX hl
  obtain ⟨hx, hb, hml, hr, hown, hlocks, hts, hnm⟩ := id F
  have hl : lv_has ls 5 [(0, .ref h), (1, .int (nI (w_))), (2, .long (kz_lz (((vn : Nat) : Int))))] := hl
  refine lv_aload_n hx hb zd_L_small_0 rfl (lv_at hl 0 rfl) ?_
  refine lv_iload_n hx hb zd_L_small_1 rfl (lv_at hl 1 rfl) ?_
  refine lv_lload_n hx hb zd_L_small_2 rfl (lv_at hl 2 rfl) ?_
  refine kz_callv (wk := []) (va_runV (As := [.int (nI (w_)), .long (kz_lz (((vn : Nat) : Int)))]) (rest := []) ⟨hx, hb, hml, hown, hts⟩ (c_J_small l dC dI cI cAA cB cL t0 t1 t2 t3 t4 t5 t6 to h wy off cm hs ks ah ar ao ho mo dg gt0 gt1 gt2 gt3 gt4 gt5 gt6 (stg) w_ vn _ hd_gt0 hd_gt1 hd_gt2 hd_gt3 hd_gt4 hd_gt5 hd_gt6 (by first | omega | assumption) (by first | omega | assumption)) (cwV 2 hts (kz_g (kz_mc mw_447 (kz_mc mw_448 (kz_mc mw_449 (kz_mc mw_39 kz_mn)))) mw_450) rfl rfl rfl (by decide +kernel) ⟨Nat.le_of_ble_eq_true rfl, Nat.le_of_ble_eq_true rfl⟩) (kz_preVr hdy hA hK hro hZ hN [0, 1, 2, 3, 4, 5, 6, 7] (by decide) rfl [(true, 0)] rfl (by decide) [0, 1, 2, 3] rfl (fun _ h => by cases h) (fun _ h => by cases h) rfl (ci := 0) (q0 := 0) rfl rfl rfl) rfl rfl hl.1 rfl (lv_room (Nat.le_of_ble_eq_true rfl)) zd_L_small_3 ⟨Nat.le_of_ble_eq_true rfl, Nat.le_of_ble_eq_true rfl⟩) hdy hA [0, 1, 2, 3, 4, 5, 6, 7] [] rfl rfl (by decide) (by decide) (fun u H locs hw hdy => ?_)
  obtain ⟨d1, d2, d3, d4, d5, d6, d7⟩ := u
  try dsimp only at hw
  obtain ⟨hd_d1, hd_d2, hd_d3, hd_d4, hd_d5, hd_d6, hd_d7, q8, q9, q10, q11, q12, q13, q14, -⟩ := hw
  have hdy : kz_dy (dC, dI) vwCl A s.heap H locs [(t0, .inl (cI, 8, .inl (kz_dg d1))), (t1, .inl (cI, 8, .inl (kz_dg d2))), (t2, .inl (cI, 8, .inl (kz_dg d3))), (t3, .inl (cI, 8, .inl (kz_dg d4))), (t4, .inl (cI, 8, .inl (kz_dg d5))), (t5, .inl (cI, 8, .inl (kz_dg d6))), (t6, .inl (cI, 8, .inl (kz_dg d7))), (to, .inl (cAA, 7, .inr (.inr (.inr (.inr (kz_row [t0, t1, t2, t3, t4, t5, t6]))))))] := hdy.sub [0, 1, 2, 3, 4, 5, 6, 7] (by decide) rfl
  refine lv_goto (tgt := 17) hx hb zd_L_small_6 (by decide) ?_
  refine lv_iconst (v := (nI (0))) hx hb zd_L_small_17 (by decide) ?_
  exact kz_iret F (d1, d2, d3, d4, d5, d6, d7) hdy (⟨hd_d1, hd_d2, hd_d3, hd_d4, hd_d5, hd_d6, hd_d7, by first | rfl | omega, by assumption, by assumption, by assumption, by assumption, by assumption, by assumption, by assumption, trivial⟩) zd_L_small_18

set_option maxHeartbeats 4000000 in
set_option maxRecDepth 100000 in
/-- KeyMeetingLaw.small(LKeyMeeting;IJ)I -/
theorem c_L_small1 (l : Launch) (hl9 : l.stackTraces = false) (dC : Nat → ClassId) (dI : Nat → Nat → Nat) (cI cAA cB cL : ClassId) (h to wy off cm hs ks ah ar ao ho mo dg : Nat) (stg : Int32) (w_ : Int32) (v : Int64) (sz : Nat) (hbad : w_ < 0 ∨ nI 7 ≤ w_) (sa : Nat) : Met l zy_L_small zw_L_small { frames := 10, cells := 1, slots := 6, locals := 244 } (fun a U => kz_Pc (dC, dI) vwCl [(cI, .int), (cAA, .array .int), (cB, .byte), (cL, .long)] [] [] [.ref h, .int w_, .long v] [] [(h, .inr (0, [.ref to, .ref wy, .ref off, .ref cm, .ref hs, .ref ks, .ref ah, .ref ar, .ref ao, .ref ho, .ref mo, .ref dg, .int stg]))] sz a U ∧ (kz_PI sa) U) (va_Qi (fun (r : Int32) (u : Unit) => (r = nI 1) ∧ True) (kz_B (dC, dI) vwCl (va_A [] sz) (fun u : Unit => [])) (va_A [] sz)) 1 6 (va_A [] sz) := by
  refine kz_metW (y := zy_L_small) (ws := zw_L_small) (av := [.ref h, .int w_, .long v]) (sz := sz) (PX := (kz_PI sa)) (Qc := fun A => va_Qi (fun (r : Int32) (u : Unit) => (r = nI 1) ∧ True) (kz_B (dC, dI) vwCl A (fun u : Unit => [])) A) (cc := zc_L_small) (maxL := 5) (ret := some .int) (hh := zh_L_small) (by decide) rfl (Nat.le_of_ble_eq_true rfl) ?_
  intro p e s m below meth c A ls F htab hA hAw hdy hK hro hZ hN hPX hl
  obtain ⟨hx, hb, hml, hr, hown, hlocks, hts, hnm⟩ := id F
  have hAn : ∀ q, A q → s.heap.size ≤ q := fun q h => (hAw q h).elim (fun ⟨k, e, h⟩ => by simp at h) id
  have hl : lv_has ls 5 [(0, .ref h), (1, .int w_), (2, .long v)] := hl
  refine lv_aload_n hx hb zd_L_small_0 rfl (lv_at hl 0 rfl) ?_
  refine lv_iload_n hx hb zd_L_small_1 rfl (lv_at hl 1 rfl) ?_
  refine lv_lload_n hx hb zd_L_small_2 rfl (lv_at hl 2 rfl) ?_
  refine kz_catchV1 (As := [.int w_, .long v]) (rest := []) (b := h) ⟨hx, hb, hml, hown, hts⟩ (c_P_small1 l hl9 dC dI cI cAA cB cL h w_ v _ sa hbad) (cwV 2 hts (kz_g (kz_mc mw_447 (kz_mc mw_448 (kz_mc mw_449 (kz_mc mw_39 kz_mn)))) mw_450) rfl rfl rfl (by decide +kernel) ⟨Nat.le_of_ble_eq_true rfl, Nat.le_of_ble_eq_true rfl⟩) (kz_preTV (fun _ _ h => kz_PI.old h) hPX (kz_preVr (As := [.int w_, .long v]) hdy hA hK hro hZ hN [] (by decide) rfl [] rfl (by decide) [0, 1, 2, 3] rfl (fun _ h => by cases h) (fun _ h => by cases h) rfl (ci := 0) (q0 := 0) rfl rfl rfl) hdy.2.2 hAn) rfl hl.1 (Nat.le_of_ble_eq_true rfl) zd_L_small_3 ⟨Nat.le_of_ble_eq_true rfl, Nat.le_of_ble_eq_true rfl⟩ (kz_tab2 htab) (by decide) (by decide) (hts _ (kz_c mw_367)) (hPX.1 _ _ (by simp [Bundle.ownAtoms])) (fun q1 H z1 z2 => ?_)
  have hdy := hdy.grow z1 z2
  refine lv_astore (lv' := [(4, .ref q1), (0, .ref h), (1, .int w_), (2, .long v)]) hx hb zd_L_small_9 hl (by decide) rfl (fun ls hl => ?_)
  refine lv_iconst (v := (nI (1))) hx hb zd_L_small_11 (by decide) ?_
  exact kz_iret F () hdy (⟨by first | rfl | omega, trivial⟩) zd_L_small_12

set_option maxHeartbeats 4000000 in
set_option maxRecDepth 100000 in
/-- KeyMeetingLaw.small(LKeyMeeting;IJ)I -/
theorem c_L_small2 (l : Launch) (hl9 : l.stackTraces = false) (dC : Nat → ClassId) (dI : Nat → Nat → Nat) (cI cAA cB cL : ClassId) (h to wy off cm hs ks ah ar ao ho mo dg : Nat) (stg : Int32) (w_ : Nat) (v : Int64) (sz : Nat) (hw_ : w_ < 7) (hv_ : v < 0) (sa : Nat) : Met l zy_L_small zw_L_small { frames := 10, cells := 1, slots := 6, locals := 244 } (fun a U => kz_Pc (dC, dI) vwCl [(cI, .int), (cAA, .array .int), (cB, .byte), (cL, .long)] [] [] [.ref h, .int (nI (w_)), .long v] [] [(h, .inr (0, [.ref to, .ref wy, .ref off, .ref cm, .ref hs, .ref ks, .ref ah, .ref ar, .ref ao, .ref ho, .ref mo, .ref dg, .int stg]))] sz a U ∧ (fun U => kz_PA sa U ∧ va_Nc "java/lang/IllegalArgumentException" "java/lang/IndexOutOfBoundsException" U) U) (va_Qi (fun (r : Int32) (u : Unit) => (r = nI 2) ∧ True) (kz_B (dC, dI) vwCl (va_A [] sz) (fun u : Unit => [])) (va_A [] sz)) 1 6 (va_A [] sz) := by
  refine kz_metW (y := zy_L_small) (ws := zw_L_small) (av := [.ref h, .int (nI (w_)), .long v]) (sz := sz) (PX := (fun U => kz_PA sa U ∧ va_Nc "java/lang/IllegalArgumentException" "java/lang/IndexOutOfBoundsException" U)) (Qc := fun A => va_Qi (fun (r : Int32) (u : Unit) => (r = nI 2) ∧ True) (kz_B (dC, dI) vwCl A (fun u : Unit => [])) A) (cc := zc_L_small) (maxL := 5) (ret := some .int) (hh := zh_L_small) (by decide) rfl (Nat.le_of_ble_eq_true rfl) ?_
  intro p e s m below meth c A ls F htab hA hAw hdy hK hro hZ hN hPX hl
  obtain ⟨hx, hb, hml, hr, hown, hlocks, hts, hnm⟩ := id F
  have hAn : ∀ q, A q → s.heap.size ≤ q := fun q h => (hAw q h).elim (fun ⟨k, e, h⟩ => by simp at h) id
  have hl : lv_has ls 5 [(0, .ref h), (1, .int (nI (w_))), (2, .long v)] := hl
  refine lv_aload_n hx hb zd_L_small_0 rfl (lv_at hl 0 rfl) ?_
  refine lv_iload_n hx hb zd_L_small_1 rfl (lv_at hl 1 rfl) ?_
  refine lv_lload_n hx hb zd_L_small_2 rfl (lv_at hl 2 rfl) ?_
  refine kz_catchV2 (As := [.int (nI (w_)), .long v]) (rest := []) (b := h) ⟨hx, hb, hml, hown, hts⟩ (c_P_small2 l hl9 dC dI cI cAA cB cL h w_ v _ sa hw_ hv_) (cwV 2 hts (kz_g (kz_mc mw_447 (kz_mc mw_448 (kz_mc mw_449 (kz_mc mw_39 kz_mn)))) mw_450) rfl rfl rfl (by decide +kernel) ⟨Nat.le_of_ble_eq_true rfl, Nat.le_of_ble_eq_true rfl⟩) (kz_preTV (fun _ _ h => kz_PA.old h) hPX.1 (kz_preVr (As := [.int (nI (w_)), .long v]) hdy hA hK hro hZ hN [] (by decide) rfl [] rfl (by decide) [0, 1, 2, 3] rfl (fun _ h => by cases h) (fun _ h => by cases h) rfl (ci := 0) (q0 := 0) rfl rfl rfl) hdy.2.2 hAn) rfl hl.1 (Nat.le_of_ble_eq_true rfl) zd_L_small_3 ⟨Nat.le_of_ble_eq_true rfl, Nat.le_of_ble_eq_true rfl⟩ (kz_tab2 htab) (by decide) (by decide) (hts _ (kz_c mw_367)) hPX.2 (by decide) (by decide) (hts _ (kz_c mw_446)) (hPX.1.1 _ _ (by simp [Bundle.ownAtoms])) (fun q1 H z1 z2 => ?_)
  have hdy := hdy.grow z1 z2
  refine lv_astore (lv' := [(4, .ref q1), (0, .ref h), (1, .int (nI (w_))), (2, .long v)]) hx hb zd_L_small_13 hl (by decide) rfl (fun ls hl => ?_)
  refine lv_iconst (v := (nI (2))) hx hb zd_L_small_15 (by decide) ?_
  exact kz_iret F () hdy (⟨by first | rfl | omega, trivial⟩) zd_L_small_16

set_option maxHeartbeats 4000000 in
set_option maxRecDepth 100000 in
/-- KeyMeetingLaw.alter(LKeyMeeting;III[J)I -/
theorem c_L_alter0 (l : Launch) (hl9 : l.stackTraces = false) (dC : Nat → ClassId) (dI : Nat → Nat → Nat) (cI cAA cB cL : ClassId) (y0 y1 y2 y3 out wy h to off cm hs ks ah ar ao ho mo dg : Nat) (gy0 : Nat → Nat) (gy1 : Nat → Nat) (gy2 : Nat → Nat) (gy3 : Nat → Nat) (gout : Nat → Int64) (stg : Int32) (w_ : Nat) (i_ : Nat) (v_ : Nat) (sz : Nat) (hd_gy0 : ∀ j, gy0 j < 4294967296) (hd_gy1 : ∀ j, gy1 j < 4294967296) (hd_gy2 : ∀ j, gy2 j < 4294967296) (hd_gy3 : ∀ j, gy3 j < 4294967296) (hw_ : w_ < 4) (hi_ : i_ < 8) (hv_ : v_ < 4294967296) (sa : Nat) : Met l zy_L_alter zw_L_alter { frames := 10, cells := 0, slots := 0, locals := 245 } (fun a U => kz_Pc (dC, dI) vwCl [(cI, .int), (cAA, .array .int), (cB, .byte), (cL, .long)] [] [] [.ref h, .int (nI (w_)), .int (nI (i_)), .int (nI (v_)), .ref out] [(y0, .inl (cI, 8, .inl (kz_dg gy0))), (y1, .inl (cI, 8, .inl (kz_dg gy1))), (y2, .inl (cI, 8, .inl (kz_dg gy2))), (y3, .inl (cI, 8, .inl (kz_dg gy3))), (out, .inl (cL, 1, .inr (.inl gout))), (wy, .inl (cAA, 4, .inr (.inr (.inr (.inr (kz_row [y0, y1, y2, y3]))))))] [(h, .inr (0, [.ref to, .ref wy, .ref off, .ref cm, .ref hs, .ref ks, .ref ah, .ref ar, .ref ao, .ref ho, .ref mo, .ref dg, .int stg]))] sz a U ∧ (fun _ => True) U) (va_Qi (fun (r : Int32) (u : (Nat → Nat) × (Nat → Nat) × (Nat → Nat) × (Nat → Nat) × (Nat → Int64)) => (∀ j, u.1 j < 4294967296) ∧ (∀ j, u.2.1 j < 4294967296) ∧ (∀ j, u.2.2.1 j < 4294967296) ∧ (∀ j, u.2.2.2.1 j < 4294967296) ∧ (r = nI 0) ∧ (∃ z : Int32, ((kx_alt stg w_ ∧ z = 1 ∧ (u.1 = if w_ = 0 then kv_up gy0 i_ (gy0 i_ ^^^ v_) else gy0) ∧ (u.2.1 = if w_ = 1 then kv_up gy1 i_ (gy1 i_ ^^^ v_) else gy1) ∧ (u.2.2.1 = if w_ = 2 then kv_up gy2 i_ (gy2 i_ ^^^ v_) else gy2) ∧ (u.2.2.2.1 = if w_ = 3 then kv_up gy3 i_ (gy3 i_ ^^^ v_) else gy3)) ∨ (¬ kx_alt stg w_ ∧ z = 0 ∧ u.1 = gy0 ∧ u.2.1 = gy1 ∧ u.2.2.1 = gy2 ∧ u.2.2.2.1 = gy3)) ∧ u.2.2.2.2 0 = z.toInt64) ∧ True) (kz_B (dC, dI) vwCl (va_A [(y0, .inl (cI, 8, .inl (kz_dg gy0))), (y1, .inl (cI, 8, .inl (kz_dg gy1))), (y2, .inl (cI, 8, .inl (kz_dg gy2))), (y3, .inl (cI, 8, .inl (kz_dg gy3))), (out, .inl (cL, 1, .inr (.inl gout))), (wy, .inl (cAA, 4, .inr (.inr (.inr (.inr (kz_row [y0, y1, y2, y3]))))))] sz) (fun u : (Nat → Nat) × (Nat → Nat) × (Nat → Nat) × (Nat → Nat) × (Nat → Int64) => [(y0, .inl (cI, 8, .inl (kz_dg u.1))), (y1, .inl (cI, 8, .inl (kz_dg u.2.1))), (y2, .inl (cI, 8, .inl (kz_dg u.2.2.1))), (y3, .inl (cI, 8, .inl (kz_dg u.2.2.2.1))), (out, .inl (cL, 1, .inr (.inl u.2.2.2.2))), (wy, .inl (cAA, 4, .inr (.inr (.inr (.inr (kz_row [y0, y1, y2, y3]))))))])) (va_A [(y0, .inl (cI, 8, .inl (kz_dg gy0))), (y1, .inl (cI, 8, .inl (kz_dg gy1))), (y2, .inl (cI, 8, .inl (kz_dg gy2))), (y3, .inl (cI, 8, .inl (kz_dg gy3))), (out, .inl (cL, 1, .inr (.inl gout))), (wy, .inl (cAA, 4, .inr (.inr (.inr (.inr (kz_row [y0, y1, y2, y3]))))))] sz)) 0 0 (va_A [(y0, .inl (cI, 8, .inl (kz_dg gy0))), (y1, .inl (cI, 8, .inl (kz_dg gy1))), (y2, .inl (cI, 8, .inl (kz_dg gy2))), (y3, .inl (cI, 8, .inl (kz_dg gy3))), (out, .inl (cL, 1, .inr (.inl gout))), (wy, .inl (cAA, 4, .inr (.inr (.inr (.inr (kz_row [y0, y1, y2, y3]))))))] sz) := by
  refine kz_metW (y := zy_L_alter) (ws := zw_L_alter) (av := [.ref h, .int (nI (w_)), .int (nI (i_)), .int (nI (v_)), .ref out]) (sz := sz) (PX := (fun _ => True)) (Qc := fun A => va_Qi (fun (r : Int32) (u : (Nat → Nat) × (Nat → Nat) × (Nat → Nat) × (Nat → Nat) × (Nat → Int64)) => (∀ j, u.1 j < 4294967296) ∧ (∀ j, u.2.1 j < 4294967296) ∧ (∀ j, u.2.2.1 j < 4294967296) ∧ (∀ j, u.2.2.2.1 j < 4294967296) ∧ (r = nI 0) ∧ (∃ z : Int32, ((kx_alt stg w_ ∧ z = 1 ∧ (u.1 = if w_ = 0 then kv_up gy0 i_ (gy0 i_ ^^^ v_) else gy0) ∧ (u.2.1 = if w_ = 1 then kv_up gy1 i_ (gy1 i_ ^^^ v_) else gy1) ∧ (u.2.2.1 = if w_ = 2 then kv_up gy2 i_ (gy2 i_ ^^^ v_) else gy2) ∧ (u.2.2.2.1 = if w_ = 3 then kv_up gy3 i_ (gy3 i_ ^^^ v_) else gy3)) ∨ (¬ kx_alt stg w_ ∧ z = 0 ∧ u.1 = gy0 ∧ u.2.1 = gy1 ∧ u.2.2.1 = gy2 ∧ u.2.2.2.1 = gy3)) ∧ u.2.2.2.2 0 = z.toInt64) ∧ True) (kz_B (dC, dI) vwCl A (fun u : (Nat → Nat) × (Nat → Nat) × (Nat → Nat) × (Nat → Nat) × (Nat → Int64) => [(y0, .inl (cI, 8, .inl (kz_dg u.1))), (y1, .inl (cI, 8, .inl (kz_dg u.2.1))), (y2, .inl (cI, 8, .inl (kz_dg u.2.2.1))), (y3, .inl (cI, 8, .inl (kz_dg u.2.2.2.1))), (out, .inl (cL, 1, .inr (.inl u.2.2.2.2))), (wy, .inl (cAA, 4, .inr (.inr (.inr (.inr (kz_row [y0, y1, y2, y3]))))))])) A) (cc := zc_L_alter) (maxL := 6) (ret := some .int) (hh := zh_L_alter) (by decide) rfl (Nat.le_of_ble_eq_true rfl) ?_
  intro p e s m below meth c A ls F htab hA hAw hdy hK hro hZ hN hPX hl
  obtain ⟨hx, hb, hml, hr, hown, hlocks, hts, hnm⟩ := id F
  have hl : lv_has ls 6 [(0, .ref h), (1, .int (nI (w_))), (2, .int (nI (i_))), (3, .int (nI (v_))), (4, .ref out)] := hl
  refine lv_aload hx hb zd_L_alter_0 (lv_at hl 4 rfl) ?_
  refine lv_iconst (v := (nI (0))) hx hb zd_L_alter_2 (by decide) ?_
  refine lv_aload_n hx hb zd_L_alter_3 rfl (lv_at hl 0 rfl) ?_
  refine lv_iload_n hx hb zd_L_alter_4 rfl (lv_at hl 1 rfl) ?_
  refine lv_iload_n hx hb zd_L_alter_5 rfl (lv_at hl 2 rfl) ?_
  refine lv_iload_n hx hb zd_L_alter_6 rfl (lv_at hl 3 rfl) ?_
  refine kz_calli (wk := [(out, .inl (cL, 1, .inr (.inl gout)))]) (va_runV (As := [.int (nI (w_)), .int (nI (i_)), .int (nI (v_))]) (rest := [.int (nI (0)), .ref out]) ⟨hx, hb, hml, hown, hts⟩ (c_J_alter l dC dI cI cAA cB cL y0 y1 y2 y3 wy h to off cm hs ks ah ar ao ho mo dg gy0 gy1 gy2 gy3 (stg) w_ i_ v_ _ hd_gy0 hd_gy1 hd_gy2 hd_gy3 (by first | omega | assumption) (by first | omega | assumption) (by first | omega | assumption)) (cwV 3 hts (kz_g (kz_mc mw_471 (kz_mc mw_472 (kz_mc mw_473 (kz_mc mw_39 kz_mn)))) mw_474) rfl rfl rfl (by decide +kernel) ⟨Nat.le_of_ble_eq_true rfl, Nat.le_of_ble_eq_true rfl⟩) (kz_preVr hdy hA hK hro hZ hN [0, 1, 2, 3, 5] (by decide) rfl [(true, 0)] rfl (by decide) [0, 1, 2, 3] rfl (fun _ h => by cases h) (fun _ h => by cases h) rfl (ci := 0) (q0 := 0) rfl rfl rfl) rfl rfl hl.1 rfl (lv_room (Nat.le_of_ble_eq_true rfl)) zd_L_alter_7 ⟨Nat.le_of_ble_eq_true rfl, Nat.le_of_ble_eq_true rfl⟩) hdy hA [0, 1, 2, 3, 5] [4] rfl rfl (by decide) (by decide) (fun r u H locs hw hdy => ?_)
  obtain ⟨r5, rfl⟩ : ∃ z, z = r := ⟨_, rfl⟩
  obtain ⟨d1, d2, d3, d4⟩ := u
  try dsimp only at hw
  obtain ⟨hd_d1, hd_d2, hd_d3, hd_d4, q6, -⟩ := hw
  have hdy : kz_dy (dC, dI) vwCl A s.heap H locs [(y0, .inl (cI, 8, .inl (kz_dg d1))), (y1, .inl (cI, 8, .inl (kz_dg d2))), (y2, .inl (cI, 8, .inl (kz_dg d3))), (y3, .inl (cI, 8, .inl (kz_dg d4))), (out, .inl (cL, 1, .inr (.inl gout))), (wy, .inl (cAA, 4, .inr (.inr (.inr (.inr (kz_row [y0, y1, y2, y3]))))))] := hdy.sub [1, 2, 3, 4, 0, 5] (by decide) rfl
  refine lv_i2l hx hb zd_L_alter_10 rfl ?_
  refine va_last hx hb hK hdy.1 hdy.2.1 hdy.2.2 4 3 rfl rfl (vp_in_nI (by omega) (by omega)) zd_L_alter_11 (fun H locs hP hD hS => ?_)
  obtain ⟨f7, ef7, hdy⟩ : ∃ f7 : Nat → Int64, f7 = vp_updL gout ((nI (0))).toNatClampNeg (Int32.toInt64 r5) ∧ kz_dy (dC, dI) vwCl A s.heap H locs [(y0, .inl (cI, 8, .inl (kz_dg d1))), (y1, .inl (cI, 8, .inl (kz_dg d2))), (y2, .inl (cI, 8, .inl (kz_dg d3))), (y3, .inl (cI, 8, .inl (kz_dg d4))), (out, .inl (cL, 1, .inr (.inl f7))), (wy, .inl (cAA, 4, .inr (.inr (.inr (.inr (kz_row [y0, y1, y2, y3]))))))] := ⟨_, rfl, hP, hD, hS⟩
  refine lv_goto (tgt := 19) hx hb zd_L_alter_12 (by decide) ?_
  refine lv_iconst (v := (nI (0))) hx hb zd_L_alter_19 (by decide) ?_
  exact kz_iret F (d1, d2, d3, d4, f7) hdy (⟨hd_d1, hd_d2, hd_d3, hd_d4, by first | rfl | omega, by exact ⟨_, q6, by rw [ef7]; rfl⟩, trivial⟩) zd_L_alter_20

set_option maxHeartbeats 4000000 in
set_option maxRecDepth 100000 in
/-- KeyMeetingLaw.alter(LKeyMeeting;III[J)I -/
theorem c_L_alter1 (l : Launch) (hl9 : l.stackTraces = false) (dC : Nat → ClassId) (dI : Nat → Nat → Nat) (cI cAA cB cL : ClassId) (h to wy off cm hs ks ah ar ao ho mo dg out : Nat) (stg : Int32) (w_ : Int32) (i_ : Int32) (v : Int32) (sz : Nat) (hbad : w_ < 0 ∨ nI 4 ≤ w_) (sa : Nat) : Met l zy_L_alter zw_L_alter { frames := 10, cells := 1, slots := 6, locals := 245 } (fun a U => kz_Pc (dC, dI) vwCl [(cI, .int), (cAA, .array .int), (cB, .byte), (cL, .long)] [] [] [.ref h, .int w_, .int i_, .int v, .ref out] [] [(h, .inr (0, [.ref to, .ref wy, .ref off, .ref cm, .ref hs, .ref ks, .ref ah, .ref ar, .ref ao, .ref ho, .ref mo, .ref dg, .int stg]))] sz a U ∧ (kz_PI sa) U) (va_Qi (fun (r : Int32) (u : Unit) => (r = nI 1) ∧ True) (kz_B (dC, dI) vwCl (va_A [] sz) (fun u : Unit => [])) (va_A [] sz)) 1 6 (va_A [] sz) := by
  refine kz_metW (y := zy_L_alter) (ws := zw_L_alter) (av := [.ref h, .int w_, .int i_, .int v, .ref out]) (sz := sz) (PX := (kz_PI sa)) (Qc := fun A => va_Qi (fun (r : Int32) (u : Unit) => (r = nI 1) ∧ True) (kz_B (dC, dI) vwCl A (fun u : Unit => [])) A) (cc := zc_L_alter) (maxL := 6) (ret := some .int) (hh := zh_L_alter) (by decide) rfl (Nat.le_of_ble_eq_true rfl) ?_
  intro p e s m below meth c A ls F htab hA hAw hdy hK hro hZ hN hPX hl
  obtain ⟨hx, hb, hml, hr, hown, hlocks, hts, hnm⟩ := id F
  have hAn : ∀ q, A q → s.heap.size ≤ q := fun q h => (hAw q h).elim (fun ⟨k, e, h⟩ => by simp at h) id
  have hl : lv_has ls 6 [(0, .ref h), (1, .int w_), (2, .int i_), (3, .int v), (4, .ref out)] := hl
  refine lv_aload hx hb zd_L_alter_0 (lv_at hl 4 rfl) ?_
  refine lv_iconst (v := (nI (0))) hx hb zd_L_alter_2 (by decide) ?_
  refine lv_aload_n hx hb zd_L_alter_3 rfl (lv_at hl 0 rfl) ?_
  refine lv_iload_n hx hb zd_L_alter_4 rfl (lv_at hl 1 rfl) ?_
  refine lv_iload_n hx hb zd_L_alter_5 rfl (lv_at hl 2 rfl) ?_
  refine lv_iload_n hx hb zd_L_alter_6 rfl (lv_at hl 3 rfl) ?_
  refine kz_catchV1 (As := [.int w_, .int i_, .int v]) (rest := [.int (nI (0)), .ref out]) (b := h) ⟨hx, hb, hml, hown, hts⟩ (c_P_alter1 l hl9 dC dI cI cAA cB cL h w_ i_ v _ sa hbad) (cwV 3 hts (kz_g (kz_mc mw_471 (kz_mc mw_472 (kz_mc mw_473 (kz_mc mw_39 kz_mn)))) mw_474) rfl rfl rfl (by decide +kernel) ⟨Nat.le_of_ble_eq_true rfl, Nat.le_of_ble_eq_true rfl⟩) (kz_preTV (fun _ _ h => kz_PI.old h) hPX (kz_preVr (As := [.int w_, .int i_, .int v]) hdy hA hK hro hZ hN [] (by decide) rfl [] rfl (by decide) [0, 1, 2, 3] rfl (fun _ h => by cases h) (fun _ h => by cases h) rfl (ci := 0) (q0 := 0) rfl rfl rfl) hdy.2.2 hAn) rfl hl.1 (Nat.le_of_ble_eq_true rfl) zd_L_alter_7 ⟨Nat.le_of_ble_eq_true rfl, Nat.le_of_ble_eq_true rfl⟩ (kz_tab1 htab) (by decide) (by decide) (hts _ (kz_c mw_367)) (hPX.1 _ _ (by simp [Bundle.ownAtoms])) (fun q1 H z1 z2 => ?_)
  have hdy := hdy.grow z1 z2
  refine lv_astore (lv' := [(5, .ref q1), (0, .ref h), (1, .int w_), (2, .int i_), (3, .int v), (4, .ref out)]) hx hb zd_L_alter_15 hl (by decide) rfl (fun ls hl => ?_)
  refine lv_iconst (v := (nI (1))) hx hb zd_L_alter_17 (by decide) ?_
  exact kz_iret F () hdy (⟨by first | rfl | omega, trivial⟩) zd_L_alter_18

set_option maxHeartbeats 4000000 in
set_option maxRecDepth 100000 in
/-- KeyMeetingLaw.alter(LKeyMeeting;III[J)I -/
theorem c_L_alter2 (l : Launch) (hl9 : l.stackTraces = false) (dC : Nat → ClassId) (dI : Nat → Nat → Nat) (cI cAA cB cL : ClassId) (h to wy off cm hs ks ah ar ao ho mo dg out : Nat) (stg : Int32) (w_ : Nat) (i_ : Int32) (v : Int32) (sz : Nat) (hw_ : w_ < 4) (hbad : i_ < 0 ∨ nI 8 ≤ i_) (sa : Nat) : Met l zy_L_alter zw_L_alter { frames := 10, cells := 1, slots := 6, locals := 245 } (fun a U => kz_Pc (dC, dI) vwCl [(cI, .int), (cAA, .array .int), (cB, .byte), (cL, .long)] [] [] [.ref h, .int (nI (w_)), .int i_, .int v, .ref out] [] [(h, .inr (0, [.ref to, .ref wy, .ref off, .ref cm, .ref hs, .ref ks, .ref ah, .ref ar, .ref ao, .ref ho, .ref mo, .ref dg, .int stg]))] sz a U ∧ (kz_PI sa) U) (va_Qi (fun (r : Int32) (u : Unit) => (r = nI 1) ∧ True) (kz_B (dC, dI) vwCl (va_A [] sz) (fun u : Unit => [])) (va_A [] sz)) 1 6 (va_A [] sz) := by
  refine kz_metW (y := zy_L_alter) (ws := zw_L_alter) (av := [.ref h, .int (nI (w_)), .int i_, .int v, .ref out]) (sz := sz) (PX := (kz_PI sa)) (Qc := fun A => va_Qi (fun (r : Int32) (u : Unit) => (r = nI 1) ∧ True) (kz_B (dC, dI) vwCl A (fun u : Unit => [])) A) (cc := zc_L_alter) (maxL := 6) (ret := some .int) (hh := zh_L_alter) (by decide) rfl (Nat.le_of_ble_eq_true rfl) ?_
  intro p e s m below meth c A ls F htab hA hAw hdy hK hro hZ hN hPX hl
  obtain ⟨hx, hb, hml, hr, hown, hlocks, hts, hnm⟩ := id F
  have hAn : ∀ q, A q → s.heap.size ≤ q := fun q h => (hAw q h).elim (fun ⟨k, e, h⟩ => by simp at h) id
  have hl : lv_has ls 6 [(0, .ref h), (1, .int (nI (w_))), (2, .int i_), (3, .int v), (4, .ref out)] := hl
  refine lv_aload hx hb zd_L_alter_0 (lv_at hl 4 rfl) ?_
  refine lv_iconst (v := (nI (0))) hx hb zd_L_alter_2 (by decide) ?_
  refine lv_aload_n hx hb zd_L_alter_3 rfl (lv_at hl 0 rfl) ?_
  refine lv_iload_n hx hb zd_L_alter_4 rfl (lv_at hl 1 rfl) ?_
  refine lv_iload_n hx hb zd_L_alter_5 rfl (lv_at hl 2 rfl) ?_
  refine lv_iload_n hx hb zd_L_alter_6 rfl (lv_at hl 3 rfl) ?_
  refine kz_catchV1 (As := [.int (nI (w_)), .int i_, .int v]) (rest := [.int (nI (0)), .ref out]) (b := h) ⟨hx, hb, hml, hown, hts⟩ (c_P_alter2 l hl9 dC dI cI cAA cB cL h w_ i_ v _ sa hw_ hbad) (cwV 3 hts (kz_g (kz_mc mw_471 (kz_mc mw_472 (kz_mc mw_473 (kz_mc mw_39 kz_mn)))) mw_474) rfl rfl rfl (by decide +kernel) ⟨Nat.le_of_ble_eq_true rfl, Nat.le_of_ble_eq_true rfl⟩) (kz_preTV (fun _ _ h => kz_PI.old h) hPX (kz_preVr (As := [.int (nI (w_)), .int i_, .int v]) hdy hA hK hro hZ hN [] (by decide) rfl [] rfl (by decide) [0, 1, 2, 3] rfl (fun _ h => by cases h) (fun _ h => by cases h) rfl (ci := 0) (q0 := 0) rfl rfl rfl) hdy.2.2 hAn) rfl hl.1 (Nat.le_of_ble_eq_true rfl) zd_L_alter_7 ⟨Nat.le_of_ble_eq_true rfl, Nat.le_of_ble_eq_true rfl⟩ (kz_tab1 htab) (by decide) (by decide) (hts _ (kz_c mw_367)) (hPX.1 _ _ (by simp [Bundle.ownAtoms])) (fun q1 H z1 z2 => ?_)
  have hdy := hdy.grow z1 z2
  refine lv_astore (lv' := [(5, .ref q1), (0, .ref h), (1, .int (nI (w_))), (2, .int i_), (3, .int v), (4, .ref out)]) hx hb zd_L_alter_15 hl (by decide) rfl (fun ls hl => ?_)
  refine lv_iconst (v := (nI (1))) hx hb zd_L_alter_17 (by decide) ?_
  exact kz_iret F () hdy (⟨by first | rfl | omega, trivial⟩) zd_L_alter_18

set_option maxHeartbeats 4000000 in
set_option maxRecDepth 100000 in
/-- KeyMeetingLaw.sent(LKeyMeeting;II[J)I -/
theorem c_L_sent0 (l : Launch) (hl9 : l.stackTraces = false) (dC : Nat → ClassId) (dI : Nat → Nat → Nat) (cI cAA cB cL : ClassId) (out wy y0 y1 y2 y3 h to off cm hs ks ah ar ao ho mo dg : Nat) (gout : Nat → Int64) (stg : Int32) (gy0 : Nat → Nat) (gy1 : Nat → Nat) (gy2 : Nat → Nat) (gy3 : Nat → Nat) (w_ : Nat) (i_ : Nat) (sz : Nat) (hd_gy0 : ∀ j, gy0 j < 4294967296) (hd_gy1 : ∀ j, gy1 j < 4294967296) (hd_gy2 : ∀ j, gy2 j < 4294967296) (hd_gy3 : ∀ j, gy3 j < 4294967296) (hw_ : w_ < 4) (hi_ : i_ < 8) (sa : Nat) : Met l zy_L_sent zw_L_sent { frames := 10, cells := 0, slots := 0, locals := 243 } (fun a U => kz_Pc (dC, dI) vwCl [(cI, .int), (cAA, .array .int), (cB, .byte), (cL, .long)] [] [] [.ref h, .int (nI (w_)), .int (nI (i_)), .ref out] [(out, .inl (cL, 1, .inr (.inl gout))), (wy, .inl (cAA, 4, .inr (.inr (.inr (.inr (kz_row [y0, y1, y2, y3]))))))] [(h, .inr (0, [.ref to, .ref wy, .ref off, .ref cm, .ref hs, .ref ks, .ref ah, .ref ar, .ref ao, .ref ho, .ref mo, .ref dg, .int stg])), (y0, .inl (cI, 8, .inl (kz_dg gy0))), (y1, .inl (cI, 8, .inl (kz_dg gy1))), (y2, .inl (cI, 8, .inl (kz_dg gy2))), (y3, .inl (cI, 8, .inl (kz_dg gy3)))] sz a U ∧ (fun _ => True) U) (va_Qi (fun (r : Int32) (u : (Nat → Int64)) => (r = nI 0) ∧ True) (kz_B (dC, dI) vwCl (va_A [(out, .inl (cL, 1, .inr (.inl gout))), (wy, .inl (cAA, 4, .inr (.inr (.inr (.inr (kz_row [y0, y1, y2, y3]))))))] sz) (fun u : (Nat → Int64) => [(out, .inl (cL, 1, .inr (.inl u))), (wy, .inl (cAA, 4, .inr (.inr (.inr (.inr (kz_row [y0, y1, y2, y3]))))))])) (va_A [(out, .inl (cL, 1, .inr (.inl gout))), (wy, .inl (cAA, 4, .inr (.inr (.inr (.inr (kz_row [y0, y1, y2, y3]))))))] sz)) 0 0 (va_A [(out, .inl (cL, 1, .inr (.inl gout))), (wy, .inl (cAA, 4, .inr (.inr (.inr (.inr (kz_row [y0, y1, y2, y3]))))))] sz) := by
  refine kz_metW (y := zy_L_sent) (ws := zw_L_sent) (av := [.ref h, .int (nI (w_)), .int (nI (i_)), .ref out]) (sz := sz) (PX := (fun _ => True)) (Qc := fun A => va_Qi (fun (r : Int32) (u : (Nat → Int64)) => (r = nI 0) ∧ True) (kz_B (dC, dI) vwCl A (fun u : (Nat → Int64) => [(out, .inl (cL, 1, .inr (.inl u))), (wy, .inl (cAA, 4, .inr (.inr (.inr (.inr (kz_row [y0, y1, y2, y3]))))))])) A) (cc := zc_L_sent) (maxL := 5) (ret := some .int) (hh := zh_L_sent) (by decide) rfl (Nat.le_of_ble_eq_true rfl) ?_
  intro p e s m below meth c A ls F htab hA hAw hdy hK hro hZ hN hPX hl
  obtain ⟨hx, hb, hml, hr, hown, hlocks, hts, hnm⟩ := id F
  have hl : lv_has ls 5 [(0, .ref h), (1, .int (nI (w_))), (2, .int (nI (i_))), (3, .ref out)] := hl
  refine lv_aload_n hx hb zd_L_sent_0 rfl (lv_at hl 3 rfl) ?_
  refine lv_iconst (v := (nI (0))) hx hb zd_L_sent_1 (by decide) ?_
  refine lv_aload_n hx hb zd_L_sent_2 rfl (lv_at hl 0 rfl) ?_
  refine lv_iload_n hx hb zd_L_sent_3 rfl (lv_at hl 1 rfl) ?_
  refine lv_iload_n hx hb zd_L_sent_4 rfl (lv_at hl 2 rfl) ?_
  refine kz_calli (wk := [(out, .inl (cL, 1, .inr (.inl gout)))]) (va_runV (As := [.int (nI (w_)), .int (nI (i_))]) (rest := [.int (nI (0)), .ref out]) ⟨hx, hb, hml, hown, hts⟩ (c_J_sent l dC dI cI cAA cB cL wy y0 y1 y2 y3 h to off cm hs ks ah ar ao ho mo dg (stg) gy0 gy1 gy2 gy3 w_ i_ _ hd_gy0 hd_gy1 hd_gy2 hd_gy3 (by first | omega | assumption) (by first | omega | assumption)) (cwV 2 hts (kz_g (kz_mc mw_478 (kz_mc mw_479 (kz_mc mw_480 (kz_mc mw_39 kz_mn)))) mw_481) rfl rfl rfl (by decide +kernel) ⟨Nat.le_of_ble_eq_true rfl, Nat.le_of_ble_eq_true rfl⟩) (kz_preVr hdy hA hK hro hZ hN [1] (by decide) rfl [(true, 0), (true, 1), (true, 2), (true, 3), (true, 4)] rfl (by decide) [0, 1, 2, 3] rfl (fun _ h => by cases h) (fun _ h => by cases h) rfl (ci := 0) (q0 := 0) rfl rfl rfl) rfl rfl hl.1 rfl (lv_room (Nat.le_of_ble_eq_true rfl)) zd_L_sent_5 ⟨Nat.le_of_ble_eq_true rfl, Nat.le_of_ble_eq_true rfl⟩) hdy hA [1] [0] rfl rfl (by decide) (by decide) (fun r u H locs hw hdy => ?_)
  obtain ⟨r1, rfl⟩ : ∃ z, z = r := ⟨_, rfl⟩
  have hdy : kz_dy (dC, dI) vwCl A s.heap H locs [(out, .inl (cL, 1, .inr (.inl gout))), (wy, .inl (cAA, 4, .inr (.inr (.inr (.inr (kz_row [y0, y1, y2, y3]))))))] := hdy.sub [0, 1] (by decide) rfl
  refine lv_i2l hx hb zd_L_sent_8 rfl ?_
  refine lv_topl (fun yl2 _ => ?_)
  refine va_last hx hb hK hdy.1 hdy.2.1 hdy.2.2 0 3 rfl rfl (vp_in_nI (by omega) (by omega)) zd_L_sent_9 (fun H locs hP hD hS => ?_)
  obtain ⟨f3, hdy⟩ : ∃ f3 : Nat → Int64, kz_dy (dC, dI) vwCl A s.heap H locs [(out, .inl (cL, 1, .inr (.inl f3))), (wy, .inl (cAA, 4, .inr (.inr (.inr (.inr (kz_row [y0, y1, y2, y3]))))))] := ⟨_, hP, hD, hS⟩
  refine lv_goto (tgt := 17) hx hb zd_L_sent_10 (by decide) ?_
  refine lv_iconst (v := (nI (0))) hx hb zd_L_sent_17 (by decide) ?_
  exact kz_iret F (f3) hdy (⟨by first | rfl | omega, trivial⟩) zd_L_sent_18

set_option maxHeartbeats 4000000 in
set_option maxRecDepth 100000 in
/-- KeyMeetingLaw.sent(LKeyMeeting;II[J)I -/
theorem c_L_sent1 (l : Launch) (hl9 : l.stackTraces = false) (dC : Nat → ClassId) (dI : Nat → Nat → Nat) (cI cAA cB cL : ClassId) (h to wy off cm hs ks ah ar ao ho mo dg out : Nat) (stg : Int32) (w_ : Int32) (i_ : Int32) (sz : Nat) (hbad : w_ < 0 ∨ nI 4 ≤ w_) (sa : Nat) : Met l zy_L_sent zw_L_sent { frames := 10, cells := 1, slots := 6, locals := 243 } (fun a U => kz_Pc (dC, dI) vwCl [(cI, .int), (cAA, .array .int), (cB, .byte), (cL, .long)] [] [] [.ref h, .int w_, .int i_, .ref out] [] [(h, .inr (0, [.ref to, .ref wy, .ref off, .ref cm, .ref hs, .ref ks, .ref ah, .ref ar, .ref ao, .ref ho, .ref mo, .ref dg, .int stg]))] sz a U ∧ (kz_PI sa) U) (va_Qi (fun (r : Int32) (u : Unit) => (r = nI 1) ∧ True) (kz_B (dC, dI) vwCl (va_A [] sz) (fun u : Unit => [])) (va_A [] sz)) 1 6 (va_A [] sz) := by
  refine kz_metW (y := zy_L_sent) (ws := zw_L_sent) (av := [.ref h, .int w_, .int i_, .ref out]) (sz := sz) (PX := (kz_PI sa)) (Qc := fun A => va_Qi (fun (r : Int32) (u : Unit) => (r = nI 1) ∧ True) (kz_B (dC, dI) vwCl A (fun u : Unit => [])) A) (cc := zc_L_sent) (maxL := 5) (ret := some .int) (hh := zh_L_sent) (by decide) rfl (Nat.le_of_ble_eq_true rfl) ?_
  intro p e s m below meth c A ls F htab hA hAw hdy hK hro hZ hN hPX hl
  obtain ⟨hx, hb, hml, hr, hown, hlocks, hts, hnm⟩ := id F
  have hAn : ∀ q, A q → s.heap.size ≤ q := fun q h => (hAw q h).elim (fun ⟨k, e, h⟩ => by simp at h) id
  have hl : lv_has ls 5 [(0, .ref h), (1, .int w_), (2, .int i_), (3, .ref out)] := hl
  refine lv_aload_n hx hb zd_L_sent_0 rfl (lv_at hl 3 rfl) ?_
  refine lv_iconst (v := (nI (0))) hx hb zd_L_sent_1 (by decide) ?_
  refine lv_aload_n hx hb zd_L_sent_2 rfl (lv_at hl 0 rfl) ?_
  refine lv_iload_n hx hb zd_L_sent_3 rfl (lv_at hl 1 rfl) ?_
  refine lv_iload_n hx hb zd_L_sent_4 rfl (lv_at hl 2 rfl) ?_
  refine kz_catchV1 (As := [.int w_, .int i_]) (rest := [.int (nI (0)), .ref out]) (b := h) ⟨hx, hb, hml, hown, hts⟩ (c_P_sent1 l hl9 dC dI cI cAA cB cL h w_ i_ _ sa hbad) (cwV 2 hts (kz_g (kz_mc mw_478 (kz_mc mw_479 (kz_mc mw_480 (kz_mc mw_39 kz_mn)))) mw_481) rfl rfl rfl (by decide +kernel) ⟨Nat.le_of_ble_eq_true rfl, Nat.le_of_ble_eq_true rfl⟩) (kz_preTV (fun _ _ h => kz_PI.old h) hPX (kz_preVr (As := [.int w_, .int i_]) hdy hA hK hro hZ hN [] (by decide) rfl [] rfl (by decide) [0, 1, 2, 3] rfl (fun _ h => by cases h) (fun _ h => by cases h) rfl (ci := 0) (q0 := 0) rfl rfl rfl) hdy.2.2 hAn) rfl hl.1 (Nat.le_of_ble_eq_true rfl) zd_L_sent_5 ⟨Nat.le_of_ble_eq_true rfl, Nat.le_of_ble_eq_true rfl⟩ (kz_tab1 htab) (by decide) (by decide) (hts _ (kz_c mw_367)) (hPX.1 _ _ (by simp [Bundle.ownAtoms])) (fun q1 H z1 z2 => ?_)
  have hdy := hdy.grow z1 z2
  refine lv_astore (lv' := [(4, .ref q1), (0, .ref h), (1, .int w_), (2, .int i_), (3, .ref out)]) hx hb zd_L_sent_13 hl (by decide) rfl (fun ls hl => ?_)
  refine lv_iconst (v := (nI (1))) hx hb zd_L_sent_15 (by decide) ?_
  exact kz_iret F () hdy (⟨by first | rfl | omega, trivial⟩) zd_L_sent_16

set_option maxHeartbeats 4000000 in
set_option maxRecDepth 100000 in
/-- KeyMeetingLaw.sent(LKeyMeeting;II[J)I -/
theorem c_L_sent2 (l : Launch) (hl9 : l.stackTraces = false) (dC : Nat → ClassId) (dI : Nat → Nat → Nat) (cI cAA cB cL : ClassId) (h to wy off cm hs ks ah ar ao ho mo dg out : Nat) (stg : Int32) (w_ : Nat) (i_ : Int32) (sz : Nat) (hw_ : w_ < 4) (hbad : i_ < 0 ∨ nI 8 ≤ i_) (sa : Nat) : Met l zy_L_sent zw_L_sent { frames := 10, cells := 1, slots := 6, locals := 243 } (fun a U => kz_Pc (dC, dI) vwCl [(cI, .int), (cAA, .array .int), (cB, .byte), (cL, .long)] [] [] [.ref h, .int (nI (w_)), .int i_, .ref out] [] [(h, .inr (0, [.ref to, .ref wy, .ref off, .ref cm, .ref hs, .ref ks, .ref ah, .ref ar, .ref ao, .ref ho, .ref mo, .ref dg, .int stg]))] sz a U ∧ (kz_PI sa) U) (va_Qi (fun (r : Int32) (u : Unit) => (r = nI 1) ∧ True) (kz_B (dC, dI) vwCl (va_A [] sz) (fun u : Unit => [])) (va_A [] sz)) 1 6 (va_A [] sz) := by
  refine kz_metW (y := zy_L_sent) (ws := zw_L_sent) (av := [.ref h, .int (nI (w_)), .int i_, .ref out]) (sz := sz) (PX := (kz_PI sa)) (Qc := fun A => va_Qi (fun (r : Int32) (u : Unit) => (r = nI 1) ∧ True) (kz_B (dC, dI) vwCl A (fun u : Unit => [])) A) (cc := zc_L_sent) (maxL := 5) (ret := some .int) (hh := zh_L_sent) (by decide) rfl (Nat.le_of_ble_eq_true rfl) ?_
  intro p e s m below meth c A ls F htab hA hAw hdy hK hro hZ hN hPX hl
  obtain ⟨hx, hb, hml, hr, hown, hlocks, hts, hnm⟩ := id F
  have hAn : ∀ q, A q → s.heap.size ≤ q := fun q h => (hAw q h).elim (fun ⟨k, e, h⟩ => by simp at h) id
  have hl : lv_has ls 5 [(0, .ref h), (1, .int (nI (w_))), (2, .int i_), (3, .ref out)] := hl
  refine lv_aload_n hx hb zd_L_sent_0 rfl (lv_at hl 3 rfl) ?_
  refine lv_iconst (v := (nI (0))) hx hb zd_L_sent_1 (by decide) ?_
  refine lv_aload_n hx hb zd_L_sent_2 rfl (lv_at hl 0 rfl) ?_
  refine lv_iload_n hx hb zd_L_sent_3 rfl (lv_at hl 1 rfl) ?_
  refine lv_iload_n hx hb zd_L_sent_4 rfl (lv_at hl 2 rfl) ?_
  refine kz_catchV1 (As := [.int (nI (w_)), .int i_]) (rest := [.int (nI (0)), .ref out]) (b := h) ⟨hx, hb, hml, hown, hts⟩ (c_P_sent2 l hl9 dC dI cI cAA cB cL h w_ i_ _ sa hw_ hbad) (cwV 2 hts (kz_g (kz_mc mw_478 (kz_mc mw_479 (kz_mc mw_480 (kz_mc mw_39 kz_mn)))) mw_481) rfl rfl rfl (by decide +kernel) ⟨Nat.le_of_ble_eq_true rfl, Nat.le_of_ble_eq_true rfl⟩) (kz_preTV (fun _ _ h => kz_PI.old h) hPX (kz_preVr (As := [.int (nI (w_)), .int i_]) hdy hA hK hro hZ hN [] (by decide) rfl [] rfl (by decide) [0, 1, 2, 3] rfl (fun _ h => by cases h) (fun _ h => by cases h) rfl (ci := 0) (q0 := 0) rfl rfl rfl) hdy.2.2 hAn) rfl hl.1 (Nat.le_of_ble_eq_true rfl) zd_L_sent_5 ⟨Nat.le_of_ble_eq_true rfl, Nat.le_of_ble_eq_true rfl⟩ (kz_tab1 htab) (by decide) (by decide) (hts _ (kz_c mw_367)) (hPX.1 _ _ (by simp [Bundle.ownAtoms])) (fun q1 H z1 z2 => ?_)
  have hdy := hdy.grow z1 z2
  refine lv_astore (lv' := [(4, .ref q1), (0, .ref h), (1, .int (nI (w_))), (2, .int i_), (3, .ref out)]) hx hb zd_L_sent_13 hl (by decide) rfl (fun ls hl => ?_)
  refine lv_iconst (v := (nI (1))) hx hb zd_L_sent_15 (by decide) ?_
  exact kz_iret F () hdy (⟨by first | rfl | omega, trivial⟩) zd_L_sent_16

set_option maxHeartbeats 4000000 in
set_option maxRecDepth 100000 in
/-- KeyMeetingLaw.key(LKeyMeeting;II[J)I -/
theorem c_L_key0 (l : Launch) (hl9 : l.stackTraces = false) (dC : Nat → ClassId) (dI : Nat → Nat → Nat) (cI cAA cB cL : ClassId) (out ks ks0 ks1 h to wy off cm hs ah ar ao ho mo dg : Nat) (gout : Nat → Int64) (stg : Int32) (gks0 : Nat → Int32) (gks1 : Nat → Int32) (w_ : Nat) (i_ : Nat) (sz : Nat) (hw_ : w_ < 2) (hi_ : i_ < 16) (hst_ : stg = nI 3) (sa : Nat) : Met l zy_L_key zw_L_key { frames := 10, cells := 0, slots := 0, locals := 243 } (fun a U => kz_Pc (dC, dI) vwCl [(cI, .int), (cAA, .array .int), (cB, .byte), (cL, .long)] [] [] [.ref h, .int (nI (w_)), .int (nI (i_)), .ref out] [(out, .inl (cL, 1, .inr (.inl gout))), (ks, .inl (cAA, 2, .inr (.inr (.inr (.inr (kz_row [ks0, ks1]))))))] [(h, .inr (0, [.ref to, .ref wy, .ref off, .ref cm, .ref hs, .ref ks, .ref ah, .ref ar, .ref ao, .ref ho, .ref mo, .ref dg, .int stg])), (ks0, .inl (cI, 16, .inl gks0)), (ks1, .inl (cI, 16, .inl gks1))] sz a U ∧ (fun _ => True) U) (va_Qi (fun (r : Int32) (u : (Nat → Int64)) => (r = nI 0) ∧ (∃ z : Int32, (z = if w_ = 0 then gks0 i_ else gks1 i_) ∧ u 0 = z.toInt64) ∧ True) (kz_B (dC, dI) vwCl (va_A [(out, .inl (cL, 1, .inr (.inl gout))), (ks, .inl (cAA, 2, .inr (.inr (.inr (.inr (kz_row [ks0, ks1]))))))] sz) (fun u : (Nat → Int64) => [(out, .inl (cL, 1, .inr (.inl u))), (ks, .inl (cAA, 2, .inr (.inr (.inr (.inr (kz_row [ks0, ks1]))))))])) (va_A [(out, .inl (cL, 1, .inr (.inl gout))), (ks, .inl (cAA, 2, .inr (.inr (.inr (.inr (kz_row [ks0, ks1]))))))] sz)) 0 0 (va_A [(out, .inl (cL, 1, .inr (.inl gout))), (ks, .inl (cAA, 2, .inr (.inr (.inr (.inr (kz_row [ks0, ks1]))))))] sz) := by
  refine kz_metW (y := zy_L_key) (ws := zw_L_key) (av := [.ref h, .int (nI (w_)), .int (nI (i_)), .ref out]) (sz := sz) (PX := (fun _ => True)) (Qc := fun A => va_Qi (fun (r : Int32) (u : (Nat → Int64)) => (r = nI 0) ∧ (∃ z : Int32, (z = if w_ = 0 then gks0 i_ else gks1 i_) ∧ u 0 = z.toInt64) ∧ True) (kz_B (dC, dI) vwCl A (fun u : (Nat → Int64) => [(out, .inl (cL, 1, .inr (.inl u))), (ks, .inl (cAA, 2, .inr (.inr (.inr (.inr (kz_row [ks0, ks1]))))))])) A) (cc := zc_L_key) (maxL := 5) (ret := some .int) (hh := zh_L_key) (by decide) rfl (Nat.le_of_ble_eq_true rfl) ?_
  intro p e s m below meth c A ls F htab hA hAw hdy hK hro hZ hN hPX hl
  obtain ⟨hx, hb, hml, hr, hown, hlocks, hts, hnm⟩ := id F
  have hl : lv_has ls 5 [(0, .ref h), (1, .int (nI (w_))), (2, .int (nI (i_))), (3, .ref out)] := hl
  refine lv_aload_n hx hb zd_L_key_0 rfl (lv_at hl 3 rfl) ?_
  refine lv_iconst (v := (nI (0))) hx hb zd_L_key_1 (by decide) ?_
  refine lv_aload_n hx hb zd_L_key_2 rfl (lv_at hl 0 rfl) ?_
  refine lv_iload_n hx hb zd_L_key_3 rfl (lv_at hl 1 rfl) ?_
  refine lv_iload_n hx hb zd_L_key_4 rfl (lv_at hl 2 rfl) ?_
  refine kz_calli (wk := [(out, .inl (cL, 1, .inr (.inl gout)))]) (va_runV (As := [.int (nI (w_)), .int (nI (i_))]) (rest := [.int (nI (0)), .ref out]) ⟨hx, hb, hml, hown, hts⟩ (c_J_key l dC dI cI cAA cB cL ks ks0 ks1 h to wy off cm hs ah ar ao ho mo dg (stg) gks0 gks1 w_ i_ _ (by first | omega | assumption) (by first | omega | assumption) (by first | omega | assumption)) (cwV 2 hts (kz_g (kz_mc mw_486 (kz_mc mw_487 (kz_mc mw_488 (kz_mc mw_39 kz_mn)))) mw_489) rfl rfl rfl (by decide +kernel) ⟨Nat.le_of_ble_eq_true rfl, Nat.le_of_ble_eq_true rfl⟩) (kz_preVr hdy hA hK hro hZ hN [1] (by decide) rfl [(true, 0), (true, 1), (true, 2)] rfl (by decide) [0, 1, 2, 3] rfl (fun _ h => by cases h) (fun _ h => by cases h) rfl (ci := 0) (q0 := 0) rfl rfl rfl) rfl rfl hl.1 rfl (lv_room (Nat.le_of_ble_eq_true rfl)) zd_L_key_5 ⟨Nat.le_of_ble_eq_true rfl, Nat.le_of_ble_eq_true rfl⟩) hdy hA [1] [0] rfl rfl (by decide) (by decide) (fun r u H locs hw hdy => ?_)
  obtain ⟨r1, rfl⟩ : ∃ z, z = r := ⟨_, rfl⟩
  try dsimp only at hw
  obtain ⟨q2, -⟩ := hw
  have hdy : kz_dy (dC, dI) vwCl A s.heap H locs [(out, .inl (cL, 1, .inr (.inl gout))), (ks, .inl (cAA, 2, .inr (.inr (.inr (.inr (kz_row [ks0, ks1]))))))] := hdy.sub [0, 1] (by decide) rfl
  refine lv_i2l hx hb zd_L_key_8 rfl ?_
  refine va_last hx hb hK hdy.1 hdy.2.1 hdy.2.2 0 3 rfl rfl (vp_in_nI (by omega) (by omega)) zd_L_key_9 (fun H locs hP hD hS => ?_)
  obtain ⟨f3, ef3, hdy⟩ : ∃ f3 : Nat → Int64, f3 = vp_updL gout ((nI (0))).toNatClampNeg (Int32.toInt64 r1) ∧ kz_dy (dC, dI) vwCl A s.heap H locs [(out, .inl (cL, 1, .inr (.inl f3))), (ks, .inl (cAA, 2, .inr (.inr (.inr (.inr (kz_row [ks0, ks1]))))))] := ⟨_, rfl, hP, hD, hS⟩
  refine lv_goto (tgt := 21) hx hb zd_L_key_10 (by decide) ?_
  refine lv_iconst (v := (nI (0))) hx hb zd_L_key_21 (by decide) ?_
  exact kz_iret F (f3) hdy (⟨by first | rfl | omega, by exact ⟨_, q2, by rw [ef3]; rfl⟩, trivial⟩) zd_L_key_22

set_option maxHeartbeats 4000000 in
set_option maxRecDepth 100000 in
/-- KeyMeetingLaw.key(LKeyMeeting;II[J)I -/
theorem c_L_key1 (l : Launch) (hl9 : l.stackTraces = false) (dC : Nat → ClassId) (dI : Nat → Nat → Nat) (cI cAA cB cL : ClassId) (h to wy off cm hs ks ah ar ao ho mo dg out : Nat) (stg : Int32) (w_ : Int32) (i_ : Int32) (sz : Nat) (hbad : w_ < 0 ∨ nI 2 ≤ w_) (sa : Nat) : Met l zy_L_key zw_L_key { frames := 10, cells := 1, slots := 6, locals := 243 } (fun a U => kz_Pc (dC, dI) vwCl [(cI, .int), (cAA, .array .int), (cB, .byte), (cL, .long)] [] [] [.ref h, .int w_, .int i_, .ref out] [] [(h, .inr (0, [.ref to, .ref wy, .ref off, .ref cm, .ref hs, .ref ks, .ref ah, .ref ar, .ref ao, .ref ho, .ref mo, .ref dg, .int stg]))] sz a U ∧ (kz_PI sa) U) (va_Qi (fun (r : Int32) (u : Unit) => (r = nI 1) ∧ True) (kz_B (dC, dI) vwCl (va_A [] sz) (fun u : Unit => [])) (va_A [] sz)) 1 6 (va_A [] sz) := by
  refine kz_metW (y := zy_L_key) (ws := zw_L_key) (av := [.ref h, .int w_, .int i_, .ref out]) (sz := sz) (PX := (kz_PI sa)) (Qc := fun A => va_Qi (fun (r : Int32) (u : Unit) => (r = nI 1) ∧ True) (kz_B (dC, dI) vwCl A (fun u : Unit => [])) A) (cc := zc_L_key) (maxL := 5) (ret := some .int) (hh := zh_L_key) (by decide) rfl (Nat.le_of_ble_eq_true rfl) ?_
  intro p e s m below meth c A ls F htab hA hAw hdy hK hro hZ hN hPX hl
  obtain ⟨hx, hb, hml, hr, hown, hlocks, hts, hnm⟩ := id F
  have hAn : ∀ q, A q → s.heap.size ≤ q := fun q h => (hAw q h).elim (fun ⟨k, e, h⟩ => by simp at h) id
  have hl : lv_has ls 5 [(0, .ref h), (1, .int w_), (2, .int i_), (3, .ref out)] := hl
  refine lv_aload_n hx hb zd_L_key_0 rfl (lv_at hl 3 rfl) ?_
  refine lv_iconst (v := (nI (0))) hx hb zd_L_key_1 (by decide) ?_
  refine lv_aload_n hx hb zd_L_key_2 rfl (lv_at hl 0 rfl) ?_
  refine lv_iload_n hx hb zd_L_key_3 rfl (lv_at hl 1 rfl) ?_
  refine lv_iload_n hx hb zd_L_key_4 rfl (lv_at hl 2 rfl) ?_
  refine kz_catchV1 (As := [.int w_, .int i_]) (rest := [.int (nI (0)), .ref out]) (b := h) ⟨hx, hb, hml, hown, hts⟩ (c_P_key1 l hl9 dC dI cI cAA cB cL h w_ i_ _ sa hbad) (cwV 2 hts (kz_g (kz_mc mw_486 (kz_mc mw_487 (kz_mc mw_488 (kz_mc mw_39 kz_mn)))) mw_489) rfl rfl rfl (by decide +kernel) ⟨Nat.le_of_ble_eq_true rfl, Nat.le_of_ble_eq_true rfl⟩) (kz_preTV (fun _ _ h => kz_PI.old h) hPX (kz_preVr (As := [.int w_, .int i_]) hdy hA hK hro hZ hN [] (by decide) rfl [] rfl (by decide) [0, 1, 2, 3] rfl (fun _ h => by cases h) (fun _ h => by cases h) rfl (ci := 0) (q0 := 0) rfl rfl rfl) hdy.2.2 hAn) rfl hl.1 (Nat.le_of_ble_eq_true rfl) zd_L_key_5 ⟨Nat.le_of_ble_eq_true rfl, Nat.le_of_ble_eq_true rfl⟩ (kz_tab2 htab) (by decide) (by decide) (hts _ (kz_c mw_367)) (hPX.1 _ _ (by simp [Bundle.ownAtoms])) (fun q1 H z1 z2 => ?_)
  have hdy := hdy.grow z1 z2
  refine lv_astore (lv' := [(4, .ref q1), (0, .ref h), (1, .int w_), (2, .int i_), (3, .ref out)]) hx hb zd_L_key_13 hl (by decide) rfl (fun ls hl => ?_)
  refine lv_iconst (v := (nI (1))) hx hb zd_L_key_15 (by decide) ?_
  exact kz_iret F () hdy (⟨by first | rfl | omega, trivial⟩) zd_L_key_16

set_option maxHeartbeats 4000000 in
set_option maxRecDepth 100000 in
/-- KeyMeetingLaw.key(LKeyMeeting;II[J)I -/
theorem c_L_key2 (l : Launch) (hl9 : l.stackTraces = false) (dC : Nat → ClassId) (dI : Nat → Nat → Nat) (cI cAA cB cL : ClassId) (h to wy off cm hs ks ah ar ao ho mo dg out : Nat) (stg : Int32) (w_ : Nat) (i_ : Int32) (sz : Nat) (hw_ : w_ < 2) (hbad : i_ < 0 ∨ nI 16 ≤ i_) (sa : Nat) : Met l zy_L_key zw_L_key { frames := 10, cells := 1, slots := 6, locals := 243 } (fun a U => kz_Pc (dC, dI) vwCl [(cI, .int), (cAA, .array .int), (cB, .byte), (cL, .long)] [] [] [.ref h, .int (nI (w_)), .int i_, .ref out] [] [(h, .inr (0, [.ref to, .ref wy, .ref off, .ref cm, .ref hs, .ref ks, .ref ah, .ref ar, .ref ao, .ref ho, .ref mo, .ref dg, .int stg]))] sz a U ∧ (kz_PI sa) U) (va_Qi (fun (r : Int32) (u : Unit) => (r = nI 1) ∧ True) (kz_B (dC, dI) vwCl (va_A [] sz) (fun u : Unit => [])) (va_A [] sz)) 1 6 (va_A [] sz) := by
  refine kz_metW (y := zy_L_key) (ws := zw_L_key) (av := [.ref h, .int (nI (w_)), .int i_, .ref out]) (sz := sz) (PX := (kz_PI sa)) (Qc := fun A => va_Qi (fun (r : Int32) (u : Unit) => (r = nI 1) ∧ True) (kz_B (dC, dI) vwCl A (fun u : Unit => [])) A) (cc := zc_L_key) (maxL := 5) (ret := some .int) (hh := zh_L_key) (by decide) rfl (Nat.le_of_ble_eq_true rfl) ?_
  intro p e s m below meth c A ls F htab hA hAw hdy hK hro hZ hN hPX hl
  obtain ⟨hx, hb, hml, hr, hown, hlocks, hts, hnm⟩ := id F
  have hAn : ∀ q, A q → s.heap.size ≤ q := fun q h => (hAw q h).elim (fun ⟨k, e, h⟩ => by simp at h) id
  have hl : lv_has ls 5 [(0, .ref h), (1, .int (nI (w_))), (2, .int i_), (3, .ref out)] := hl
  refine lv_aload_n hx hb zd_L_key_0 rfl (lv_at hl 3 rfl) ?_
  refine lv_iconst (v := (nI (0))) hx hb zd_L_key_1 (by decide) ?_
  refine lv_aload_n hx hb zd_L_key_2 rfl (lv_at hl 0 rfl) ?_
  refine lv_iload_n hx hb zd_L_key_3 rfl (lv_at hl 1 rfl) ?_
  refine lv_iload_n hx hb zd_L_key_4 rfl (lv_at hl 2 rfl) ?_
  refine kz_catchV1 (As := [.int (nI (w_)), .int i_]) (rest := [.int (nI (0)), .ref out]) (b := h) ⟨hx, hb, hml, hown, hts⟩ (c_P_key2 l hl9 dC dI cI cAA cB cL h w_ i_ _ sa hw_ hbad) (cwV 2 hts (kz_g (kz_mc mw_486 (kz_mc mw_487 (kz_mc mw_488 (kz_mc mw_39 kz_mn)))) mw_489) rfl rfl rfl (by decide +kernel) ⟨Nat.le_of_ble_eq_true rfl, Nat.le_of_ble_eq_true rfl⟩) (kz_preTV (fun _ _ h => kz_PI.old h) hPX (kz_preVr (As := [.int (nI (w_)), .int i_]) hdy hA hK hro hZ hN [] (by decide) rfl [] rfl (by decide) [0, 1, 2, 3] rfl (fun _ h => by cases h) (fun _ h => by cases h) rfl (ci := 0) (q0 := 0) rfl rfl rfl) hdy.2.2 hAn) rfl hl.1 (Nat.le_of_ble_eq_true rfl) zd_L_key_5 ⟨Nat.le_of_ble_eq_true rfl, Nat.le_of_ble_eq_true rfl⟩ (kz_tab2 htab) (by decide) (by decide) (hts _ (kz_c mw_367)) (hPX.1 _ _ (by simp [Bundle.ownAtoms])) (fun q1 H z1 z2 => ?_)
  have hdy := hdy.grow z1 z2
  refine lv_astore (lv' := [(4, .ref q1), (0, .ref h), (1, .int (nI (w_))), (2, .int i_), (3, .ref out)]) hx hb zd_L_key_13 hl (by decide) rfl (fun ls hl => ?_)
  refine lv_iconst (v := (nI (1))) hx hb zd_L_key_15 (by decide) ?_
  exact kz_iret F () hdy (⟨by first | rfl | omega, trivial⟩) zd_L_key_16

set_option maxHeartbeats 4000000 in
set_option maxRecDepth 100000 in
/-- KeyMeetingLaw.key(LKeyMeeting;II[J)I -/
theorem c_L_key3 (l : Launch) (hl9 : l.stackTraces = false) (dC : Nat → ClassId) (dI : Nat → Nat → Nat) (cI cAA cB cL : ClassId) (h to wy off cm hs ks ah ar ao ho mo dg out : Nat) (stg : Int32) (w_ : Nat) (i_ : Nat) (sz : Nat) (hw_ : w_ < 2) (hi_ : i_ < 16) (hst : ¬ stg = nI 3) (sa : Nat) : Met l zy_L_key zw_L_key { frames := 10, cells := 1, slots := 6, locals := 243 } (fun a U => kz_Pc (dC, dI) vwCl [(cI, .int), (cAA, .array .int), (cB, .byte), (cL, .long)] [] [] [.ref h, .int (nI (w_)), .int (nI (i_)), .ref out] [] [(h, .inr (0, [.ref to, .ref wy, .ref off, .ref cm, .ref hs, .ref ks, .ref ah, .ref ar, .ref ao, .ref ho, .ref mo, .ref dg, .int stg]))] sz a U ∧ (fun U => kz_PS sa U ∧ va_Nc "java/lang/IllegalStateException" "java/lang/IndexOutOfBoundsException" U) U) (va_Qi (fun (r : Int32) (u : Unit) => (r = nI 2) ∧ True) (kz_B (dC, dI) vwCl (va_A [] sz) (fun u : Unit => [])) (va_A [] sz)) 1 6 (va_A [] sz) := by
  refine kz_metW (y := zy_L_key) (ws := zw_L_key) (av := [.ref h, .int (nI (w_)), .int (nI (i_)), .ref out]) (sz := sz) (PX := (fun U => kz_PS sa U ∧ va_Nc "java/lang/IllegalStateException" "java/lang/IndexOutOfBoundsException" U)) (Qc := fun A => va_Qi (fun (r : Int32) (u : Unit) => (r = nI 2) ∧ True) (kz_B (dC, dI) vwCl A (fun u : Unit => [])) A) (cc := zc_L_key) (maxL := 5) (ret := some .int) (hh := zh_L_key) (by decide) rfl (Nat.le_of_ble_eq_true rfl) ?_
  intro p e s m below meth c A ls F htab hA hAw hdy hK hro hZ hN hPX hl
  obtain ⟨hx, hb, hml, hr, hown, hlocks, hts, hnm⟩ := id F
  have hAn : ∀ q, A q → s.heap.size ≤ q := fun q h => (hAw q h).elim (fun ⟨k, e, h⟩ => by simp at h) id
  have hl : lv_has ls 5 [(0, .ref h), (1, .int (nI (w_))), (2, .int (nI (i_))), (3, .ref out)] := hl
  refine lv_aload_n hx hb zd_L_key_0 rfl (lv_at hl 3 rfl) ?_
  refine lv_iconst (v := (nI (0))) hx hb zd_L_key_1 (by decide) ?_
  refine lv_aload_n hx hb zd_L_key_2 rfl (lv_at hl 0 rfl) ?_
  refine lv_iload_n hx hb zd_L_key_3 rfl (lv_at hl 1 rfl) ?_
  refine lv_iload_n hx hb zd_L_key_4 rfl (lv_at hl 2 rfl) ?_
  refine kz_catchV2 (As := [.int (nI (w_)), .int (nI (i_))]) (rest := [.int (nI (0)), .ref out]) (b := h) ⟨hx, hb, hml, hown, hts⟩ (c_P_key3 l hl9 dC dI cI cAA cB cL h to wy off cm hs ks ah ar ao ho mo dg stg w_ i_ _ sa hw_ hi_ hst) (cwV 2 hts (kz_g (kz_mc mw_486 (kz_mc mw_487 (kz_mc mw_488 (kz_mc mw_39 kz_mn)))) mw_489) rfl rfl rfl (by decide +kernel) ⟨Nat.le_of_ble_eq_true rfl, Nat.le_of_ble_eq_true rfl⟩) (kz_preTV (fun _ _ h => kz_PS.old h) hPX.1 (kz_preVr (As := [.int (nI (w_)), .int (nI (i_))]) hdy hA hK hro hZ hN [] (by decide) rfl [(true, 0)] rfl (by decide) [0, 1, 2, 3] rfl (fun _ h => by cases h) (fun _ h => by cases h) rfl (ci := 0) (q0 := 0) rfl rfl rfl) hdy.2.2 hAn) rfl hl.1 (Nat.le_of_ble_eq_true rfl) zd_L_key_5 ⟨Nat.le_of_ble_eq_true rfl, Nat.le_of_ble_eq_true rfl⟩ (kz_tab2 htab) (by decide) (by decide) (hts _ (kz_c mw_367)) hPX.2 (by decide) (by decide) (hts _ (kz_c mw_485)) (hPX.1.1 _ _ (by simp [Bundle.ownAtoms])) (fun q1 H z1 z2 => ?_)
  have hdy := hdy.grow z1 z2
  refine lv_astore (lv' := [(4, .ref q1), (0, .ref h), (1, .int (nI (w_))), (2, .int (nI (i_))), (3, .ref out)]) hx hb zd_L_key_17 hl (by decide) rfl (fun ls hl => ?_)
  refine lv_iconst (v := (nI (2))) hx hb zd_L_key_19 (by decide) ?_
  exact kz_iret F () hdy (⟨by first | rfl | omega, trivial⟩) zd_L_key_20

set_option maxHeartbeats 4000000 in
set_option maxRecDepth 100000 in
/-- KeyMeetingLaw.secret(LKeyMeeting;I[J)I -/
theorem c_L_secret0 (l : Launch) (hl9 : l.stackTraces = false) (dC : Nat → ClassId) (dI : Nat → Nat → Nat) (cI cAA cB cL : ClassId) (pr inv hp hq hw16 out to t0 t1 t2 t3 t4 t5 t6 h wy off cm hs ks ah ar ao ho mo dg : Nat) (gpr : Nat → Nat) (ginv : Nat → Nat) (ghp : Nat → Nat) (ghq : Nat → Nat) (ghw16 : Nat → Nat) (gout : Nat → Int64) (stg : Int32) (gt2 : Nat → Nat) (gt3 : Nat → Nat) (i_ : Nat) (sz : Nat) (hd_gpr : ∀ j, gpr j < 4294967296) (hd_ginv : ∀ j, ginv j < 4294967296) (hd_ghp : ∀ j, ghp j < 4294967296) (hd_ghq : ∀ j, ghq j < 4294967296) (hd_ghw16 : ∀ j, ghw16 j < 4294967296) (hd_gt2 : ∀ j, gt2 j < 4294967296) (hd_gt3 : ∀ j, gt3 j < 4294967296) (hi_ : i_ < 8) (hzp : ∀ j, j < 4 → ghp j = 0) (hzq : ∀ j, j < 4 → ghq j = 0) (sa : Nat) : Met l zy_L_secret zw_L_secret { frames := 10, cells := 0, slots := 0, locals := 242 } (fun a U => kz_Pc (dC, dI) vwCl [(cI, .int), (cAA, .array .int), (cB, .byte), (cL, .long)] [] [] [.ref h, .int (nI (i_)), .ref out] [(pr, .inl (cI, 8, .inl (kz_dg gpr))), (inv, .inl (cI, 8, .inl (kz_dg ginv))), (hp, .inl (cI, 8, .inl (kz_dg ghp))), (hq, .inl (cI, 8, .inl (kz_dg ghq))), (hw16, .inl (cI, 16, .inl (kz_dg ghw16))), (out, .inl (cL, 1, .inr (.inl gout))), (to, .inl (cAA, 7, .inr (.inr (.inr (.inr (kz_row [t0, t1, t2, t3, t4, t5, t6]))))))] [(h, .inr (0, [.ref to, .ref wy, .ref off, .ref cm, .ref hs, .ref ks, .ref ah, .ref ar, .ref ao, .ref ho, .ref mo, .ref dg, .int stg])), (t2, .inl (cI, 8, .inl (kz_dg gt2))), (t3, .inl (cI, 8, .inl (kz_dg gt3))), (ho, .inr (2, [.ref pr, .ref inv, .ref hp, .ref hq, .ref hw16]))] sz a U ∧ (fun _ => True) U) (va_Qi (fun (r : Int32) (u : (Nat → Nat) × (Nat → Nat) × (Nat → Nat) × (Nat → Nat) × (Nat → Nat) × (Nat → Int64)) => (∀ j, u.1 j < 4294967296) ∧ (∀ j, u.2.1 j < 4294967296) ∧ (∀ j, u.2.2.1 j < 4294967296) ∧ (∀ j, u.2.2.2.1 j < 4294967296) ∧ (∀ j, u.2.2.2.2.1 j < 4294967296) ∧ (r = nI 0) ∧ (∀ j, j < 4 → u.2.2.1 j = 0) ∧ (∀ j, j < 4 → u.2.2.2.1 j = 0) ∧ (∃ z : Int32, kx_sec (kx_L gt2) (kx_L gt3) i_ z ∧ u.2.2.2.2.2 0 = z.toInt64) ∧ True) (kz_B (dC, dI) vwCl (va_A [(pr, .inl (cI, 8, .inl (kz_dg gpr))), (inv, .inl (cI, 8, .inl (kz_dg ginv))), (hp, .inl (cI, 8, .inl (kz_dg ghp))), (hq, .inl (cI, 8, .inl (kz_dg ghq))), (hw16, .inl (cI, 16, .inl (kz_dg ghw16))), (out, .inl (cL, 1, .inr (.inl gout))), (to, .inl (cAA, 7, .inr (.inr (.inr (.inr (kz_row [t0, t1, t2, t3, t4, t5, t6]))))))] sz) (fun u : (Nat → Nat) × (Nat → Nat) × (Nat → Nat) × (Nat → Nat) × (Nat → Nat) × (Nat → Int64) => [(pr, .inl (cI, 8, .inl (kz_dg u.1))), (inv, .inl (cI, 8, .inl (kz_dg u.2.1))), (hp, .inl (cI, 8, .inl (kz_dg u.2.2.1))), (hq, .inl (cI, 8, .inl (kz_dg u.2.2.2.1))), (hw16, .inl (cI, 16, .inl (kz_dg u.2.2.2.2.1))), (out, .inl (cL, 1, .inr (.inl u.2.2.2.2.2))), (to, .inl (cAA, 7, .inr (.inr (.inr (.inr (kz_row [t0, t1, t2, t3, t4, t5, t6]))))))])) (va_A [(pr, .inl (cI, 8, .inl (kz_dg gpr))), (inv, .inl (cI, 8, .inl (kz_dg ginv))), (hp, .inl (cI, 8, .inl (kz_dg ghp))), (hq, .inl (cI, 8, .inl (kz_dg ghq))), (hw16, .inl (cI, 16, .inl (kz_dg ghw16))), (out, .inl (cL, 1, .inr (.inl gout))), (to, .inl (cAA, 7, .inr (.inr (.inr (.inr (kz_row [t0, t1, t2, t3, t4, t5, t6]))))))] sz)) 0 0 (va_A [(pr, .inl (cI, 8, .inl (kz_dg gpr))), (inv, .inl (cI, 8, .inl (kz_dg ginv))), (hp, .inl (cI, 8, .inl (kz_dg ghp))), (hq, .inl (cI, 8, .inl (kz_dg ghq))), (hw16, .inl (cI, 16, .inl (kz_dg ghw16))), (out, .inl (cL, 1, .inr (.inl gout))), (to, .inl (cAA, 7, .inr (.inr (.inr (.inr (kz_row [t0, t1, t2, t3, t4, t5, t6]))))))] sz) := by
  refine kz_metW (y := zy_L_secret) (ws := zw_L_secret) (av := [.ref h, .int (nI (i_)), .ref out]) (sz := sz) (PX := (fun _ => True)) (Qc := fun A => va_Qi (fun (r : Int32) (u : (Nat → Nat) × (Nat → Nat) × (Nat → Nat) × (Nat → Nat) × (Nat → Nat) × (Nat → Int64)) => (∀ j, u.1 j < 4294967296) ∧ (∀ j, u.2.1 j < 4294967296) ∧ (∀ j, u.2.2.1 j < 4294967296) ∧ (∀ j, u.2.2.2.1 j < 4294967296) ∧ (∀ j, u.2.2.2.2.1 j < 4294967296) ∧ (r = nI 0) ∧ (∀ j, j < 4 → u.2.2.1 j = 0) ∧ (∀ j, j < 4 → u.2.2.2.1 j = 0) ∧ (∃ z : Int32, kx_sec (kx_L gt2) (kx_L gt3) i_ z ∧ u.2.2.2.2.2 0 = z.toInt64) ∧ True) (kz_B (dC, dI) vwCl A (fun u : (Nat → Nat) × (Nat → Nat) × (Nat → Nat) × (Nat → Nat) × (Nat → Nat) × (Nat → Int64) => [(pr, .inl (cI, 8, .inl (kz_dg u.1))), (inv, .inl (cI, 8, .inl (kz_dg u.2.1))), (hp, .inl (cI, 8, .inl (kz_dg u.2.2.1))), (hq, .inl (cI, 8, .inl (kz_dg u.2.2.2.1))), (hw16, .inl (cI, 16, .inl (kz_dg u.2.2.2.2.1))), (out, .inl (cL, 1, .inr (.inl u.2.2.2.2.2))), (to, .inl (cAA, 7, .inr (.inr (.inr (.inr (kz_row [t0, t1, t2, t3, t4, t5, t6]))))))])) A) (cc := zc_L_secret) (maxL := 4) (ret := some .int) (hh := zh_L_secret) (by decide) rfl (Nat.le_of_ble_eq_true rfl) ?_
  intro p e s m below meth c A ls F htab hA hAw hdy hK hro hZ hN hPX hl
  obtain ⟨hx, hb, hml, hr, hown, hlocks, hts, hnm⟩ := id F
  have hl : lv_has ls 4 [(0, .ref h), (1, .int (nI (i_))), (2, .ref out)] := hl
  refine lv_aload_n hx hb zd_L_secret_0 rfl (lv_at hl 2 rfl) ?_
  refine lv_iconst (v := (nI (0))) hx hb zd_L_secret_1 (by decide) ?_
  refine lv_aload_n hx hb zd_L_secret_2 rfl (lv_at hl 0 rfl) ?_
  refine lv_iload_n hx hb zd_L_secret_3 rfl (lv_at hl 1 rfl) ?_
  refine kz_calli (wk := [(out, .inl (cL, 1, .inr (.inl gout)))]) (va_runV (As := [.int (nI (i_))]) (rest := [.int (nI (0)), .ref out]) ⟨hx, hb, hml, hown, hts⟩ (c_J_secret l dC dI cI cAA cB cL pr inv hp hq hw16 to t0 t1 t2 t3 t4 t5 t6 h wy off cm hs ks ah ar ao ho mo dg gpr ginv ghp ghq ghw16 (stg) gt2 gt3 i_ _ hd_gpr hd_ginv hd_ghp hd_ghq hd_ghw16 hd_gt2 hd_gt3 (by first | omega | assumption) (by first | omega | assumption) (by first | omega | assumption)) (cwV 1 hts (kz_g (kz_mc mw_509 (kz_mc mw_510 (kz_mc mw_511 (kz_mc mw_39 kz_mn)))) mw_512) rfl rfl rfl (by decide +kernel) ⟨Nat.le_of_ble_eq_true rfl, Nat.le_of_ble_eq_true rfl⟩) (kz_preVr hdy hA hK hro hZ hN [0, 1, 2, 3, 4, 6] (by decide) rfl [(true, 0), (true, 1), (true, 2), (true, 3)] rfl (by decide) [0, 1, 2, 3] rfl (fun _ h => by cases h) (fun _ h => by cases h) rfl (ci := 0) (q0 := 0) rfl rfl rfl) rfl rfl hl.1 rfl (lv_room (Nat.le_of_ble_eq_true rfl)) zd_L_secret_4 ⟨Nat.le_of_ble_eq_true rfl, Nat.le_of_ble_eq_true rfl⟩) hdy hA [0, 1, 2, 3, 4, 6] [5] rfl rfl (by decide) (by decide) (fun r u H locs hw hdy => ?_)
  obtain ⟨r6, rfl⟩ : ∃ z, z = r := ⟨_, rfl⟩
  obtain ⟨d1, d2, d3, d4, d5⟩ := u
  try dsimp only at hw
  obtain ⟨hd_d1, hd_d2, hd_d3, hd_d4, hd_d5, q7, q8, q9, -⟩ := hw
  have hdy : kz_dy (dC, dI) vwCl A s.heap H locs [(pr, .inl (cI, 8, .inl (kz_dg d1))), (inv, .inl (cI, 8, .inl (kz_dg d2))), (hp, .inl (cI, 8, .inl (kz_dg d3))), (hq, .inl (cI, 8, .inl (kz_dg d4))), (hw16, .inl (cI, 16, .inl (kz_dg d5))), (out, .inl (cL, 1, .inr (.inl gout))), (to, .inl (cAA, 7, .inr (.inr (.inr (.inr (kz_row [t0, t1, t2, t3, t4, t5, t6]))))))] := hdy.sub [1, 2, 3, 4, 5, 0, 6] (by decide) rfl
  refine lv_i2l hx hb zd_L_secret_7 rfl ?_
  refine va_last hx hb hK hdy.1 hdy.2.1 hdy.2.2 5 3 rfl rfl (vp_in_nI (by omega) (by omega)) zd_L_secret_8 (fun H locs hP hD hS => ?_)
  obtain ⟨f10, ef10, hdy⟩ : ∃ f10 : Nat → Int64, f10 = vp_updL gout ((nI (0))).toNatClampNeg (Int32.toInt64 r6) ∧ kz_dy (dC, dI) vwCl A s.heap H locs [(pr, .inl (cI, 8, .inl (kz_dg d1))), (inv, .inl (cI, 8, .inl (kz_dg d2))), (hp, .inl (cI, 8, .inl (kz_dg d3))), (hq, .inl (cI, 8, .inl (kz_dg d4))), (hw16, .inl (cI, 16, .inl (kz_dg d5))), (out, .inl (cL, 1, .inr (.inl f10))), (to, .inl (cAA, 7, .inr (.inr (.inr (.inr (kz_row [t0, t1, t2, t3, t4, t5, t6]))))))] := ⟨_, rfl, hP, hD, hS⟩
  refine lv_goto (tgt := 15) hx hb zd_L_secret_9 (by decide) ?_
  refine lv_iconst (v := (nI (0))) hx hb zd_L_secret_15 (by decide) ?_
  exact kz_iret F (d1, d2, d3, d4, d5, f10) hdy (⟨hd_d1, hd_d2, hd_d3, hd_d4, hd_d5, by first | rfl | omega, by first | assumption | exact hzp, by first | assumption | exact hzq, by exact ⟨_, q9, by rw [ef10]; rfl⟩, trivial⟩) zd_L_secret_16

set_option maxHeartbeats 4000000 in
set_option maxRecDepth 100000 in
/-- KeyMeetingLaw.secret(LKeyMeeting;I[J)I -/
theorem c_L_secret1 (l : Launch) (hl9 : l.stackTraces = false) (dC : Nat → ClassId) (dI : Nat → Nat → Nat) (cI cAA cB cL : ClassId) (h to wy off cm hs ks ah ar ao ho mo dg out : Nat) (stg : Int32) (i_ : Int32) (sz : Nat) (hbad : i_ < 0 ∨ nI 8 ≤ i_) (sa : Nat) : Met l zy_L_secret zw_L_secret { frames := 10, cells := 1, slots := 6, locals := 242 } (fun a U => kz_Pc (dC, dI) vwCl [(cI, .int), (cAA, .array .int), (cB, .byte), (cL, .long)] [] [] [.ref h, .int i_, .ref out] [] [(h, .inr (0, [.ref to, .ref wy, .ref off, .ref cm, .ref hs, .ref ks, .ref ah, .ref ar, .ref ao, .ref ho, .ref mo, .ref dg, .int stg]))] sz a U ∧ (kz_PI sa) U) (va_Qi (fun (r : Int32) (u : Unit) => (r = nI 1) ∧ True) (kz_B (dC, dI) vwCl (va_A [] sz) (fun u : Unit => [])) (va_A [] sz)) 1 6 (va_A [] sz) := by
  refine kz_metW (y := zy_L_secret) (ws := zw_L_secret) (av := [.ref h, .int i_, .ref out]) (sz := sz) (PX := (kz_PI sa)) (Qc := fun A => va_Qi (fun (r : Int32) (u : Unit) => (r = nI 1) ∧ True) (kz_B (dC, dI) vwCl A (fun u : Unit => [])) A) (cc := zc_L_secret) (maxL := 4) (ret := some .int) (hh := zh_L_secret) (by decide) rfl (Nat.le_of_ble_eq_true rfl) ?_
  intro p e s m below meth c A ls F htab hA hAw hdy hK hro hZ hN hPX hl
  obtain ⟨hx, hb, hml, hr, hown, hlocks, hts, hnm⟩ := id F
  have hAn : ∀ q, A q → s.heap.size ≤ q := fun q h => (hAw q h).elim (fun ⟨k, e, h⟩ => by simp at h) id
  have hl : lv_has ls 4 [(0, .ref h), (1, .int i_), (2, .ref out)] := hl
  refine lv_aload_n hx hb zd_L_secret_0 rfl (lv_at hl 2 rfl) ?_
  refine lv_iconst (v := (nI (0))) hx hb zd_L_secret_1 (by decide) ?_
  refine lv_aload_n hx hb zd_L_secret_2 rfl (lv_at hl 0 rfl) ?_
  refine lv_iload_n hx hb zd_L_secret_3 rfl (lv_at hl 1 rfl) ?_
  refine kz_catchV1 (As := [.int i_]) (rest := [.int (nI (0)), .ref out]) (b := h) ⟨hx, hb, hml, hown, hts⟩ (c_P_secret1 l hl9 dC dI cI cAA cB cL h i_ _ sa hbad) (cwV 1 hts (kz_g (kz_mc mw_509 (kz_mc mw_510 (kz_mc mw_511 (kz_mc mw_39 kz_mn)))) mw_512) rfl rfl rfl (by decide +kernel) ⟨Nat.le_of_ble_eq_true rfl, Nat.le_of_ble_eq_true rfl⟩) (kz_preTV (fun _ _ h => kz_PI.old h) hPX (kz_preVr (As := [.int i_]) hdy hA hK hro hZ hN [] (by decide) rfl [] rfl (by decide) [0, 1, 2, 3] rfl (fun _ h => by cases h) (fun _ h => by cases h) rfl (ci := 0) (q0 := 0) rfl rfl rfl) hdy.2.2 hAn) rfl hl.1 (Nat.le_of_ble_eq_true rfl) zd_L_secret_4 ⟨Nat.le_of_ble_eq_true rfl, Nat.le_of_ble_eq_true rfl⟩ (kz_tab1 htab) (by decide) (by decide) (hts _ (kz_c mw_367)) (hPX.1 _ _ (by simp [Bundle.ownAtoms])) (fun q1 H z1 z2 => ?_)
  have hdy := hdy.grow z1 z2
  refine lv_astore_n (lv' := [(3, .ref q1), (0, .ref h), (1, .int i_), (2, .ref out)]) hx hb zd_L_secret_12 rfl hl (by decide) rfl (fun ls hl => ?_)
  refine lv_iconst (v := (nI (1))) hx hb zd_L_secret_13 (by decide) ?_
  exact kz_iret F () hdy (⟨by first | rfl | omega, trivial⟩) zd_L_secret_14

