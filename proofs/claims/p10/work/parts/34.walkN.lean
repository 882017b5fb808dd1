set_option maxHeartbeats 4000000 in
set_option maxRecDepth 100000 in
/-- KeyMeetingModel.refused(ZZ)Z -/
theorem c_M_refused1 (l : Launch) (dC : Nat → ClassId) (dI : Nat → Nat → Nat) (cI cAA cB cL : ClassId) (o mt mn ml mc mh mk mp mm mb mw mr mx me mP mQ ms mo mW mD mB mR mS : Nat) (th : Int32) (sta : Int32) (hs : Int32) (sz_ : Nat) (sz : Nat) : Met l zy_N_refused zw_N_refused { frames := 0, cells := 0, slots := 0, locals := 0 } (kz_Pc (dC, dI) vwCl [(cI, .int), (cAA, .array .int), (cB, .byte), (cL, .long)] [] [] [.ref o, .int (nI (1)), .int (nI (0))] [(o, .inr (4, [.int th, .int sta, .ref mt, .ref mn, .ref ml, .ref mc, .ref mh, .ref mk, .ref mp, .ref mm, .ref mb, .ref mw, .ref mr, .ref mx, .ref me, .ref mP, .ref mQ, .ref ms, .int hs, .int (nI (sz_)), .ref mo, .ref mW, .ref mD, .ref mB, .ref mR, .ref mS]))] [] sz) (va_Qi (fun (r : Int32) (u : Int32) => (r = nI 1) ∧ (u = nI 1) ∧ True) (kz_B (dC, dI) vwCl (va_A [(o, .inr (4, [.int th, .int sta, .ref mt, .ref mn, .ref ml, .ref mc, .ref mh, .ref mk, .ref mp, .ref mm, .ref mb, .ref mw, .ref mr, .ref mx, .ref me, .ref mP, .ref mQ, .ref ms, .int hs, .int (nI (sz_)), .ref mo, .ref mW, .ref mD, .ref mB, .ref mR, .ref mS]))] sz) (fun u : Int32 => [(o, .inr (4, [.int u, .int sta, .ref mt, .ref mn, .ref ml, .ref mc, .ref mh, .ref mk, .ref mp, .ref mm, .ref mb, .ref mw, .ref mr, .ref mx, .ref me, .ref mP, .ref mQ, .ref ms, .int hs, .int (nI (sz_)), .ref mo, .ref mW, .ref mD, .ref mB, .ref mR, .ref mS]))])) (va_A [(o, .inr (4, [.int th, .int sta, .ref mt, .ref mn, .ref ml, .ref mc, .ref mh, .ref mk, .ref mp, .ref mm, .ref mb, .ref mw, .ref mr, .ref mx, .ref me, .ref mP, .ref mQ, .ref ms, .int hs, .int (nI (sz_)), .ref mo, .ref mW, .ref mD, .ref mB, .ref mR, .ref mS]))] sz)) 0 0 (va_A [(o, .inr (4, [.int th, .int sta, .ref mt, .ref mn, .ref ml, .ref mc, .ref mh, .ref mk, .ref mp, .ref mm, .ref mb, .ref mw, .ref mr, .ref mx, .ref me, .ref mP, .ref mQ, .ref ms, .int hs, .int (nI (sz_)), .ref mo, .ref mW, .ref mD, .ref mB, .ref mR, .ref mS]))] sz) := by
  refine kz_met (y := zy_N_refused) (ws := zw_N_refused) (av := [.ref o, .int (nI (1)), .int (nI (0))]) (sz := sz) (Qc := fun A => va_Qi (fun (r : Int32) (u : Int32) => (r = nI 1) ∧ (u = nI 1) ∧ True) (kz_B (dC, dI) vwCl A (fun u : Int32 => [(o, .inr (4, [.int u, .int sta, .ref mt, .ref mn, .ref ml, .ref mc, .ref mh, .ref mk, .ref mp, .ref mm, .ref mb, .ref mw, .ref mr, .ref mx, .ref me, .ref mP, .ref mQ, .ref ms, .int hs, .int (nI (sz_)), .ref mo, .ref mW, .ref mD, .ref mB, .ref mR, .ref mS]))])) A) (cc := zc_N_refused) (maxL := 3) (ret := some .boolean) (by decide) rfl (Nat.le_of_ble_eq_true rfl) ?_
  intro p e s m below meth c A ls F hA hdy hK hro hZ hN hl
  obtain ⟨hx, hb, hml, hr, hown, hlocks, hts, hnm⟩ := id F
  have hl : lv_has ls 3 [(0, .ref o), (1, .int (nI (1))), (2, .int (nI (0)))] := hl
  refine lv_aload_n hx hb zd_N_refused_0 rfl (lv_at hl 0 rfl) ?_
  refine lv_iload_n hx hb zd_N_refused_1 rfl (lv_at hl 1 rfl) ?_
  refine lv_if_eq (tgt := 9) hx hb zd_N_refused_2 (by decide) (fun hc2 => ?_) (fun hc2 => ?_)
  · exact absurd hc2 (by decide)
  · refine lv_iconst (v := (nI (1))) hx hb zd_N_refused_5 (by decide) ?_
    refine lv_goto (tgt := 18) hx hb zd_N_refused_6 (by decide) ?_
    refine va_put (D := (dC, dI)) (ci := 4) (v := .int (nI (1))) (ty := .int) (C := zR_N) (T := zT_N) (N := 26) hx hb hts (fun w h => kz_c (zi_N w h)) zt_N zo_N zn_N hown hK hdy.1 hdy.2.1 hdy.2.2 0 rfl rfl 0 (by decide) (hts _ (kz_c mw_591)) (fun _ h9 => h9) rfl (by decide +kernel) rfl rfl (Nat.le_of_ble_eq_true rfl) zd_N_refused_18 (fun H locs hP hD hS => ?_)
    have hdy : kz_dy (dC, dI) vwCl A s.heap H locs [(o, .inr (4, [.int (nI (1)), .int sta, .ref mt, .ref mn, .ref ml, .ref mc, .ref mh, .ref mk, .ref mp, .ref mm, .ref mb, .ref mw, .ref mr, .ref mx, .ref me, .ref mP, .ref mQ, .ref ms, .int hs, .int (nI (sz_)), .ref mo, .ref mW, .ref mD, .ref mB, .ref mR, .ref mS]))] := ⟨hP, hD, hS⟩
    refine lv_aload_n hx hb zd_N_refused_21 rfl (lv_at hl 0 rfl) ?_
    refine va_get (D := (dC, dI)) (ci := 4) (v := .int (nI (1))) (C := zR_N) (T := zT_N) (N := 26) hx hb hts (fun w h => kz_c (zi_N w h)) hown hK hdy.1 0 rfl rfl 0 (by decide) (hts _ (kz_c mw_591)) (fun _ h9 => h9) rfl zd_N_refused_22 ?_
    refine lv_if_le (tgt := 32) hx hb zd_N_refused_25 (by decide) (fun hc25 => ?_) (fun hc25 => ?_)
    · exact absurd hc25 (by decide)
    · refine lv_iconst (v := (nI (1))) hx hb zd_N_refused_28 (by decide) ?_
      refine lv_goto (tgt := 33) hx hb zd_N_refused_29 (by decide) ?_
      exact kz_zret F ((nI (1))) hdy (by first | exact Or.inl rfl | exact Or.inr rfl | assumption) (⟨by first | rfl | omega, by first | assumption | rfl | omega, trivial⟩) zd_N_refused_33

set_option maxHeartbeats 4000000 in
set_option maxRecDepth 100000 in
/-- KeyMeetingModel.refused(ZZ)Z -/
theorem c_M_refused2 (l : Launch) (dC : Nat → ClassId) (dI : Nat → Nat → Nat) (cI cAA cB cL : ClassId) (o mt mn ml mc mh mk mp mm mb mw mr mx me mP mQ ms mo mW mD mB mR mS : Nat) (th : Int32) (sta : Int32) (hs : Int32) (sz_ : Nat) (sz : Nat) : Met l zy_N_refused zw_N_refused { frames := 0, cells := 0, slots := 0, locals := 0 } (kz_Pc (dC, dI) vwCl [(cI, .int), (cAA, .array .int), (cB, .byte), (cL, .long)] [] [] [.ref o, .int (nI (0)), .int (nI (1))] [(o, .inr (4, [.int th, .int sta, .ref mt, .ref mn, .ref ml, .ref mc, .ref mh, .ref mk, .ref mp, .ref mm, .ref mb, .ref mw, .ref mr, .ref mx, .ref me, .ref mP, .ref mQ, .ref ms, .int hs, .int (nI (sz_)), .ref mo, .ref mW, .ref mD, .ref mB, .ref mR, .ref mS]))] [] sz) (va_Qi (fun (r : Int32) (u : Int32) => (r = nI 1) ∧ (u = nI 2) ∧ True) (kz_B (dC, dI) vwCl (va_A [(o, .inr (4, [.int th, .int sta, .ref mt, .ref mn, .ref ml, .ref mc, .ref mh, .ref mk, .ref mp, .ref mm, .ref mb, .ref mw, .ref mr, .ref mx, .ref me, .ref mP, .ref mQ, .ref ms, .int hs, .int (nI (sz_)), .ref mo, .ref mW, .ref mD, .ref mB, .ref mR, .ref mS]))] sz) (fun u : Int32 => [(o, .inr (4, [.int u, .int sta, .ref mt, .ref mn, .ref ml, .ref mc, .ref mh, .ref mk, .ref mp, .ref mm, .ref mb, .ref mw, .ref mr, .ref mx, .ref me, .ref mP, .ref mQ, .ref ms, .int hs, .int (nI (sz_)), .ref mo, .ref mW, .ref mD, .ref mB, .ref mR, .ref mS]))])) (va_A [(o, .inr (4, [.int th, .int sta, .ref mt, .ref mn, .ref ml, .ref mc, .ref mh, .ref mk, .ref mp, .ref mm, .ref mb, .ref mw, .ref mr, .ref mx, .ref me, .ref mP, .ref mQ, .ref ms, .int hs, .int (nI (sz_)), .ref mo, .ref mW, .ref mD, .ref mB, .ref mR, .ref mS]))] sz)) 0 0 (va_A [(o, .inr (4, [.int th, .int sta, .ref mt, .ref mn, .ref ml, .ref mc, .ref mh, .ref mk, .ref mp, .ref mm, .ref mb, .ref mw, .ref mr, .ref mx, .ref me, .ref mP, .ref mQ, .ref ms, .int hs, .int (nI (sz_)), .ref mo, .ref mW, .ref mD, .ref mB, .ref mR, .ref mS]))] sz) := by
  refine kz_met (y := zy_N_refused) (ws := zw_N_refused) (av := [.ref o, .int (nI (0)), .int (nI (1))]) (sz := sz) (Qc := fun A => va_Qi (fun (r : Int32) (u : Int32) => (r = nI 1) ∧ (u = nI 2) ∧ True) (kz_B (dC, dI) vwCl A (fun u : Int32 => [(o, .inr (4, [.int u, .int sta, .ref mt, .ref mn, .ref ml, .ref mc, .ref mh, .ref mk, .ref mp, .ref mm, .ref mb, .ref mw, .ref mr, .ref mx, .ref me, .ref mP, .ref mQ, .ref ms, .int hs, .int (nI (sz_)), .ref mo, .ref mW, .ref mD, .ref mB, .ref mR, .ref mS]))])) A) (cc := zc_N_refused) (maxL := 3) (ret := some .boolean) (by decide) rfl (Nat.le_of_ble_eq_true rfl) ?_
  intro p e s m below meth c A ls F hA hdy hK hro hZ hN hl
  obtain ⟨hx, hb, hml, hr, hown, hlocks, hts, hnm⟩ := id F
  have hl : lv_has ls 3 [(0, .ref o), (1, .int (nI (0))), (2, .int (nI (1)))] := hl
  refine lv_aload_n hx hb zd_N_refused_0 rfl (lv_at hl 0 rfl) ?_
  refine lv_iload_n hx hb zd_N_refused_1 rfl (lv_at hl 1 rfl) ?_
  refine lv_if_eq (tgt := 9) hx hb zd_N_refused_2 (by decide) (fun hc2 => ?_) (fun hc2 => ?_)
  · refine lv_iload_n hx hb zd_N_refused_9 rfl (lv_at hl 2 rfl) ?_
    refine lv_if_eq (tgt := 17) hx hb zd_N_refused_10 (by decide) (fun hc10 => ?_) (fun hc10 => ?_)
    · exact absurd hc10 (by decide)
    · refine lv_iconst (v := (nI (2))) hx hb zd_N_refused_13 (by decide) ?_
      refine lv_goto (tgt := 18) hx hb zd_N_refused_14 (by decide) ?_
      refine va_put (D := (dC, dI)) (ci := 4) (v := .int (nI (2))) (ty := .int) (C := zR_N) (T := zT_N) (N := 26) hx hb hts (fun w h => kz_c (zi_N w h)) zt_N zo_N zn_N hown hK hdy.1 hdy.2.1 hdy.2.2 0 rfl rfl 0 (by decide) (hts _ (kz_c mw_591)) (fun _ h9 => h9) rfl (by decide +kernel) rfl rfl (Nat.le_of_ble_eq_true rfl) zd_N_refused_18 (fun H locs hP hD hS => ?_)
      have hdy : kz_dy (dC, dI) vwCl A s.heap H locs [(o, .inr (4, [.int (nI (2)), .int sta, .ref mt, .ref mn, .ref ml, .ref mc, .ref mh, .ref mk, .ref mp, .ref mm, .ref mb, .ref mw, .ref mr, .ref mx, .ref me, .ref mP, .ref mQ, .ref ms, .int hs, .int (nI (sz_)), .ref mo, .ref mW, .ref mD, .ref mB, .ref mR, .ref mS]))] := ⟨hP, hD, hS⟩
      refine lv_aload_n hx hb zd_N_refused_21 rfl (lv_at hl 0 rfl) ?_
      refine va_get (D := (dC, dI)) (ci := 4) (v := .int (nI (2))) (C := zR_N) (T := zT_N) (N := 26) hx hb hts (fun w h => kz_c (zi_N w h)) hown hK hdy.1 0 rfl rfl 0 (by decide) (hts _ (kz_c mw_591)) (fun _ h9 => h9) rfl zd_N_refused_22 ?_
      refine lv_if_le (tgt := 32) hx hb zd_N_refused_25 (by decide) (fun hc25 => ?_) (fun hc25 => ?_)
      · exact absurd hc25 (by decide)
      · refine lv_iconst (v := (nI (1))) hx hb zd_N_refused_28 (by decide) ?_
        refine lv_goto (tgt := 33) hx hb zd_N_refused_29 (by decide) ?_
        exact kz_zret F ((nI (2))) hdy (by first | exact Or.inl rfl | exact Or.inr rfl | assumption) (⟨by first | rfl | omega, by first | assumption | rfl | omega, trivial⟩) zd_N_refused_33
  · exact absurd (by decide) hc2

set_option maxHeartbeats 4000000 in
set_option maxRecDepth 100000 in
/-- KeyMeetingModel.refused(ZZ)Z -/
theorem c_M_refused3 (l : Launch) (dC : Nat → ClassId) (dI : Nat → Nat → Nat) (cI cAA cB cL : ClassId) (o mt mn ml mc mh mk mp mm mb mw mr mx me mP mQ ms mo mW mD mB mR mS : Nat) (th : Int32) (sta : Int32) (hs : Int32) (sz_ : Nat) (sz : Nat) : Met l zy_N_refused zw_N_refused { frames := 0, cells := 0, slots := 0, locals := 0 } (kz_Pc (dC, dI) vwCl [(cI, .int), (cAA, .array .int), (cB, .byte), (cL, .long)] [] [] [.ref o, .int (nI (1)), .int (nI (1))] [(o, .inr (4, [.int th, .int sta, .ref mt, .ref mn, .ref ml, .ref mc, .ref mh, .ref mk, .ref mp, .ref mm, .ref mb, .ref mw, .ref mr, .ref mx, .ref me, .ref mP, .ref mQ, .ref ms, .int hs, .int (nI (sz_)), .ref mo, .ref mW, .ref mD, .ref mB, .ref mR, .ref mS]))] [] sz) (va_Qi (fun (r : Int32) (u : Int32) => (r = nI 1) ∧ (u = nI 1) ∧ True) (kz_B (dC, dI) vwCl (va_A [(o, .inr (4, [.int th, .int sta, .ref mt, .ref mn, .ref ml, .ref mc, .ref mh, .ref mk, .ref mp, .ref mm, .ref mb, .ref mw, .ref mr, .ref mx, .ref me, .ref mP, .ref mQ, .ref ms, .int hs, .int (nI (sz_)), .ref mo, .ref mW, .ref mD, .ref mB, .ref mR, .ref mS]))] sz) (fun u : Int32 => [(o, .inr (4, [.int u, .int sta, .ref mt, .ref mn, .ref ml, .ref mc, .ref mh, .ref mk, .ref mp, .ref mm, .ref mb, .ref mw, .ref mr, .ref mx, .ref me, .ref mP, .ref mQ, .ref ms, .int hs, .int (nI (sz_)), .ref mo, .ref mW, .ref mD, .ref mB, .ref mR, .ref mS]))])) (va_A [(o, .inr (4, [.int th, .int sta, .ref mt, .ref mn, .ref ml, .ref mc, .ref mh, .ref mk, .ref mp, .ref mm, .ref mb, .ref mw, .ref mr, .ref mx, .ref me, .ref mP, .ref mQ, .ref ms, .int hs, .int (nI (sz_)), .ref mo, .ref mW, .ref mD, .ref mB, .ref mR, .ref mS]))] sz)) 0 0 (va_A [(o, .inr (4, [.int th, .int sta, .ref mt, .ref mn, .ref ml, .ref mc, .ref mh, .ref mk, .ref mp, .ref mm, .ref mb, .ref mw, .ref mr, .ref mx, .ref me, .ref mP, .ref mQ, .ref ms, .int hs, .int (nI (sz_)), .ref mo, .ref mW, .ref mD, .ref mB, .ref mR, .ref mS]))] sz) := by
  refine kz_met (y := zy_N_refused) (ws := zw_N_refused) (av := [.ref o, .int (nI (1)), .int (nI (1))]) (sz := sz) (Qc := fun A => va_Qi (fun (r : Int32) (u : Int32) => (r = nI 1) ∧ (u = nI 1) ∧ True) (kz_B (dC, dI) vwCl A (fun u : Int32 => [(o, .inr (4, [.int u, .int sta, .ref mt, .ref mn, .ref ml, .ref mc, .ref mh, .ref mk, .ref mp, .ref mm, .ref mb, .ref mw, .ref mr, .ref mx, .ref me, .ref mP, .ref mQ, .ref ms, .int hs, .int (nI (sz_)), .ref mo, .ref mW, .ref mD, .ref mB, .ref mR, .ref mS]))])) A) (cc := zc_N_refused) (maxL := 3) (ret := some .boolean) (by decide) rfl (Nat.le_of_ble_eq_true rfl) ?_
  intro p e s m below meth c A ls F hA hdy hK hro hZ hN hl
  obtain ⟨hx, hb, hml, hr, hown, hlocks, hts, hnm⟩ := id F
  have hl : lv_has ls 3 [(0, .ref o), (1, .int (nI (1))), (2, .int (nI (1)))] := hl
  refine lv_aload_n hx hb zd_N_refused_0 rfl (lv_at hl 0 rfl) ?_
  refine lv_iload_n hx hb zd_N_refused_1 rfl (lv_at hl 1 rfl) ?_
  refine lv_if_eq (tgt := 9) hx hb zd_N_refused_2 (by decide) (fun hc2 => ?_) (fun hc2 => ?_)
  · exact absurd hc2 (by decide)
  · refine lv_iconst (v := (nI (1))) hx hb zd_N_refused_5 (by decide) ?_
    refine lv_goto (tgt := 18) hx hb zd_N_refused_6 (by decide) ?_
    refine va_put (D := (dC, dI)) (ci := 4) (v := .int (nI (1))) (ty := .int) (C := zR_N) (T := zT_N) (N := 26) hx hb hts (fun w h => kz_c (zi_N w h)) zt_N zo_N zn_N hown hK hdy.1 hdy.2.1 hdy.2.2 0 rfl rfl 0 (by decide) (hts _ (kz_c mw_591)) (fun _ h9 => h9) rfl (by decide +kernel) rfl rfl (Nat.le_of_ble_eq_true rfl) zd_N_refused_18 (fun H locs hP hD hS => ?_)
    have hdy : kz_dy (dC, dI) vwCl A s.heap H locs [(o, .inr (4, [.int (nI (1)), .int sta, .ref mt, .ref mn, .ref ml, .ref mc, .ref mh, .ref mk, .ref mp, .ref mm, .ref mb, .ref mw, .ref mr, .ref mx, .ref me, .ref mP, .ref mQ, .ref ms, .int hs, .int (nI (sz_)), .ref mo, .ref mW, .ref mD, .ref mB, .ref mR, .ref mS]))] := ⟨hP, hD, hS⟩
    refine lv_aload_n hx hb zd_N_refused_21 rfl (lv_at hl 0 rfl) ?_
    refine va_get (D := (dC, dI)) (ci := 4) (v := .int (nI (1))) (C := zR_N) (T := zT_N) (N := 26) hx hb hts (fun w h => kz_c (zi_N w h)) hown hK hdy.1 0 rfl rfl 0 (by decide) (hts _ (kz_c mw_591)) (fun _ h9 => h9) rfl zd_N_refused_22 ?_
    refine lv_if_le (tgt := 32) hx hb zd_N_refused_25 (by decide) (fun hc25 => ?_) (fun hc25 => ?_)
    · exact absurd hc25 (by decide)
    · refine lv_iconst (v := (nI (1))) hx hb zd_N_refused_28 (by decide) ?_
      refine lv_goto (tgt := 33) hx hb zd_N_refused_29 (by decide) ?_
      exact kz_zret F ((nI (1))) hdy (by first | exact Or.inl rfl | exact Or.inr rfl | assumption) (⟨by first | rfl | omega, by first | assumption | rfl | omega, trivial⟩) zd_N_refused_33

set_option maxHeartbeats 4000000 in
set_option maxRecDepth 100000 in
/-- KeyMeetingModel.refused(ZZ)Z -/
theorem c_M_refused0 (l : Launch) (dC : Nat → ClassId) (dI : Nat → Nat → Nat) (cI cAA cB cL : ClassId) (o mt mn ml mc mh mk mp mm mb mw mr mx me mP mQ ms mo mW mD mB mR mS : Nat) (th : Int32) (sta : Int32) (hs : Int32) (sz_ : Nat) (sz : Nat) : Met l zy_N_refused zw_N_refused { frames := 0, cells := 0, slots := 0, locals := 0 } (kz_Pc (dC, dI) vwCl [(cI, .int), (cAA, .array .int), (cB, .byte), (cL, .long)] [] [] [.ref o, .int (nI (0)), .int (nI (0))] [(o, .inr (4, [.int th, .int sta, .ref mt, .ref mn, .ref ml, .ref mc, .ref mh, .ref mk, .ref mp, .ref mm, .ref mb, .ref mw, .ref mr, .ref mx, .ref me, .ref mP, .ref mQ, .ref ms, .int hs, .int (nI (sz_)), .ref mo, .ref mW, .ref mD, .ref mB, .ref mR, .ref mS]))] [] sz) (va_Qi (fun (r : Int32) (u : Int32) => (r = nI 0) ∧ (u = nI 0) ∧ True) (kz_B (dC, dI) vwCl (va_A [(o, .inr (4, [.int th, .int sta, .ref mt, .ref mn, .ref ml, .ref mc, .ref mh, .ref mk, .ref mp, .ref mm, .ref mb, .ref mw, .ref mr, .ref mx, .ref me, .ref mP, .ref mQ, .ref ms, .int hs, .int (nI (sz_)), .ref mo, .ref mW, .ref mD, .ref mB, .ref mR, .ref mS]))] sz) (fun u : Int32 => [(o, .inr (4, [.int u, .int sta, .ref mt, .ref mn, .ref ml, .ref mc, .ref mh, .ref mk, .ref mp, .ref mm, .ref mb, .ref mw, .ref mr, .ref mx, .ref me, .ref mP, .ref mQ, .ref ms, .int hs, .int (nI (sz_)), .ref mo, .ref mW, .ref mD, .ref mB, .ref mR, .ref mS]))])) (va_A [(o, .inr (4, [.int th, .int sta, .ref mt, .ref mn, .ref ml, .ref mc, .ref mh, .ref mk, .ref mp, .ref mm, .ref mb, .ref mw, .ref mr, .ref mx, .ref me, .ref mP, .ref mQ, .ref ms, .int hs, .int (nI (sz_)), .ref mo, .ref mW, .ref mD, .ref mB, .ref mR, .ref mS]))] sz)) 0 0 (va_A [(o, .inr (4, [.int th, .int sta, .ref mt, .ref mn, .ref ml, .ref mc, .ref mh, .ref mk, .ref mp, .ref mm, .ref mb, .ref mw, .ref mr, .ref mx, .ref me, .ref mP, .ref mQ, .ref ms, .int hs, .int (nI (sz_)), .ref mo, .ref mW, .ref mD, .ref mB, .ref mR, .ref mS]))] sz) := by
  refine kz_met (y := zy_N_refused) (ws := zw_N_refused) (av := [.ref o, .int (nI (0)), .int (nI (0))]) (sz := sz) (Qc := fun A => va_Qi (fun (r : Int32) (u : Int32) => (r = nI 0) ∧ (u = nI 0) ∧ True) (kz_B (dC, dI) vwCl A (fun u : Int32 => [(o, .inr (4, [.int u, .int sta, .ref mt, .ref mn, .ref ml, .ref mc, .ref mh, .ref mk, .ref mp, .ref mm, .ref mb, .ref mw, .ref mr, .ref mx, .ref me, .ref mP, .ref mQ, .ref ms, .int hs, .int (nI (sz_)), .ref mo, .ref mW, .ref mD, .ref mB, .ref mR, .ref mS]))])) A) (cc := zc_N_refused) (maxL := 3) (ret := some .boolean) (by decide) rfl (Nat.le_of_ble_eq_true rfl) ?_
  intro p e s m below meth c A ls F hA hdy hK hro hZ hN hl
  obtain ⟨hx, hb, hml, hr, hown, hlocks, hts, hnm⟩ := id F
  have hl : lv_has ls 3 [(0, .ref o), (1, .int (nI (0))), (2, .int (nI (0)))] := hl
  refine lv_aload_n hx hb zd_N_refused_0 rfl (lv_at hl 0 rfl) ?_
  refine lv_iload_n hx hb zd_N_refused_1 rfl (lv_at hl 1 rfl) ?_
  refine lv_if_eq (tgt := 9) hx hb zd_N_refused_2 (by decide) (fun hc2 => ?_) (fun hc2 => ?_)
  · refine lv_iload_n hx hb zd_N_refused_9 rfl (lv_at hl 2 rfl) ?_
    refine lv_if_eq (tgt := 17) hx hb zd_N_refused_10 (by decide) (fun hc10 => ?_) (fun hc10 => ?_)
    · refine lv_iconst (v := (nI (0))) hx hb zd_N_refused_17 (by decide) ?_
      refine va_put (D := (dC, dI)) (ci := 4) (v := .int (nI (0))) (ty := .int) (C := zR_N) (T := zT_N) (N := 26) hx hb hts (fun w h => kz_c (zi_N w h)) zt_N zo_N zn_N hown hK hdy.1 hdy.2.1 hdy.2.2 0 rfl rfl 0 (by decide) (hts _ (kz_c mw_591)) (fun _ h9 => h9) rfl (by decide +kernel) rfl rfl (Nat.le_of_ble_eq_true rfl) zd_N_refused_18 (fun H locs hP hD hS => ?_)
      have hdy : kz_dy (dC, dI) vwCl A s.heap H locs [(o, .inr (4, [.int (nI (0)), .int sta, .ref mt, .ref mn, .ref ml, .ref mc, .ref mh, .ref mk, .ref mp, .ref mm, .ref mb, .ref mw, .ref mr, .ref mx, .ref me, .ref mP, .ref mQ, .ref ms, .int hs, .int (nI (sz_)), .ref mo, .ref mW, .ref mD, .ref mB, .ref mR, .ref mS]))] := ⟨hP, hD, hS⟩
      refine lv_aload_n hx hb zd_N_refused_21 rfl (lv_at hl 0 rfl) ?_
      refine va_get (D := (dC, dI)) (ci := 4) (v := .int (nI (0))) (C := zR_N) (T := zT_N) (N := 26) hx hb hts (fun w h => kz_c (zi_N w h)) hown hK hdy.1 0 rfl rfl 0 (by decide) (hts _ (kz_c mw_591)) (fun _ h9 => h9) rfl zd_N_refused_22 ?_
      refine lv_if_le (tgt := 32) hx hb zd_N_refused_25 (by decide) (fun hc25 => ?_) (fun hc25 => ?_)
      · refine lv_iconst (v := (nI (0))) hx hb zd_N_refused_32 (by decide) ?_
        exact kz_zret F ((nI (0))) hdy (by first | exact Or.inl rfl | exact Or.inr rfl | assumption) (⟨by first | rfl | omega, by first | assumption | rfl | omega, trivial⟩) zd_N_refused_33
      · exact absurd (by decide) hc25
    · exact absurd (by decide) hc10
  · exact absurd (by decide) hc2

set_option maxHeartbeats 4000000 in
set_option maxRecDepth 100000 in
/-- KeyMeetingModel.isNone(II)Z -/
theorem c_M_isNone0 (l : Launch) (dC : Nat → ClassId) (dI : Nat → Nat → Nat) (cI cAA cB cL : ClassId) (w_ : Nat) (i_ : Nat) (sz : Nat) (hw_ : w_ < 4) (hi_ : i_ < 8) : Met l zy_N_isNone zw_N_isNone { frames := 0, cells := 0, slots := 0, locals := 0 } (kz_Pc (dC, dI) vwCl [(cI, .int), (cAA, .array .int), (cB, .byte), (cL, .long)] [] [] [.int (nI (w_)), .int (nI (i_))] [] [] sz) (va_Qi (fun (r : Int32) (u : Unit) => (r = nI 0) ∧ True) (kz_B (dC, dI) vwCl (va_A [] sz) (fun u : Unit => [])) (va_A [] sz)) 0 0 (va_A [] sz) := by
  refine kz_met (y := zy_N_isNone) (ws := zw_N_isNone) (av := [.int (nI (w_)), .int (nI (i_))]) (sz := sz) (Qc := fun A => va_Qi (fun (r : Int32) (u : Unit) => (r = nI 0) ∧ True) (kz_B (dC, dI) vwCl A (fun u : Unit => [])) A) (cc := zc_N_isNone) (maxL := 2) (ret := some .boolean) (by decide) rfl (Nat.le_of_ble_eq_true rfl) ?_
  intro p e s m below meth c A ls F hA hdy hK hro hZ hN hl
  obtain ⟨hx, hb, hml, hr, hown, hlocks, hts, hnm⟩ := id F
  have hl : lv_has ls 2 [(0, .int (nI (w_))), (1, .int (nI (i_)))] := hl
  refine lv_iload_n hx hb zd_N_isNone_0 rfl (lv_at hl 0 rfl) ?_
  refine lv_if_lt (tgt := 19) hx hb zd_N_isNone_1 (by decide) (fun hc1 => ?_) (fun hc1 => ?_)
  · exact absurd hc1 (nI_pos (by omega))
  · refine lv_iload_n hx hb zd_N_isNone_4 rfl (lv_at hl 0 rfl) ?_
    refine lv_iconst (v := (nI (3))) hx hb zd_N_isNone_5 (by decide) ?_
    refine lv_icmp_gt (tgt := 19) hx hb zd_N_isNone_6 (by decide) (fun hc6 => ?_) (fun hc6 => ?_)
    · have hc6 : 3 < w_ := (nI_ltI (by omega) (by omega)).mp hc6
      refine lv_iconst (v := (nI (1))) hx hb zd_N_isNone_19 (by decide) ?_
      refine lv_goto (tgt := 24) hx hb zd_N_isNone_20 (by decide) ?_
      exact kz_zret F () hdy (by first | exact Or.inl rfl | exact Or.inr rfl | assumption) (⟨by first | rfl | omega, trivial⟩) zd_N_isNone_24
    · have hc6 : ¬ 3 < w_ := fun h9 => hc6 ((nI_ltI (by omega) (by omega)).mpr h9)
      refine lv_iload_n hx hb zd_N_isNone_9 rfl (lv_at hl 1 rfl) ?_
      refine lv_if_lt (tgt := 19) hx hb zd_N_isNone_10 (by decide) (fun hc10 => ?_) (fun hc10 => ?_)
      · exact absurd hc10 (nI_pos (by omega))
      · refine lv_iload_n hx hb zd_N_isNone_13 rfl (lv_at hl 1 rfl) ?_
        refine lv_bipush (v := (nI (7))) hx hb zd_N_isNone_14 (by decide) ?_
        refine lv_icmp_le (tgt := 23) hx hb zd_N_isNone_16 (by decide) (fun hc16 => ?_) (fun hc16 => ?_)
        · have hc16 : i_ ≤ 7 := (nI_leI (by omega) (by omega)).mp hc16
          refine lv_iconst (v := (nI (0))) hx hb zd_N_isNone_23 (by decide) ?_
          exact kz_zret F () hdy (by first | exact Or.inl rfl | exact Or.inr rfl | assumption) (⟨by first | rfl | omega, trivial⟩) zd_N_isNone_24
        · have hc16 : ¬ i_ ≤ 7 := fun h9 => hc16 ((nI_leI (by omega) (by omega)).mpr h9)
          refine lv_iconst (v := (nI (1))) hx hb zd_N_isNone_19 (by decide) ?_
          refine lv_goto (tgt := 24) hx hb zd_N_isNone_20 (by decide) ?_
          exact kz_zret F () hdy (by first | exact Or.inl rfl | exact Or.inr rfl | assumption) (⟨by first | rfl | omega, trivial⟩) zd_N_isNone_24

set_option maxHeartbeats 4000000 in
set_option maxRecDepth 100000 in
/-- KeyMeetingModel.state()I -/
theorem c_M_state (l : Launch) (dC : Nat → ClassId) (dI : Nat → Nat → Nat) (cI cAA cB cL : ClassId) (o mt mn ml mc mh mk mp mm mb mw mr mx me mP mQ ms mo mW mD mB mR mS : Nat) (th : Int32) (sta : Int32) (hs : Int32) (sz_ : Nat) (sz : Nat) : Met l zy_N_state zw_N_state { frames := 0, cells := 0, slots := 0, locals := 0 } (kz_Pc (dC, dI) vwCl [(cI, .int), (cAA, .array .int), (cB, .byte), (cL, .long)] [] [] [.ref o] [(o, .inr (4, [.int th, .int sta, .ref mt, .ref mn, .ref ml, .ref mc, .ref mh, .ref mk, .ref mp, .ref mm, .ref mb, .ref mw, .ref mr, .ref mx, .ref me, .ref mP, .ref mQ, .ref ms, .int hs, .int (nI (sz_)), .ref mo, .ref mW, .ref mD, .ref mB, .ref mR, .ref mS]))] [] sz) (va_Qi (fun (r : Int32) (u : Int32) => (r = sta) ∧ True) (kz_B (dC, dI) vwCl (va_A [(o, .inr (4, [.int th, .int sta, .ref mt, .ref mn, .ref ml, .ref mc, .ref mh, .ref mk, .ref mp, .ref mm, .ref mb, .ref mw, .ref mr, .ref mx, .ref me, .ref mP, .ref mQ, .ref ms, .int hs, .int (nI (sz_)), .ref mo, .ref mW, .ref mD, .ref mB, .ref mR, .ref mS]))] sz) (fun u : Int32 => [(o, .inr (4, [.int u, .int sta, .ref mt, .ref mn, .ref ml, .ref mc, .ref mh, .ref mk, .ref mp, .ref mm, .ref mb, .ref mw, .ref mr, .ref mx, .ref me, .ref mP, .ref mQ, .ref ms, .int hs, .int (nI (sz_)), .ref mo, .ref mW, .ref mD, .ref mB, .ref mR, .ref mS]))])) (va_A [(o, .inr (4, [.int th, .int sta, .ref mt, .ref mn, .ref ml, .ref mc, .ref mh, .ref mk, .ref mp, .ref mm, .ref mb, .ref mw, .ref mr, .ref mx, .ref me, .ref mP, .ref mQ, .ref ms, .int hs, .int (nI (sz_)), .ref mo, .ref mW, .ref mD, .ref mB, .ref mR, .ref mS]))] sz)) 0 0 (va_A [(o, .inr (4, [.int th, .int sta, .ref mt, .ref mn, .ref ml, .ref mc, .ref mh, .ref mk, .ref mp, .ref mm, .ref mb, .ref mw, .ref mr, .ref mx, .ref me, .ref mP, .ref mQ, .ref ms, .int hs, .int (nI (sz_)), .ref mo, .ref mW, .ref mD, .ref mB, .ref mR, .ref mS]))] sz) := by
  refine kz_met (y := zy_N_state) (ws := zw_N_state) (av := [.ref o]) (sz := sz) (Qc := fun A => va_Qi (fun (r : Int32) (u : Int32) => (r = sta) ∧ True) (kz_B (dC, dI) vwCl A (fun u : Int32 => [(o, .inr (4, [.int u, .int sta, .ref mt, .ref mn, .ref ml, .ref mc, .ref mh, .ref mk, .ref mp, .ref mm, .ref mb, .ref mw, .ref mr, .ref mx, .ref me, .ref mP, .ref mQ, .ref ms, .int hs, .int (nI (sz_)), .ref mo, .ref mW, .ref mD, .ref mB, .ref mR, .ref mS]))])) A) (cc := zc_N_state) (maxL := 1) (ret := some .int) (by decide) rfl (Nat.le_of_ble_eq_true rfl) ?_
  intro p e s m below meth c A ls F hA hdy hK hro hZ hN hl
  obtain ⟨hx, hb, hml, hr, hown, hlocks, hts, hnm⟩ := id F
  have hl : lv_has ls 1 [(0, .ref o)] := hl
  refine lv_aload_n hx hb zd_N_state_0 rfl (lv_at hl 0 rfl) ?_
  refine lv_iconst (v := (nI (0))) hx hb zd_N_state_1 (by decide) ?_
  refine va_put (D := (dC, dI)) (ci := 4) (v := .int (nI (0))) (ty := .int) (C := zR_N) (T := zT_N) (N := 26) hx hb hts (fun w h => kz_c (zi_N w h)) zt_N zo_N zn_N hown hK hdy.1 hdy.2.1 hdy.2.2 0 rfl rfl 0 (by decide) (hts _ (kz_c mw_591)) (fun _ h9 => h9) rfl (by decide +kernel) rfl rfl (Nat.le_of_ble_eq_true rfl) zd_N_state_2 (fun H locs hP hD hS => ?_)
  have hdy : kz_dy (dC, dI) vwCl A s.heap H locs [(o, .inr (4, [.int (nI (0)), .int sta, .ref mt, .ref mn, .ref ml, .ref mc, .ref mh, .ref mk, .ref mp, .ref mm, .ref mb, .ref mw, .ref mr, .ref mx, .ref me, .ref mP, .ref mQ, .ref ms, .int hs, .int (nI (sz_)), .ref mo, .ref mW, .ref mD, .ref mB, .ref mR, .ref mS]))] := ⟨hP, hD, hS⟩
  refine lv_aload_n hx hb zd_N_state_5 rfl (lv_at hl 0 rfl) ?_
  refine va_get (D := (dC, dI)) (ci := 4) (v := .int sta) (C := zR_N) (T := zT_N) (N := 26) hx hb hts (fun w h => kz_c (zi_N w h)) hown hK hdy.1 0 rfl rfl 1 (by decide) (hts _ (kz_c mw_592)) (fun _ h9 => h9) rfl zd_N_state_6 ?_
  exact kz_iret F ((nI (0))) hdy (⟨by first | assumption | rfl | omega, trivial⟩) zd_N_state_9

set_option maxHeartbeats 4000000 in
set_option maxRecDepth 100000 in
/-- KeyMeetingModel.fail(I)I -/
theorem c_M_fail (l : Launch) (dC : Nat → ClassId) (dI : Nat → Nat → Nat) (cI cAA cB cL : ClassId) (o mt mn ml mc mh mk mp mm mb mw mr mx me mP mQ ms mo mW mD mB mR mS : Nat) (th : Int32) (sta : Int32) (hs : Int32) (sz_ : Nat) (ft : Nat) (sz : Nat) : Met l zy_N_fail zw_N_fail { frames := 0, cells := 0, slots := 0, locals := 0 } (kz_Pc (dC, dI) vwCl [(cI, .int), (cAA, .array .int), (cB, .byte), (cL, .long)] [] [] [.ref o, .int (nI (ft))] [(o, .inr (4, [.int th, .int sta, .ref mt, .ref mn, .ref ml, .ref mc, .ref mh, .ref mk, .ref mp, .ref mm, .ref mb, .ref mw, .ref mr, .ref mx, .ref me, .ref mP, .ref mQ, .ref ms, .int hs, .int (nI (sz_)), .ref mo, .ref mW, .ref mD, .ref mB, .ref mR, .ref mS]))] [] sz) (va_Qi (fun (r : Int32) (u : Int32 × Int32) => (u.2 = -(nI ft)) ∧ (r = -(nI ft)) ∧ True) (kz_B (dC, dI) vwCl (va_A [(o, .inr (4, [.int th, .int sta, .ref mt, .ref mn, .ref ml, .ref mc, .ref mh, .ref mk, .ref mp, .ref mm, .ref mb, .ref mw, .ref mr, .ref mx, .ref me, .ref mP, .ref mQ, .ref ms, .int hs, .int (nI (sz_)), .ref mo, .ref mW, .ref mD, .ref mB, .ref mR, .ref mS]))] sz) (fun u : Int32 × Int32 => [(o, .inr (4, [.int u.1, .int u.2, .ref mt, .ref mn, .ref ml, .ref mc, .ref mh, .ref mk, .ref mp, .ref mm, .ref mb, .ref mw, .ref mr, .ref mx, .ref me, .ref mP, .ref mQ, .ref ms, .int hs, .int (nI (sz_)), .ref mo, .ref mW, .ref mD, .ref mB, .ref mR, .ref mS]))])) (va_A [(o, .inr (4, [.int th, .int sta, .ref mt, .ref mn, .ref ml, .ref mc, .ref mh, .ref mk, .ref mp, .ref mm, .ref mb, .ref mw, .ref mr, .ref mx, .ref me, .ref mP, .ref mQ, .ref ms, .int hs, .int (nI (sz_)), .ref mo, .ref mW, .ref mD, .ref mB, .ref mR, .ref mS]))] sz)) 0 0 (va_A [(o, .inr (4, [.int th, .int sta, .ref mt, .ref mn, .ref ml, .ref mc, .ref mh, .ref mk, .ref mp, .ref mm, .ref mb, .ref mw, .ref mr, .ref mx, .ref me, .ref mP, .ref mQ, .ref ms, .int hs, .int (nI (sz_)), .ref mo, .ref mW, .ref mD, .ref mB, .ref mR, .ref mS]))] sz) := by
  refine kz_met (y := zy_N_fail) (ws := zw_N_fail) (av := [.ref o, .int (nI (ft))]) (sz := sz) (Qc := fun A => va_Qi (fun (r : Int32) (u : Int32 × Int32) => (u.2 = -(nI ft)) ∧ (r = -(nI ft)) ∧ True) (kz_B (dC, dI) vwCl A (fun u : Int32 × Int32 => [(o, .inr (4, [.int u.1, .int u.2, .ref mt, .ref mn, .ref ml, .ref mc, .ref mh, .ref mk, .ref mp, .ref mm, .ref mb, .ref mw, .ref mr, .ref mx, .ref me, .ref mP, .ref mQ, .ref ms, .int hs, .int (nI (sz_)), .ref mo, .ref mW, .ref mD, .ref mB, .ref mR, .ref mS]))])) A) (cc := zc_N_fail) (maxL := 2) (ret := some .int) (by decide) rfl (Nat.le_of_ble_eq_true rfl) ?_
  intro p e s m below meth c A ls F hA hdy hK hro hZ hN hl
  obtain ⟨hx, hb, hml, hr, hown, hlocks, hts, hnm⟩ := id F
  have hl : lv_has ls 2 [(0, .ref o), (1, .int (nI (ft)))] := hl
  refine lv_aload_n hx hb zd_N_fail_0 rfl (lv_at hl 0 rfl) ?_
  refine lv_iload_n hx hb zd_N_fail_1 rfl (lv_at hl 1 rfl) ?_
  refine lv_ineg hx hb zd_N_fail_2 ?_
  refine lv_topi (fun x1 hn_x1 => ?_)
  refine va_put (D := (dC, dI)) (ci := 4) (v := .int x1) (ty := .int) (C := zR_N) (T := zT_N) (N := 26) hx hb hts (fun w h => kz_c (zi_N w h)) zt_N zo_N zn_N hown hK hdy.1 hdy.2.1 hdy.2.2 0 rfl rfl 1 (by decide) (hts _ (kz_c mw_592)) (fun _ h9 => h9) rfl (by decide +kernel) rfl rfl (Nat.le_of_ble_eq_true rfl) zd_N_fail_3 (fun H locs hP hD hS => ?_)
  have hdy : kz_dy (dC, dI) vwCl A s.heap H locs [(o, .inr (4, [.int th, .int x1, .ref mt, .ref mn, .ref ml, .ref mc, .ref mh, .ref mk, .ref mp, .ref mm, .ref mb, .ref mw, .ref mr, .ref mx, .ref me, .ref mP, .ref mQ, .ref ms, .int hs, .int (nI (sz_)), .ref mo, .ref mW, .ref mD, .ref mB, .ref mR, .ref mS]))] := ⟨hP, hD, hS⟩
  refine lv_iload_n hx hb zd_N_fail_6 rfl (lv_at hl 1 rfl) ?_
  refine lv_ineg hx hb zd_N_fail_7 ?_
  refine lv_topi (fun x2 hn_x2 => ?_)
  exact kz_iret F (th, x1) hdy (⟨by exact hn_x1, by exact hn_x2, trivial⟩) zd_N_fail_8

set_option maxHeartbeats 4000000 in
set_option maxRecDepth 100000 in
/-- KeyMeetingModel.begin()V -/
theorem c_M_begin (l : Launch) (dC : Nat → ClassId) (dI : Nat → Nat → Nat) (cI cAA cB cL : ClassId) (o mt mn ml mc mh mk mp mm mb mw mr mx me mP mQ ms mo mW mD mB mR mS : Nat) (th : Int32) (sta : Int32) (hs : Int32) (sz_ : Nat) (gmn : Nat → Int32) (sz : Nat) : Met l zy_N_begin zw_N_begin { frames := 0, cells := 0, slots := 0, locals := 0 } (kz_Pc (dC, dI) vwCl [(cI, .int), (cAA, .array .int), (cB, .byte), (cL, .long)] [] [] [.ref o] [(o, .inr (4, [.int th, .int sta, .ref mt, .ref mn, .ref ml, .ref mc, .ref mh, .ref mk, .ref mp, .ref mm, .ref mb, .ref mw, .ref mr, .ref mx, .ref me, .ref mP, .ref mQ, .ref ms, .int hs, .int (nI (sz_)), .ref mo, .ref mW, .ref mD, .ref mB, .ref mR, .ref mS])), (mn, .inl (cI, 32, .inl gmn))] [] sz) (va_Qv (fun (u : Int32 × Int32 × (Nat → Int32)) => (u.2.1 = nI 0) ∧ True) (kz_B (dC, dI) vwCl (va_A [(o, .inr (4, [.int th, .int sta, .ref mt, .ref mn, .ref ml, .ref mc, .ref mh, .ref mk, .ref mp, .ref mm, .ref mb, .ref mw, .ref mr, .ref mx, .ref me, .ref mP, .ref mQ, .ref ms, .int hs, .int (nI (sz_)), .ref mo, .ref mW, .ref mD, .ref mB, .ref mR, .ref mS])), (mn, .inl (cI, 32, .inl gmn))] sz) (fun u : Int32 × Int32 × (Nat → Int32) => [(o, .inr (4, [.int u.1, .int u.2.1, .ref mt, .ref mn, .ref ml, .ref mc, .ref mh, .ref mk, .ref mp, .ref mm, .ref mb, .ref mw, .ref mr, .ref mx, .ref me, .ref mP, .ref mQ, .ref ms, .int hs, .int (nI (sz_)), .ref mo, .ref mW, .ref mD, .ref mB, .ref mR, .ref mS])), (mn, .inl (cI, 32, .inl u.2.2))])) (va_A [(o, .inr (4, [.int th, .int sta, .ref mt, .ref mn, .ref ml, .ref mc, .ref mh, .ref mk, .ref mp, .ref mm, .ref mb, .ref mw, .ref mr, .ref mx, .ref me, .ref mP, .ref mQ, .ref ms, .int hs, .int (nI (sz_)), .ref mo, .ref mW, .ref mD, .ref mB, .ref mR, .ref mS])), (mn, .inl (cI, 32, .inl gmn))] sz)) 0 0 (va_A [(o, .inr (4, [.int th, .int sta, .ref mt, .ref mn, .ref ml, .ref mc, .ref mh, .ref mk, .ref mp, .ref mm, .ref mb, .ref mw, .ref mr, .ref mx, .ref me, .ref mP, .ref mQ, .ref ms, .int hs, .int (nI (sz_)), .ref mo, .ref mW, .ref mD, .ref mB, .ref mR, .ref mS])), (mn, .inl (cI, 32, .inl gmn))] sz) := by
  refine kz_met (y := zy_N_begin) (ws := zw_N_begin) (av := [.ref o]) (sz := sz) (Qc := fun A => va_Qv (fun (u : Int32 × Int32 × (Nat → Int32)) => (u.2.1 = nI 0) ∧ True) (kz_B (dC, dI) vwCl A (fun u : Int32 × Int32 × (Nat → Int32) => [(o, .inr (4, [.int u.1, .int u.2.1, .ref mt, .ref mn, .ref ml, .ref mc, .ref mh, .ref mk, .ref mp, .ref mm, .ref mb, .ref mw, .ref mr, .ref mx, .ref me, .ref mP, .ref mQ, .ref ms, .int hs, .int (nI (sz_)), .ref mo, .ref mW, .ref mD, .ref mB, .ref mR, .ref mS])), (mn, .inl (cI, 32, .inl u.2.2))])) A) (cc := zc_N_begin) (maxL := 2) (ret := none) (by decide) rfl (Nat.le_of_ble_eq_true rfl) ?_
  intro p e s m below meth c A ls F hA hdy hK hro hZ hN hl
  obtain ⟨hx, hb, hml, hr, hown, hlocks, hts, hnm⟩ := id F
  have hl : lv_has ls 2 [(0, .ref o)] := hl
  refine lv_aload_n hx hb zd_N_begin_0 rfl (lv_at hl 0 rfl) ?_
  refine lv_iconst (v := (nI (0))) hx hb zd_N_begin_1 (by decide) ?_
  refine va_put (D := (dC, dI)) (ci := 4) (v := .int (nI (0))) (ty := .int) (C := zR_N) (T := zT_N) (N := 26) hx hb hts (fun w h => kz_c (zi_N w h)) zt_N zo_N zn_N hown hK hdy.1 hdy.2.1 hdy.2.2 0 rfl rfl 0 (by decide) (hts _ (kz_c mw_591)) (fun _ h9 => h9) rfl (by decide +kernel) rfl rfl (Nat.le_of_ble_eq_true rfl) zd_N_begin_2 (fun H locs hP hD hS => ?_)
  have hdy : kz_dy (dC, dI) vwCl A s.heap H locs [(o, .inr (4, [.int (nI (0)), .int sta, .ref mt, .ref mn, .ref ml, .ref mc, .ref mh, .ref mk, .ref mp, .ref mm, .ref mb, .ref mw, .ref mr, .ref mx, .ref me, .ref mP, .ref mQ, .ref ms, .int hs, .int (nI (sz_)), .ref mo, .ref mW, .ref mD, .ref mB, .ref mR, .ref mS])), (mn, .inl (cI, 32, .inl gmn))] := ⟨hP, hD, hS⟩
  refine lv_aload_n hx hb zd_N_begin_5 rfl (lv_at hl 0 rfl) ?_
  refine lv_iconst (v := (nI (0))) hx hb zd_N_begin_6 (by decide) ?_
  refine va_put (D := (dC, dI)) (ci := 4) (v := .int (nI (0))) (ty := .int) (C := zR_N) (T := zT_N) (N := 26) hx hb hts (fun w h => kz_c (zi_N w h)) zt_N zo_N zn_N hown hK hdy.1 hdy.2.1 hdy.2.2 0 rfl rfl 1 (by decide) (hts _ (kz_c mw_592)) (fun _ h9 => h9) rfl (by decide +kernel) rfl rfl (Nat.le_of_ble_eq_true rfl) zd_N_begin_7 (fun H locs hP hD hS => ?_)
  have hdy : kz_dy (dC, dI) vwCl A s.heap H locs [(o, .inr (4, [.int (nI (0)), .int (nI (0)), .ref mt, .ref mn, .ref ml, .ref mc, .ref mh, .ref mk, .ref mp, .ref mm, .ref mb, .ref mw, .ref mr, .ref mx, .ref me, .ref mP, .ref mQ, .ref ms, .int hs, .int (nI (sz_)), .ref mo, .ref mW, .ref mD, .ref mB, .ref mR, .ref mS])), (mn, .inl (cI, 32, .inl gmn))] := ⟨hP, hD, hS⟩
  refine lv_iconst (v := (nI (0))) hx hb zd_N_begin_10 (by decide) ?_
  refine lv_istore_n (lv' := [(1, .int (nI (0))), (0, .ref o)]) hx hb zd_N_begin_11 rfl hl (by decide) rfl (fun ls hl => ?_)
  have lp12 : ∀ (n12 k12 : Nat) (f1 : Nat → Int32) (H : Heap) (locs : List Loc) (ls : Array Slot), k12 ≤ 32 → 32 - k12 < n12 → kz_dy (dC, dI) vwCl A s.heap H locs [(o, .inr (4, [.int (nI (0)), .int (nI (0)), .ref mt, .ref mn, .ref ml, .ref mc, .ref mh, .ref mk, .ref mp, .ref mm, .ref mb, .ref mw, .ref mr, .ref mx, .ref me, .ref mP, .ref mQ, .ref ms, .int hs, .int (nI (sz_)), .ref mo, .ref mW, .ref mD, .ref mB, .ref mR, .ref mS])), (mn, .inl (cI, 32, .inl f1))] → lv_has ls 2 [(1, .int (nI (k12))), (0, .ref o)] → W p l e { frames := 0, cells := 0, slots := 0, locals := 0 } s m ([.ref o] : List Value).toArray below meth c H locs 0 0 (MQ below (va_Qv (fun (u : Int32 × Int32 × (Nat → Int32)) => (u.2.1 = nI 0) ∧ True) (kz_B (dC, dI) vwCl A (fun u : Int32 × Int32 × (Nat → Int32) => [(o, .inr (4, [.int u.1, .int u.2.1, .ref mt, .ref mn, .ref ml, .ref mc, .ref mh, .ref mk, .ref mp, .ref mm, .ref mb, .ref mw, .ref mr, .ref mx, .ref me, .ref mP, .ref mQ, .ref ms, .int hs, .int (nI (sz_)), .ref mo, .ref mW, .ref mD, .ref mB, .ref mR, .ref mS])), (mn, .inl (cI, 32, .inl u.2.2))])) A) ([.ref o] : List Value).toArray s 0 0 A) (F0 m 12 ls []) := by
    intro n12
    induction n12 with
    | zero => intro k12; intros; omega
    | succ n12 ih12 =>
      intro k12 f1 H locs ls hi12 hn12 hdy hl
      refine lv_iload_n hx hb zd_N_begin_12 rfl (lv_at hl 0 rfl) ?_
      refine lv_bipush (v := (nI (32))) hx hb zd_N_begin_13 (by decide) ?_
      refine lv_icmp_ge (tgt := 31) hx hb zd_N_begin_15 (by decide) (fun hc15 => ?_) (fun hc15 => ?_)
      · have hc15 : 32 ≤ k12 := (nI_leI (by omega) (by omega)).mp hc15
        exact kz_vret F ((nI (0)), (nI (0)), f1) hdy (⟨by first | assumption | rfl | omega, trivial⟩) zd_N_begin_31
      · have hc15 : ¬ 32 ≤ k12 := fun h9 => hc15 ((nI_leI (by omega) (by omega)).mpr h9)
        refine lv_aload_n hx hb zd_N_begin_18 rfl (lv_at hl 1 rfl) ?_
        refine va_get (D := (dC, dI)) (ci := 4) (v := .ref mn) (C := zR_N) (T := zT_N) (N := 26) hx hb hts (fun w h => kz_c (zi_N w h)) hown hK hdy.1 0 rfl rfl 3 (by decide) (hts _ (kz_c mw_594)) (fun _ h9 => h9) rfl zd_N_begin_19 ?_
        refine lv_iload_n hx hb zd_N_begin_22 rfl (lv_at hl 0 rfl) ?_
        refine lv_iconst (v := (nI (0))) hx hb zd_N_begin_23 (by decide) ?_
        refine va_iast hx hb hK hdy.1 hdy.2.1 hdy.2.2 1 0 rfl rfl (vp_in_nI (by omega) (by omega)) zd_N_begin_24 (fun H locs hP hD hS => ?_)
        obtain ⟨f2, hdy⟩ : ∃ f2 : Nat → Int32, kz_dy (dC, dI) vwCl A s.heap H locs [(o, .inr (4, [.int (nI (0)), .int (nI (0)), .ref mt, .ref mn, .ref ml, .ref mc, .ref mh, .ref mk, .ref mp, .ref mm, .ref mb, .ref mw, .ref mr, .ref mx, .ref me, .ref mP, .ref mQ, .ref ms, .int hs, .int (nI (sz_)), .ref mo, .ref mW, .ref mD, .ref mB, .ref mR, .ref mS])), (mn, .inl (cI, 32, .inl f2))] := ⟨_, hP, hD, hS⟩
        refine lv_iinc (v := (nI (k12 + 1))) (lv' := [(1, .int (nI (k12 + 1))), (0, .ref o)]) hx hb zd_N_begin_25 hl (k := 0) rfl (nI_1 _) (by decide) rfl (fun ls hl => ?_)
        refine lv_goto (tgt := 12) hx hb zd_N_begin_28 (by decide) ?_
        exact ih12 (k12 + 1) f2 _ _ _ (by omega) (by omega) hdy (lv_sub hl [0, 1] rfl)
  exact lp12 (32 - 0 + 1) 0 gmn _ _ _ (by omega) (by omega) hdy (lv_sub hl [0, 1] rfl)

set_option maxHeartbeats 4000000 in
set_option maxRecDepth 100000 in
/-- KeyMeetingModel.isNone(II)Z -/
theorem c_R_isNone1 (l : Launch) (dC : Nat → ClassId) (dI : Nat → Nat → Nat) (cI cAA cB cL : ClassId) (w_ : Int32) (i_ : Int32) (sz : Nat) (hbad : w_ < 0 ∨ nI 3 < w_ ∨ i_ < 0 ∨ nI 7 < i_) : Met l zy_N_isNone zw_N_isNone { frames := 0, cells := 0, slots := 0, locals := 0 } (kz_Pc (dC, dI) vwCl [(cI, .int), (cAA, .array .int), (cB, .byte), (cL, .long)] [] [] [.int w_, .int i_] [] [] sz) (va_Qi (fun (r : Int32) (u : Unit) => (r = nI 1) ∧ True) (kz_B (dC, dI) vwCl (va_A [] sz) (fun u : Unit => [])) (va_A [] sz)) 0 0 (va_A [] sz) := by
  refine kz_met (y := zy_N_isNone) (ws := zw_N_isNone) (av := [.int w_, .int i_]) (sz := sz) (Qc := fun A => va_Qi (fun (r : Int32) (u : Unit) => (r = nI 1) ∧ True) (kz_B (dC, dI) vwCl A (fun u : Unit => [])) A) (cc := zc_N_isNone) (maxL := 2) (ret := some .boolean) (by decide) rfl (Nat.le_of_ble_eq_true rfl) ?_
  intro p e s m below meth c A ls F hA hdy hK hro hZ hN hl
  obtain ⟨hx, hb, hml, hr, hown, hlocks, hts, hnm⟩ := id F
  have hl : lv_has ls 2 [(0, .int w_), (1, .int i_)] := hl
  refine lv_iload_n hx hb zd_N_isNone_0 rfl (lv_at hl 0 rfl) ?_
  refine lv_if_lt (tgt := 19) hx hb zd_N_isNone_1 (by decide) (fun hc1 => ?_) (fun hc1 => ?_)
  · refine lv_iconst (v := (nI (1))) hx hb zd_N_isNone_19 (by decide) ?_
    refine lv_goto (tgt := 24) hx hb zd_N_isNone_20 (by decide) ?_
    exact kz_zret F () hdy (by first | exact Or.inl rfl | exact Or.inr rfl | assumption) (⟨by first | rfl | omega, trivial⟩) zd_N_isNone_24
  · refine lv_iload_n hx hb zd_N_isNone_4 rfl (lv_at hl 0 rfl) ?_
    refine lv_iconst (v := (nI (3))) hx hb zd_N_isNone_5 (by decide) ?_
    refine lv_icmp_gt (tgt := 19) hx hb zd_N_isNone_6 (by decide) (fun hc6 => ?_) (fun hc6 => ?_)
    · refine lv_iconst (v := (nI (1))) hx hb zd_N_isNone_19 (by decide) ?_
      refine lv_goto (tgt := 24) hx hb zd_N_isNone_20 (by decide) ?_
      exact kz_zret F () hdy (by first | exact Or.inl rfl | exact Or.inr rfl | assumption) (⟨by first | rfl | omega, trivial⟩) zd_N_isNone_24
    · refine lv_iload_n hx hb zd_N_isNone_9 rfl (lv_at hl 1 rfl) ?_
      refine lv_if_lt (tgt := 19) hx hb zd_N_isNone_10 (by decide) (fun hc10 => ?_) (fun hc10 => ?_)
      · refine lv_iconst (v := (nI (1))) hx hb zd_N_isNone_19 (by decide) ?_
        refine lv_goto (tgt := 24) hx hb zd_N_isNone_20 (by decide) ?_
        exact kz_zret F () hdy (by first | exact Or.inl rfl | exact Or.inr rfl | assumption) (⟨by first | rfl | omega, trivial⟩) zd_N_isNone_24
      · refine lv_iload_n hx hb zd_N_isNone_13 rfl (lv_at hl 1 rfl) ?_
        refine lv_bipush (v := (nI (7))) hx hb zd_N_isNone_14 (by decide) ?_
        refine lv_icmp_le (tgt := 23) hx hb zd_N_isNone_16 (by decide) (fun hc16 => ?_) (fun hc16 => ?_)
        · rcases hbad with h9 | h9 | h9 | h9 <;> first | contradiction | exact (kz_nle h9 (by assumption)).elim
        · refine lv_iconst (v := (nI (1))) hx hb zd_N_isNone_19 (by decide) ?_
          refine lv_goto (tgt := 24) hx hb zd_N_isNone_20 (by decide) ?_
          exact kz_zret F () hdy (by first | exact Or.inl rfl | exact Or.inr rfl | assumption) (⟨by first | rfl | omega, trivial⟩) zd_N_isNone_24

