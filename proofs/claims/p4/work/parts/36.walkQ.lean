set_option maxHeartbeats 4000000 in
set_option maxRecDepth 100000 in
/-- KeyMeeting$Modulus.<init>()V -/
theorem c_Q_mod (l : Launch) (dC : Nat → ClassId) (dI : Nat → Nat → Nat) (cI cAA cB cL : ClassId) (h : Nat) (sz : Nat) : Met l zy_M_init zw_M_init { frames := 8, cells := 5, slots := 48, locals := 200 } (kz_Pc (dC, dI) vwCl [(cI, .int), (cAA, .array .int), (cB, .byte), (cL, .long)] [] [] [.ref h] [(h, .inr (1, [.null, .null, .null, .null, .null, .int (nI (0))]))] [] sz) (va_Qv (fun _ => True) (kz_B (dC, dI) vwCl (va_A [(h, .inr (1, [.null, .null, .null, .null, .null, .int (nI (0))]))] sz) (fun u : Nat × Nat × Nat × Nat × Nat × (Nat → Int32) × (Nat → Int32) × (Nat → Int32) × (Nat → Int32) × (Nat → Int32) => [(h, .inr (1, [.ref u.1, .ref u.2.1, .ref u.2.2.1, .ref u.2.2.2.1, .ref u.2.2.2.2.1, .int (nI (0))])), (u.1, .inl (cI, 8, .inl u.2.2.2.2.2.1)), (u.2.1, .inl (cI, 8, .inl u.2.2.2.2.2.2.1)), (u.2.2.1, .inl (cI, 16, .inl u.2.2.2.2.2.2.2.1)), (u.2.2.2.1, .inl (cI, 8, .inl u.2.2.2.2.2.2.2.2.1)), (u.2.2.2.2.1, .inl (cI, 8, .inl u.2.2.2.2.2.2.2.2.2))])) (va_A [(h, .inr (1, [.null, .null, .null, .null, .null, .int (nI (0))]))] sz)) 5 48 (va_A [(h, .inr (1, [.null, .null, .null, .null, .null, .int (nI (0))]))] sz) := by
  refine kz_met (y := zy_M_init) (ws := zw_M_init) (av := [.ref h]) (sz := sz) (Qc := fun A => va_Qv (fun _ => True) (kz_B (dC, dI) vwCl A (fun u : Nat × Nat × Nat × Nat × Nat × (Nat → Int32) × (Nat → Int32) × (Nat → Int32) × (Nat → Int32) × (Nat → Int32) => [(h, .inr (1, [.ref u.1, .ref u.2.1, .ref u.2.2.1, .ref u.2.2.2.1, .ref u.2.2.2.2.1, .int (nI (0))])), (u.1, .inl (cI, 8, .inl u.2.2.2.2.2.1)), (u.2.1, .inl (cI, 8, .inl u.2.2.2.2.2.2.1)), (u.2.2.1, .inl (cI, 16, .inl u.2.2.2.2.2.2.2.1)), (u.2.2.2.1, .inl (cI, 8, .inl u.2.2.2.2.2.2.2.2.1)), (u.2.2.2.2.1, .inl (cI, 8, .inl u.2.2.2.2.2.2.2.2.2))])) A) (cc := zc_M_init) (maxL := 1) (ret := none) (by decide) rfl (Nat.le_of_ble_eq_true rfl) ?_
  intro p e s m below meth c A ls F hA hdy hK hro hZ hN hl
  obtain ⟨hx, hb, hml, hr, hown, hlocks, hts, hnm⟩ := id F
  have hl : lv_has ls 1 [(0, .ref h)] := hl
  refine lv_aload_n hx hb zd_M_init_0 rfl (lv_at hl 0 rfl) ?_
  refine W.objInit hx hb hown (hts _ (kz_c mw_93)) (hts _ (kz_c mw_59)) (hts _ (kz_c mw_60)) rfl (by rw [hml]; exact hl.1) rfl zd_M_init_1 (Nat.le_of_ble_eq_true rfl) (Nat.le_of_ble_eq_true rfl) ?_
  refine lv_aload_n hx hb zd_M_init_4 rfl (lv_at hl 0 rfl) ?_
  refine lv_bipush (v := (nI (8))) hx hb zd_M_init_5 (by decide) ?_
  refine va_newa (atype := .int) (a0 := (8, .inl (fun _ => 0))) (N' := 8) (ty := .int) hx hb (hts _ (kz_c mw_87)) rfl hK hdy.1 hdy.2.1 hdy.2.2 hA (fun _ => by rw [vp_cell_i]; rfl) (nI_pos (by omega)) (nI_clamp (by omega)) (Nat.le_of_ble_eq_true rfl) (Nat.le_of_ble_eq_true rfl) (Nat.le_of_ble_eq_true rfl) zd_M_init_7 (fun q1 cA H hK9 hP hD hS => ?_)
  obtain rfl : cI = cA := (kz_cI hK9 hK 0 rfl (fun _ h9 => by cases h9)).symm
  obtain ⟨f2, hdy⟩ : ∃ f2 : Nat → Int32, kz_dy (dC, dI) vwCl A s.heap H [] [(h, .inr (1, [.null, .null, .null, .null, .null, .int (nI (0))])), (q1, .inl (cI, 8, .inl f2))] := ⟨_, hP, hD, hS⟩
  refine va_putF (D := (dC, dI)) (ci := 1) (v := .ref q1) (ty := .array .int) (C := zR_M) (T := zT_M) (N := 6) hx hb hts (fun w h => kz_c (zi_M w h)) zt_M zo_M zn_M hown hK hdy.1 hdy.2.1 hdy.2.2 0 rfl rfl 0 (by decide) (hts _ (kz_c mw_94)) (fun _ h9 => h9) rfl hnm rfl (by decide +kernel) rfl rfl (Nat.le_of_ble_eq_true rfl) zd_M_init_9 (fun H locs hP hD hS => ?_)
  have hdy : kz_dy (dC, dI) vwCl A s.heap H locs [(h, .inr (1, [.ref q1, .null, .null, .null, .null, .int (nI (0))])), (q1, .inl (cI, 8, .inl f2))] := ⟨hP, hD, hS⟩
  refine lv_aload_n hx hb zd_M_init_12 rfl (lv_at hl 0 rfl) ?_
  refine lv_bipush (v := (nI (8))) hx hb zd_M_init_13 (by decide) ?_
  refine va_newa (atype := .int) (a0 := (8, .inl (fun _ => 0))) (N' := 8) (ty := .int) hx hb (hts _ (kz_c mw_87)) rfl hK hdy.1 hdy.2.1 hdy.2.2 hA (fun _ => by rw [vp_cell_i]; rfl) (nI_pos (by omega)) (nI_clamp (by omega)) (Nat.le_of_ble_eq_true rfl) (Nat.le_of_ble_eq_true rfl) (Nat.le_of_ble_eq_true rfl) zd_M_init_15 (fun q3 cA H hK9 hP hD hS => ?_)
  obtain rfl : cI = cA := (kz_cI hK9 hK 0 rfl (fun _ h9 => by cases h9)).symm
  obtain ⟨f4, hdy⟩ : ∃ f4 : Nat → Int32, kz_dy (dC, dI) vwCl A s.heap H locs [(h, .inr (1, [.ref q1, .null, .null, .null, .null, .int (nI (0))])), (q1, .inl (cI, 8, .inl f2)), (q3, .inl (cI, 8, .inl f4))] := ⟨_, hP, hD, hS⟩
  refine va_putF (D := (dC, dI)) (ci := 1) (v := .ref q3) (ty := .array .int) (C := zR_M) (T := zT_M) (N := 6) hx hb hts (fun w h => kz_c (zi_M w h)) zt_M zo_M zn_M hown hK hdy.1 hdy.2.1 hdy.2.2 0 rfl rfl 1 (by decide) (hts _ (kz_c mw_95)) (fun _ h9 => h9) rfl hnm rfl (by decide +kernel) rfl rfl (Nat.le_of_ble_eq_true rfl) zd_M_init_17 (fun H locs hP hD hS => ?_)
  have hdy : kz_dy (dC, dI) vwCl A s.heap H locs [(h, .inr (1, [.ref q1, .ref q3, .null, .null, .null, .int (nI (0))])), (q1, .inl (cI, 8, .inl f2)), (q3, .inl (cI, 8, .inl f4))] := ⟨hP, hD, hS⟩
  refine lv_aload_n hx hb zd_M_init_20 rfl (lv_at hl 0 rfl) ?_
  refine lv_bipush (v := (nI (16))) hx hb zd_M_init_21 (by decide) ?_
  refine va_newa (atype := .int) (a0 := (16, .inl (fun _ => 0))) (N' := 16) (ty := .int) hx hb (hts _ (kz_c mw_87)) rfl hK hdy.1 hdy.2.1 hdy.2.2 hA (fun _ => by rw [vp_cell_i]; rfl) (nI_pos (by omega)) (nI_clamp (by omega)) (Nat.le_of_ble_eq_true rfl) (Nat.le_of_ble_eq_true rfl) (Nat.le_of_ble_eq_true rfl) zd_M_init_23 (fun q5 cA H hK9 hP hD hS => ?_)
  obtain rfl : cI = cA := (kz_cI hK9 hK 0 rfl (fun _ h9 => by cases h9)).symm
  obtain ⟨f6, hdy⟩ : ∃ f6 : Nat → Int32, kz_dy (dC, dI) vwCl A s.heap H locs [(h, .inr (1, [.ref q1, .ref q3, .null, .null, .null, .int (nI (0))])), (q1, .inl (cI, 8, .inl f2)), (q3, .inl (cI, 8, .inl f4)), (q5, .inl (cI, 16, .inl f6))] := ⟨_, hP, hD, hS⟩
  refine va_putF (D := (dC, dI)) (ci := 1) (v := .ref q5) (ty := .array .int) (C := zR_M) (T := zT_M) (N := 6) hx hb hts (fun w h => kz_c (zi_M w h)) zt_M zo_M zn_M hown hK hdy.1 hdy.2.1 hdy.2.2 0 rfl rfl 2 (by decide) (hts _ (kz_c mw_96)) (fun _ h9 => h9) rfl hnm rfl (by decide +kernel) rfl rfl (Nat.le_of_ble_eq_true rfl) zd_M_init_25 (fun H locs hP hD hS => ?_)
  have hdy : kz_dy (dC, dI) vwCl A s.heap H locs [(h, .inr (1, [.ref q1, .ref q3, .ref q5, .null, .null, .int (nI (0))])), (q1, .inl (cI, 8, .inl f2)), (q3, .inl (cI, 8, .inl f4)), (q5, .inl (cI, 16, .inl f6))] := ⟨hP, hD, hS⟩
  refine lv_aload_n hx hb zd_M_init_28 rfl (lv_at hl 0 rfl) ?_
  refine lv_bipush (v := (nI (8))) hx hb zd_M_init_29 (by decide) ?_
  refine va_newa (atype := .int) (a0 := (8, .inl (fun _ => 0))) (N' := 8) (ty := .int) hx hb (hts _ (kz_c mw_87)) rfl hK hdy.1 hdy.2.1 hdy.2.2 hA (fun _ => by rw [vp_cell_i]; rfl) (nI_pos (by omega)) (nI_clamp (by omega)) (Nat.le_of_ble_eq_true rfl) (Nat.le_of_ble_eq_true rfl) (Nat.le_of_ble_eq_true rfl) zd_M_init_31 (fun q7 cA H hK9 hP hD hS => ?_)
  obtain rfl : cI = cA := (kz_cI hK9 hK 0 rfl (fun _ h9 => by cases h9)).symm
  obtain ⟨f8, hdy⟩ : ∃ f8 : Nat → Int32, kz_dy (dC, dI) vwCl A s.heap H locs [(h, .inr (1, [.ref q1, .ref q3, .ref q5, .null, .null, .int (nI (0))])), (q1, .inl (cI, 8, .inl f2)), (q3, .inl (cI, 8, .inl f4)), (q5, .inl (cI, 16, .inl f6)), (q7, .inl (cI, 8, .inl f8))] := ⟨_, hP, hD, hS⟩
  refine va_putF (D := (dC, dI)) (ci := 1) (v := .ref q7) (ty := .array .int) (C := zR_M) (T := zT_M) (N := 6) hx hb hts (fun w h => kz_c (zi_M w h)) zt_M zo_M zn_M hown hK hdy.1 hdy.2.1 hdy.2.2 0 rfl rfl 3 (by decide) (hts _ (kz_c mw_97)) (fun _ h9 => h9) rfl hnm rfl (by decide +kernel) rfl rfl (Nat.le_of_ble_eq_true rfl) zd_M_init_33 (fun H locs hP hD hS => ?_)
  have hdy : kz_dy (dC, dI) vwCl A s.heap H locs [(h, .inr (1, [.ref q1, .ref q3, .ref q5, .ref q7, .null, .int (nI (0))])), (q1, .inl (cI, 8, .inl f2)), (q3, .inl (cI, 8, .inl f4)), (q5, .inl (cI, 16, .inl f6)), (q7, .inl (cI, 8, .inl f8))] := ⟨hP, hD, hS⟩
  refine lv_aload_n hx hb zd_M_init_36 rfl (lv_at hl 0 rfl) ?_
  refine lv_bipush (v := (nI (8))) hx hb zd_M_init_37 (by decide) ?_
  refine va_newa (atype := .int) (a0 := (8, .inl (fun _ => 0))) (N' := 8) (ty := .int) hx hb (hts _ (kz_c mw_87)) rfl hK hdy.1 hdy.2.1 hdy.2.2 hA (fun _ => by rw [vp_cell_i]; rfl) (nI_pos (by omega)) (nI_clamp (by omega)) (Nat.le_of_ble_eq_true rfl) (Nat.le_of_ble_eq_true rfl) (Nat.le_of_ble_eq_true rfl) zd_M_init_39 (fun q9 cA H hK9 hP hD hS => ?_)
  obtain rfl : cI = cA := (kz_cI hK9 hK 0 rfl (fun _ h9 => by cases h9)).symm
  obtain ⟨f10, hdy⟩ : ∃ f10 : Nat → Int32, kz_dy (dC, dI) vwCl A s.heap H locs [(h, .inr (1, [.ref q1, .ref q3, .ref q5, .ref q7, .null, .int (nI (0))])), (q1, .inl (cI, 8, .inl f2)), (q3, .inl (cI, 8, .inl f4)), (q5, .inl (cI, 16, .inl f6)), (q7, .inl (cI, 8, .inl f8)), (q9, .inl (cI, 8, .inl f10))] := ⟨_, hP, hD, hS⟩
  refine va_putF (D := (dC, dI)) (ci := 1) (v := .ref q9) (ty := .array .int) (C := zR_M) (T := zT_M) (N := 6) hx hb hts (fun w h => kz_c (zi_M w h)) zt_M zo_M zn_M hown hK hdy.1 hdy.2.1 hdy.2.2 0 rfl rfl 4 (by decide) (hts _ (kz_c mw_98)) (fun _ h9 => h9) rfl hnm rfl (by decide +kernel) rfl rfl (Nat.le_of_ble_eq_true rfl) zd_M_init_41 (fun H locs hP hD hS => ?_)
  have hdy : kz_dy (dC, dI) vwCl A s.heap H locs [(h, .inr (1, [.ref q1, .ref q3, .ref q5, .ref q7, .ref q9, .int (nI (0))])), (q1, .inl (cI, 8, .inl f2)), (q3, .inl (cI, 8, .inl f4)), (q5, .inl (cI, 16, .inl f6)), (q7, .inl (cI, 8, .inl f8)), (q9, .inl (cI, 8, .inl f10))] := ⟨hP, hD, hS⟩
  exact kz_vret F (q1, q3, q5, q7, q9, f2, f4, f6, f8, f10) hdy (trivial) zd_M_init_44

set_option maxHeartbeats 4000000 in
set_option maxRecDepth 100000 in
/-- KeyMeeting$Host.<init>()V -/
theorem c_Q_host (l : Launch) (dC : Nat → ClassId) (dI : Nat → Nat → Nat) (cI cAA cB cL : ClassId) (h : Nat) (sz : Nat) : Met l zy_H_init zw_H_init { frames := 8, cells := 5, slots := 48, locals := 200 } (kz_Pc (dC, dI) vwCl [(cI, .int), (cAA, .array .int), (cB, .byte), (cL, .long)] [] [] [.ref h] [(h, .inr (2, [.null, .null, .null, .null, .null]))] [] sz) (va_Qv (fun _ => True) (kz_B (dC, dI) vwCl (va_A [(h, .inr (2, [.null, .null, .null, .null, .null]))] sz) (fun u : Nat × Nat × Nat × Nat × Nat × (Nat → Int32) × (Nat → Int32) × (Nat → Int32) × (Nat → Int32) × (Nat → Int32) => [(h, .inr (2, [.ref u.1, .ref u.2.1, .ref u.2.2.1, .ref u.2.2.2.1, .ref u.2.2.2.2.1])), (u.1, .inl (cI, 8, .inl u.2.2.2.2.2.1)), (u.2.1, .inl (cI, 8, .inl u.2.2.2.2.2.2.1)), (u.2.2.1, .inl (cI, 8, .inl u.2.2.2.2.2.2.2.1)), (u.2.2.2.1, .inl (cI, 8, .inl u.2.2.2.2.2.2.2.2.1)), (u.2.2.2.2.1, .inl (cI, 16, .inl u.2.2.2.2.2.2.2.2.2))])) (va_A [(h, .inr (2, [.null, .null, .null, .null, .null]))] sz)) 5 48 (va_A [(h, .inr (2, [.null, .null, .null, .null, .null]))] sz) := by
  refine kz_met (y := zy_H_init) (ws := zw_H_init) (av := [.ref h]) (sz := sz) (Qc := fun A => va_Qv (fun _ => True) (kz_B (dC, dI) vwCl A (fun u : Nat × Nat × Nat × Nat × Nat × (Nat → Int32) × (Nat → Int32) × (Nat → Int32) × (Nat → Int32) × (Nat → Int32) => [(h, .inr (2, [.ref u.1, .ref u.2.1, .ref u.2.2.1, .ref u.2.2.2.1, .ref u.2.2.2.2.1])), (u.1, .inl (cI, 8, .inl u.2.2.2.2.2.1)), (u.2.1, .inl (cI, 8, .inl u.2.2.2.2.2.2.1)), (u.2.2.1, .inl (cI, 8, .inl u.2.2.2.2.2.2.2.1)), (u.2.2.2.1, .inl (cI, 8, .inl u.2.2.2.2.2.2.2.2.1)), (u.2.2.2.2.1, .inl (cI, 16, .inl u.2.2.2.2.2.2.2.2.2))])) A) (cc := zc_H_init) (maxL := 1) (ret := none) (by decide) rfl (Nat.le_of_ble_eq_true rfl) ?_
  intro p e s m below meth c A ls F hA hdy hK hro hZ hN hl
  obtain ⟨hx, hb, hml, hr, hown, hlocks, hts, hnm⟩ := id F
  have hl : lv_has ls 1 [(0, .ref h)] := hl
  refine lv_aload_n hx hb zd_H_init_0 rfl (lv_at hl 0 rfl) ?_
  refine W.objInit hx hb hown (hts _ (kz_c mw_68)) (hts _ (kz_c mw_59)) (hts _ (kz_c mw_60)) rfl (by rw [hml]; exact hl.1) rfl zd_H_init_1 (Nat.le_of_ble_eq_true rfl) (Nat.le_of_ble_eq_true rfl) ?_
  refine lv_aload_n hx hb zd_H_init_4 rfl (lv_at hl 0 rfl) ?_
  refine lv_bipush (v := (nI (8))) hx hb zd_H_init_5 (by decide) ?_
  refine va_newa (atype := .int) (a0 := (8, .inl (fun _ => 0))) (N' := 8) (ty := .int) hx hb (hts _ (kz_c mw_87)) rfl hK hdy.1 hdy.2.1 hdy.2.2 hA (fun _ => by rw [vp_cell_i]; rfl) (nI_pos (by omega)) (nI_clamp (by omega)) (Nat.le_of_ble_eq_true rfl) (Nat.le_of_ble_eq_true rfl) (Nat.le_of_ble_eq_true rfl) zd_H_init_7 (fun q1 cA H hK9 hP hD hS => ?_)
  obtain rfl : cI = cA := (kz_cI hK9 hK 0 rfl (fun _ h9 => by cases h9)).symm
  obtain ⟨f2, hdy⟩ : ∃ f2 : Nat → Int32, kz_dy (dC, dI) vwCl A s.heap H [] [(h, .inr (2, [.null, .null, .null, .null, .null])), (q1, .inl (cI, 8, .inl f2))] := ⟨_, hP, hD, hS⟩
  refine va_putF (D := (dC, dI)) (ci := 2) (v := .ref q1) (ty := .array .int) (C := zR_H) (T := zT_H) (N := 5) hx hb hts (fun w h => kz_c (zi_H w h)) zt_H zo_H zn_H hown hK hdy.1 hdy.2.1 hdy.2.2 0 rfl rfl 0 (by decide) (hts _ (kz_c mw_69)) (fun _ h9 => h9) rfl hnm rfl (by decide +kernel) rfl rfl (Nat.le_of_ble_eq_true rfl) zd_H_init_9 (fun H locs hP hD hS => ?_)
  have hdy : kz_dy (dC, dI) vwCl A s.heap H locs [(h, .inr (2, [.ref q1, .null, .null, .null, .null])), (q1, .inl (cI, 8, .inl f2))] := ⟨hP, hD, hS⟩
  refine lv_aload_n hx hb zd_H_init_12 rfl (lv_at hl 0 rfl) ?_
  refine lv_bipush (v := (nI (8))) hx hb zd_H_init_13 (by decide) ?_
  refine va_newa (atype := .int) (a0 := (8, .inl (fun _ => 0))) (N' := 8) (ty := .int) hx hb (hts _ (kz_c mw_87)) rfl hK hdy.1 hdy.2.1 hdy.2.2 hA (fun _ => by rw [vp_cell_i]; rfl) (nI_pos (by omega)) (nI_clamp (by omega)) (Nat.le_of_ble_eq_true rfl) (Nat.le_of_ble_eq_true rfl) (Nat.le_of_ble_eq_true rfl) zd_H_init_15 (fun q3 cA H hK9 hP hD hS => ?_)
  obtain rfl : cI = cA := (kz_cI hK9 hK 0 rfl (fun _ h9 => by cases h9)).symm
  obtain ⟨f4, hdy⟩ : ∃ f4 : Nat → Int32, kz_dy (dC, dI) vwCl A s.heap H locs [(h, .inr (2, [.ref q1, .null, .null, .null, .null])), (q1, .inl (cI, 8, .inl f2)), (q3, .inl (cI, 8, .inl f4))] := ⟨_, hP, hD, hS⟩
  refine va_putF (D := (dC, dI)) (ci := 2) (v := .ref q3) (ty := .array .int) (C := zR_H) (T := zT_H) (N := 5) hx hb hts (fun w h => kz_c (zi_H w h)) zt_H zo_H zn_H hown hK hdy.1 hdy.2.1 hdy.2.2 0 rfl rfl 1 (by decide) (hts _ (kz_c mw_71)) (fun _ h9 => h9) rfl hnm rfl (by decide +kernel) rfl rfl (Nat.le_of_ble_eq_true rfl) zd_H_init_17 (fun H locs hP hD hS => ?_)
  have hdy : kz_dy (dC, dI) vwCl A s.heap H locs [(h, .inr (2, [.ref q1, .ref q3, .null, .null, .null])), (q1, .inl (cI, 8, .inl f2)), (q3, .inl (cI, 8, .inl f4))] := ⟨hP, hD, hS⟩
  refine lv_aload_n hx hb zd_H_init_20 rfl (lv_at hl 0 rfl) ?_
  refine lv_bipush (v := (nI (8))) hx hb zd_H_init_21 (by decide) ?_
  refine va_newa (atype := .int) (a0 := (8, .inl (fun _ => 0))) (N' := 8) (ty := .int) hx hb (hts _ (kz_c mw_87)) rfl hK hdy.1 hdy.2.1 hdy.2.2 hA (fun _ => by rw [vp_cell_i]; rfl) (nI_pos (by omega)) (nI_clamp (by omega)) (Nat.le_of_ble_eq_true rfl) (Nat.le_of_ble_eq_true rfl) (Nat.le_of_ble_eq_true rfl) zd_H_init_23 (fun q5 cA H hK9 hP hD hS => ?_)
  obtain rfl : cI = cA := (kz_cI hK9 hK 0 rfl (fun _ h9 => by cases h9)).symm
  obtain ⟨f6, hdy⟩ : ∃ f6 : Nat → Int32, kz_dy (dC, dI) vwCl A s.heap H locs [(h, .inr (2, [.ref q1, .ref q3, .null, .null, .null])), (q1, .inl (cI, 8, .inl f2)), (q3, .inl (cI, 8, .inl f4)), (q5, .inl (cI, 8, .inl f6))] := ⟨_, hP, hD, hS⟩
  refine va_putF (D := (dC, dI)) (ci := 2) (v := .ref q5) (ty := .array .int) (C := zR_H) (T := zT_H) (N := 5) hx hb hts (fun w h => kz_c (zi_H w h)) zt_H zo_H zn_H hown hK hdy.1 hdy.2.1 hdy.2.2 0 rfl rfl 2 (by decide) (hts _ (kz_c mw_73)) (fun _ h9 => h9) rfl hnm rfl (by decide +kernel) rfl rfl (Nat.le_of_ble_eq_true rfl) zd_H_init_25 (fun H locs hP hD hS => ?_)
  have hdy : kz_dy (dC, dI) vwCl A s.heap H locs [(h, .inr (2, [.ref q1, .ref q3, .ref q5, .null, .null])), (q1, .inl (cI, 8, .inl f2)), (q3, .inl (cI, 8, .inl f4)), (q5, .inl (cI, 8, .inl f6))] := ⟨hP, hD, hS⟩
  refine lv_aload_n hx hb zd_H_init_28 rfl (lv_at hl 0 rfl) ?_
  refine lv_bipush (v := (nI (8))) hx hb zd_H_init_29 (by decide) ?_
  refine va_newa (atype := .int) (a0 := (8, .inl (fun _ => 0))) (N' := 8) (ty := .int) hx hb (hts _ (kz_c mw_87)) rfl hK hdy.1 hdy.2.1 hdy.2.2 hA (fun _ => by rw [vp_cell_i]; rfl) (nI_pos (by omega)) (nI_clamp (by omega)) (Nat.le_of_ble_eq_true rfl) (Nat.le_of_ble_eq_true rfl) (Nat.le_of_ble_eq_true rfl) zd_H_init_31 (fun q7 cA H hK9 hP hD hS => ?_)
  obtain rfl : cI = cA := (kz_cI hK9 hK 0 rfl (fun _ h9 => by cases h9)).symm
  obtain ⟨f8, hdy⟩ : ∃ f8 : Nat → Int32, kz_dy (dC, dI) vwCl A s.heap H locs [(h, .inr (2, [.ref q1, .ref q3, .ref q5, .null, .null])), (q1, .inl (cI, 8, .inl f2)), (q3, .inl (cI, 8, .inl f4)), (q5, .inl (cI, 8, .inl f6)), (q7, .inl (cI, 8, .inl f8))] := ⟨_, hP, hD, hS⟩
  refine va_putF (D := (dC, dI)) (ci := 2) (v := .ref q7) (ty := .array .int) (C := zR_H) (T := zT_H) (N := 5) hx hb hts (fun w h => kz_c (zi_H w h)) zt_H zo_H zn_H hown hK hdy.1 hdy.2.1 hdy.2.2 0 rfl rfl 3 (by decide) (hts _ (kz_c mw_74)) (fun _ h9 => h9) rfl hnm rfl (by decide +kernel) rfl rfl (Nat.le_of_ble_eq_true rfl) zd_H_init_33 (fun H locs hP hD hS => ?_)
  have hdy : kz_dy (dC, dI) vwCl A s.heap H locs [(h, .inr (2, [.ref q1, .ref q3, .ref q5, .ref q7, .null])), (q1, .inl (cI, 8, .inl f2)), (q3, .inl (cI, 8, .inl f4)), (q5, .inl (cI, 8, .inl f6)), (q7, .inl (cI, 8, .inl f8))] := ⟨hP, hD, hS⟩
  refine lv_aload_n hx hb zd_H_init_36 rfl (lv_at hl 0 rfl) ?_
  refine lv_bipush (v := (nI (16))) hx hb zd_H_init_37 (by decide) ?_
  refine va_newa (atype := .int) (a0 := (16, .inl (fun _ => 0))) (N' := 16) (ty := .int) hx hb (hts _ (kz_c mw_87)) rfl hK hdy.1 hdy.2.1 hdy.2.2 hA (fun _ => by rw [vp_cell_i]; rfl) (nI_pos (by omega)) (nI_clamp (by omega)) (Nat.le_of_ble_eq_true rfl) (Nat.le_of_ble_eq_true rfl) (Nat.le_of_ble_eq_true rfl) zd_H_init_39 (fun q9 cA H hK9 hP hD hS => ?_)
  obtain rfl : cI = cA := (kz_cI hK9 hK 0 rfl (fun _ h9 => by cases h9)).symm
  obtain ⟨f10, hdy⟩ : ∃ f10 : Nat → Int32, kz_dy (dC, dI) vwCl A s.heap H locs [(h, .inr (2, [.ref q1, .ref q3, .ref q5, .ref q7, .null])), (q1, .inl (cI, 8, .inl f2)), (q3, .inl (cI, 8, .inl f4)), (q5, .inl (cI, 8, .inl f6)), (q7, .inl (cI, 8, .inl f8)), (q9, .inl (cI, 16, .inl f10))] := ⟨_, hP, hD, hS⟩
  refine va_putF (D := (dC, dI)) (ci := 2) (v := .ref q9) (ty := .array .int) (C := zR_H) (T := zT_H) (N := 5) hx hb hts (fun w h => kz_c (zi_H w h)) zt_H zo_H zn_H hown hK hdy.1 hdy.2.1 hdy.2.2 0 rfl rfl 4 (by decide) (hts _ (kz_c mw_75)) (fun _ h9 => h9) rfl hnm rfl (by decide +kernel) rfl rfl (Nat.le_of_ble_eq_true rfl) zd_H_init_41 (fun H locs hP hD hS => ?_)
  have hdy : kz_dy (dC, dI) vwCl A s.heap H locs [(h, .inr (2, [.ref q1, .ref q3, .ref q5, .ref q7, .ref q9])), (q1, .inl (cI, 8, .inl f2)), (q3, .inl (cI, 8, .inl f4)), (q5, .inl (cI, 8, .inl f6)), (q7, .inl (cI, 8, .inl f8)), (q9, .inl (cI, 16, .inl f10))] := ⟨hP, hD, hS⟩
  exact kz_vret F (q1, q3, q5, q7, q9, f2, f4, f6, f8, f10) hdy (trivial) zd_H_init_44

set_option maxHeartbeats 4000000 in
set_option maxRecDepth 100000 in
/-- KeyMeeting$Digest.<init>()V -/
theorem c_Q_dig (l : Launch) (dC : Nat → ClassId) (dI : Nat → Nat → Nat) (cI cAA cB cL : ClassId) (h : Nat) (sz : Nat) : Met l zy_D_init zw_D_init { frames := 8, cells := 2, slots := 72, locals := 200 } (kz_Pc (dC, dI) vwCl [(cI, .int), (cAA, .array .int), (cB, .byte), (cL, .long)] [] [] [.ref h] [(h, .inr (3, [.null, .null, .int (nI (0))]))] [] sz) (va_Qv (fun _ => True) (kz_B (dC, dI) vwCl (va_A [(h, .inr (3, [.null, .null, .int (nI (0))]))] sz) (fun u : Nat × Nat × (Nat → Int32) × (Nat → Int32) => [(h, .inr (3, [.ref u.1, .ref u.2.1, .int (nI (0))])), (u.1, .inl (cI, 8, .inl u.2.2.1)), (u.2.1, .inl (cI, 64, .inl u.2.2.2))])) (va_A [(h, .inr (3, [.null, .null, .int (nI (0))]))] sz)) 2 72 (va_A [(h, .inr (3, [.null, .null, .int (nI (0))]))] sz) := by
  refine kz_met (y := zy_D_init) (ws := zw_D_init) (av := [.ref h]) (sz := sz) (Qc := fun A => va_Qv (fun _ => True) (kz_B (dC, dI) vwCl A (fun u : Nat × Nat × (Nat → Int32) × (Nat → Int32) => [(h, .inr (3, [.ref u.1, .ref u.2.1, .int (nI (0))])), (u.1, .inl (cI, 8, .inl u.2.2.1)), (u.2.1, .inl (cI, 64, .inl u.2.2.2))])) A) (cc := zc_D_init) (maxL := 1) (ret := none) (by decide) rfl (Nat.le_of_ble_eq_true rfl) ?_
  intro p e s m below meth c A ls F hA hdy hK hro hZ hN hl
  obtain ⟨hx, hb, hml, hr, hown, hlocks, hts, hnm⟩ := id F
  have hl : lv_has ls 1 [(0, .ref h)] := hl
  refine lv_aload_n hx hb zd_D_init_0 rfl (lv_at hl 0 rfl) ?_
  refine W.objInit hx hb hown (hts _ (kz_c mw_118)) (hts _ (kz_c mw_59)) (hts _ (kz_c mw_60)) rfl (by rw [hml]; exact hl.1) rfl zd_D_init_1 (Nat.le_of_ble_eq_true rfl) (Nat.le_of_ble_eq_true rfl) ?_
  refine lv_aload_n hx hb zd_D_init_4 rfl (lv_at hl 0 rfl) ?_
  refine lv_bipush (v := (nI (8))) hx hb zd_D_init_5 (by decide) ?_
  refine va_newa (atype := .int) (a0 := (8, .inl (fun _ => 0))) (N' := 8) (ty := .int) hx hb (hts _ (kz_c mw_87)) rfl hK hdy.1 hdy.2.1 hdy.2.2 hA (fun _ => by rw [vp_cell_i]; rfl) (nI_pos (by omega)) (nI_clamp (by omega)) (Nat.le_of_ble_eq_true rfl) (Nat.le_of_ble_eq_true rfl) (Nat.le_of_ble_eq_true rfl) zd_D_init_7 (fun q1 cA H hK9 hP hD hS => ?_)
  obtain rfl : cI = cA := (kz_cI hK9 hK 0 rfl (fun _ h9 => by cases h9)).symm
  obtain ⟨f2, hdy⟩ : ∃ f2 : Nat → Int32, kz_dy (dC, dI) vwCl A s.heap H [] [(h, .inr (3, [.null, .null, .int (nI (0))])), (q1, .inl (cI, 8, .inl f2))] := ⟨_, hP, hD, hS⟩
  refine va_putF (D := (dC, dI)) (ci := 3) (v := .ref q1) (ty := .array .int) (C := zR_D) (T := zT_D) (N := 3) hx hb hts (fun w h => kz_c (zi_D w h)) zt_D zo_D zn_D hown hK hdy.1 hdy.2.1 hdy.2.2 0 rfl rfl 0 (by decide) (hts _ (kz_c mw_119)) (fun _ h9 => h9) rfl hnm rfl (by decide +kernel) rfl rfl (Nat.le_of_ble_eq_true rfl) zd_D_init_9 (fun H locs hP hD hS => ?_)
  have hdy : kz_dy (dC, dI) vwCl A s.heap H locs [(h, .inr (3, [.ref q1, .null, .int (nI (0))])), (q1, .inl (cI, 8, .inl f2))] := ⟨hP, hD, hS⟩
  refine lv_aload_n hx hb zd_D_init_12 rfl (lv_at hl 0 rfl) ?_
  refine lv_bipush (v := (nI (64))) hx hb zd_D_init_13 (by decide) ?_
  refine va_newa (atype := .int) (a0 := (64, .inl (fun _ => 0))) (N' := 64) (ty := .int) hx hb (hts _ (kz_c mw_87)) rfl hK hdy.1 hdy.2.1 hdy.2.2 hA (fun _ => by rw [vp_cell_i]; rfl) (nI_pos (by omega)) (nI_clamp (by omega)) (Nat.le_of_ble_eq_true rfl) (Nat.le_of_ble_eq_true rfl) (Nat.le_of_ble_eq_true rfl) zd_D_init_15 (fun q3 cA H hK9 hP hD hS => ?_)
  obtain rfl : cI = cA := (kz_cI hK9 hK 0 rfl (fun _ h9 => by cases h9)).symm
  obtain ⟨f4, hdy⟩ : ∃ f4 : Nat → Int32, kz_dy (dC, dI) vwCl A s.heap H locs [(h, .inr (3, [.ref q1, .null, .int (nI (0))])), (q1, .inl (cI, 8, .inl f2)), (q3, .inl (cI, 64, .inl f4))] := ⟨_, hP, hD, hS⟩
  refine va_putF (D := (dC, dI)) (ci := 3) (v := .ref q3) (ty := .array .int) (C := zR_D) (T := zT_D) (N := 3) hx hb hts (fun w h => kz_c (zi_D w h)) zt_D zo_D zn_D hown hK hdy.1 hdy.2.1 hdy.2.2 0 rfl rfl 1 (by decide) (hts _ (kz_c mw_120)) (fun _ h9 => h9) rfl hnm rfl (by decide +kernel) rfl rfl (Nat.le_of_ble_eq_true rfl) zd_D_init_17 (fun H locs hP hD hS => ?_)
  have hdy : kz_dy (dC, dI) vwCl A s.heap H locs [(h, .inr (3, [.ref q1, .ref q3, .int (nI (0))])), (q1, .inl (cI, 8, .inl f2)), (q3, .inl (cI, 64, .inl f4))] := ⟨hP, hD, hS⟩
  exact kz_vret F (q1, q3, f2, f4) hdy (trivial) zd_D_init_20

