set_option maxHeartbeats 4000000 in
set_option maxRecDepth 100000 in
/-- KeyMeeting$Words.copy([I[I)V -/
theorem c_Words_copy (l : Launch) (dC : Nat → ClassId) (dI : Nat → Nat → Nat) (cI cAA cB cL : ClassId) (o a : Nat) (go : Nat → Int32) (ga : Nat → Int32) (sz : Nat) : Met l zy_W_copy zw_W_copy { frames := 1, cells := 0, slots := 0, locals := 40 } (kz_Pc (dC, dI) vwCl [(cI, .int), (cAA, .array .int), (cB, .byte), (cL, .long)] [] [] [.ref a, .ref o] [(o, .inl (cI, 8, .inl go))] [(a, .inl (cI, 8, .inl ga))] sz) (va_Qv (fun _ => True) (kz_B (dC, dI) vwCl (va_A [(o, .inl (cI, 8, .inl go))] sz) (fun u : (Nat → Int32) => [(o, .inl (cI, 8, .inl u))])) (va_A [(o, .inl (cI, 8, .inl go))] sz)) 0 0 (va_A [(o, .inl (cI, 8, .inl go))] sz) := by
  refine kz_met (y := zy_W_copy) (ws := zw_W_copy) (av := [.ref a, .ref o]) (sz := sz) (Qc := fun A => va_Qv (fun _ => True) (kz_B (dC, dI) vwCl A (fun u : (Nat → Int32) => [(o, .inl (cI, 8, .inl u))])) A) (cc := zc_W_copy) (maxL := 2) (ret := none) (by decide) rfl (Nat.le_of_ble_eq_true rfl) ?_
  intro p e s m below meth c A ls F hA hdy hK hro hZ hN hl
  obtain ⟨hx, hb, hml, hr, hown, hlocks, hts, hnm⟩ := id F
  have hl : lv_has ls 2 [(0, .ref a), (1, .ref o)] := hl
  refine lv_aload_n hx hb zd_W_copy_0 rfl (lv_at hl 0 rfl) ?_
  refine lv_iconst (v := (nI (0))) hx hb zd_W_copy_1 (by decide) ?_
  refine lv_aload_n hx hb zd_W_copy_2 rfl (lv_at hl 1 rfl) ?_
  refine lv_iconst (v := (nI (0))) hx hb zd_W_copy_3 (by decide) ?_
  refine lv_bipush (v := (nI (8))) hx hb zd_W_copy_4 (by decide) ?_
  refine kz_copyr hx hb (hml.trans hl.1.symm) hown (hts _ (kz_c mw_285)) (hts _ (kz_c mw_214)) (hts _ (kz_c mw_213)) (hts _ (kz_c mw_51)) hK hdy.1 hdy.2.1 hdy.2.2 hro 0 0 0 0 rfl rfl rfl rfl rfl (nI_pos (by omega)) (nI_pos (by omega)) (nI_pos (by omega)) (by (repeat rw [nI_clamp (by omega)]) <;> omega) (by (repeat rw [nI_clamp (by omega)]) <;> omega) (fun _ _ => rfl) (Nat.le_of_ble_eq_true rfl) (Nat.le_of_ble_eq_true rfl) zd_W_copy_6 (fun H locs hP hD hS => ?_)
  obtain ⟨f1, hdy⟩ : ∃ f1 : Nat → Int32, kz_dy (dC, dI) vwCl A s.heap H locs [(o, .inl (cI, 8, .inl f1))] := ⟨_, hP, hD, hS⟩
  exact kz_vret F (f1) hdy (trivial) zd_W_copy_9

set_option maxHeartbeats 4000000 in
set_option maxRecDepth 100000 in
/-- KeyMeeting$Digest.turn(II)I -/
theorem c_Dig_turn (l : Launch) (dC : Nat → ClassId) (dI : Nat → Nat → Nat) (cI cAA cB cL : ClassId) (v : Int32) (k : Int32) (sz : Nat) : Met l zy_D_turn zw_D_turn { frames := 0, cells := 0, slots := 0, locals := 0 } (kz_Pc (dC, dI) vwCl [(cI, .int), (cAA, .array .int), (cB, .byte), (cL, .long)] [] [] [.int v, .int k] [] [] sz) (va_Qi (fun _ _ => True) (kz_B (dC, dI) vwCl (va_A [] sz) (fun u : Unit => [])) (va_A [] sz)) 0 0 (va_A [] sz) := by
  refine kz_met (y := zy_D_turn) (ws := zw_D_turn) (av := [.int v, .int k]) (sz := sz) (Qc := fun A => va_Qi (fun _ _ => True) (kz_B (dC, dI) vwCl A (fun u : Unit => [])) A) (cc := zc_D_turn) (maxL := 2) (ret := some .int) (by decide) rfl (Nat.le_of_ble_eq_true rfl) ?_
  intro p e s m below meth c A ls F hA hdy hK hro hZ hN hl
  obtain ⟨hx, hb, hml, hr, hown, hlocks, hts, hnm⟩ := id F
  have hl : lv_has ls 2 [(0, .int v), (1, .int k)] := hl
  refine lv_iload_n hx hb zd_D_turn_0 rfl (lv_at hl 0 rfl) ?_
  refine lv_iload_n hx hb zd_D_turn_1 rfl (lv_at hl 1 rfl) ?_
  refine lv_iushr hx hb zd_D_turn_2 rfl ?_
  refine lv_topi (fun x1 _ => ?_)
  refine lv_iload_n hx hb zd_D_turn_3 rfl (lv_at hl 0 rfl) ?_
  refine lv_bipush (v := (nI (32))) hx hb zd_D_turn_4 (by decide) ?_
  refine lv_iload_n hx hb zd_D_turn_6 rfl (lv_at hl 1 rfl) ?_
  refine lv_isub hx hb zd_D_turn_7 ?_
  refine lv_topi (fun x2 _ => ?_)
  refine lv_ishl hx hb zd_D_turn_8 ?_
  refine lv_topi (fun x3 _ => ?_)
  refine lv_ior hx hb zd_D_turn_9 ?_
  refine lv_topi (fun x4 _ => ?_)
  exact kz_iret F () hdy (trivial) zd_D_turn_10

set_option maxHeartbeats 4000000 in
set_option maxRecDepth 100000 in
/-- KeyMeeting$Digest.spreadRow()V -/
theorem c_Dig_spreadRow (l : Launch) (dC : Nat → ClassId) (dI : Nat → Nat → Nat) (cI cAA cB cL : ClassId) (ro h su : Nat) (gro : Nat → Int32) (ct : Nat) (sz : Nat) : Met l zy_D_spreadRow zw_D_spreadRow { frames := 1, cells := 0, slots := 0, locals := 21 } (kz_Pc (dC, dI) vwCl [(cI, .int), (cAA, .array .int), (cB, .byte), (cL, .long)] [] [] [.ref h] [(ro, .inl (cI, 64, .inl gro))] [(h, .inr (3, [.ref su, .ref ro, .int (nI (ct))]))] sz) (va_Qv (fun _ => True) (kz_B (dC, dI) vwCl (va_A [(ro, .inl (cI, 64, .inl gro))] sz) (fun u : (Nat → Int32) => [(ro, .inl (cI, 64, .inl u))])) (va_A [(ro, .inl (cI, 64, .inl gro))] sz)) 0 0 (va_A [(ro, .inl (cI, 64, .inl gro))] sz) := by
  refine kz_met (y := zy_D_spreadRow) (ws := zw_D_spreadRow) (av := [.ref h]) (sz := sz) (Qc := fun A => va_Qv (fun _ => True) (kz_B (dC, dI) vwCl A (fun u : (Nat → Int32) => [(ro, .inl (cI, 64, .inl u))])) A) (cc := zc_D_spreadRow) (maxL := 6) (ret := none) (by decide) rfl (Nat.le_of_ble_eq_true rfl) ?_
  intro p e s m below meth c A ls F hA hdy hK hro hZ hN hl
  obtain ⟨hx, hb, hml, hr, hown, hlocks, hts, hnm⟩ := id F
  have hl : lv_has ls 6 [(0, .ref h)] := hl
  refine lv_bipush (v := (nI (16))) hx hb zd_D_spreadRow_0 (by decide) ?_
  refine lv_istore_n (lv' := [(1, .int (nI (16))), (0, .ref h)]) hx hb zd_D_spreadRow_2 rfl hl (by decide) rfl (fun ls hl => ?_)
  have lp3 : ∀ (n3 k3 : Nat) (f1 : Nat → Int32) (H : Heap) (locs : List Loc) (ls : Array Slot), k3 ≤ 64 → 64 - k3 < n3 → 16 ≤ k3 → kz_dy (dC, dI) vwCl A s.heap H locs [(ro, .inl (cI, 64, .inl f1))] → lv_has ls 6 [(1, .int (nI (k3))), (0, .ref h)] → W p l e { frames := 1, cells := 0, slots := 0, locals := 21 } s m ([.ref h] : List Value).toArray below meth c H locs 0 0 (MQ below (va_Qv (fun _ => True) (kz_B (dC, dI) vwCl A (fun u : (Nat → Int32) => [(ro, .inl (cI, 64, .inl u))])) A) ([.ref h] : List Value).toArray s 0 0 A) (F0 m 3 ls []) := by
    intro n3
    induction n3 with
    | zero => intro k3; intros; omega
    | succ n3 ih3 =>
      intro k3 f1 H locs ls hi3 hn3 hblow hdy hl
      refine lv_iload_n hx hb zd_D_spreadRow_3 rfl (lv_at hl 0 rfl) ?_
      refine lv_bipush (v := (nI (64))) hx hb zd_D_spreadRow_4 (by decide) ?_
      refine lv_icmp_ge (tgt := 106) hx hb zd_D_spreadRow_6 (by decide) (fun hc6 => ?_) (fun hc6 => ?_)
      · have hc6 : 64 ≤ k3 := (nI_leI (by omega) (by omega)).mp hc6
        exact kz_vret F (f1) hdy (trivial) zd_D_spreadRow_106
      · have hc6 : ¬ 64 ≤ k3 := fun h9 => hc6 ((nI_leI (by omega) (by omega)).mpr h9)
        refine lv_aload_n hx hb zd_D_spreadRow_9 rfl (lv_at hl 1 rfl) ?_
        refine va_get (D := (dC, dI)) (ci := 3) (v := .ref ro) (C := zR_D) (T := zT_D) (N := 3) hx hb hts (fun w h => kz_c (zi_D w h)) hown hK (hro.ob hdy.2.2 (k := 0) rfl) 0 rfl rfl 1 (by decide) (hts _ (kz_c mw_120)) (fun _ h9 => h9) rfl zd_D_spreadRow_10 ?_
        refine lv_iload_n hx hb zd_D_spreadRow_13 rfl (lv_at hl 0 rfl) ?_
        refine lv_bipush (v := (nI (15))) hx hb zd_D_spreadRow_14 (by decide) ?_
        refine kz_isub hx hb zd_D_spreadRow_16 (pk_sub (by omega)) ?_
        refine va_iald hx hb hK hdy.1 0 0 rfl rfl (vp_in_nI (by omega) (by omega)) zd_D_spreadRow_17 ?_
        refine lv_topi (fun x2 _ => ?_)
        refine lv_istore_n (lv' := [(2, .int x2), (1, .int (nI (k3))), (0, .ref h)]) hx hb zd_D_spreadRow_18 rfl hl (by decide) rfl (fun ls hl => ?_)
        refine lv_iload_n hx hb zd_D_spreadRow_19 rfl (lv_at hl 0 rfl) ?_
        refine lv_bipush (v := (nI (7))) hx hb zd_D_spreadRow_20 (by decide) ?_
        refine kz_calli (wk := [(ro, .inl (cI, 64, .inl f1))]) (va_runS (As := [.int x2, .int (nI (7))]) (rest := []) ⟨hx, hb, hml, hown, hts⟩ (c_Dig_turn l dC dI cI cAA cB cL (x2) ((nI (7))) _) (va_cwS 2 hts (kz_g (kz_mc mw_322 (kz_mc mw_323 (kz_mc mw_42 kz_mn))) mw_324) rfl rfl rfl (by decide +kernel) ⟨Nat.le_of_ble_eq_true rfl, Nat.le_of_ble_eq_true rfl⟩) (kz_preS hdy hA hK hro hZ hN [] (by decide) rfl [] rfl (by decide) [0, 1, 2, 3] rfl (fun _ h => by cases h) (fun _ h => by cases h) rfl) rfl rfl hl.1 rfl (lv_room (Nat.le_of_ble_eq_true rfl)) zd_D_spreadRow_22 ⟨Nat.le_of_ble_eq_true rfl, Nat.le_of_ble_eq_true rfl⟩) hdy hA [] [0] rfl rfl (by decide) (by decide) (fun r u H locs hw hdy => ?_)
        obtain ⟨r3, rfl⟩ : ∃ z, z = r := ⟨_, rfl⟩
        have hdy : kz_dy (dC, dI) vwCl A s.heap H locs [(ro, .inl (cI, 64, .inl f1))] := hdy.sub [0] (by decide) rfl
        refine lv_iload_n hx hb zd_D_spreadRow_25 rfl (lv_at hl 0 rfl) ?_
        refine lv_bipush (v := (nI (18))) hx hb zd_D_spreadRow_26 (by decide) ?_
        refine kz_calli (wk := [(ro, .inl (cI, 64, .inl f1))]) (va_runS (As := [.int x2, .int (nI (18))]) (rest := [.int r3]) ⟨hx, hb, hml, hown, hts⟩ (c_Dig_turn l dC dI cI cAA cB cL (x2) ((nI (18))) _) (va_cwS 2 hts (kz_g (kz_mc mw_322 (kz_mc mw_323 (kz_mc mw_42 kz_mn))) mw_324) rfl rfl rfl (by decide +kernel) ⟨Nat.le_of_ble_eq_true rfl, Nat.le_of_ble_eq_true rfl⟩) (kz_preS hdy hA hK hro hZ hN [] (by decide) rfl [] rfl (by decide) [0, 1, 2, 3] rfl (fun _ h => by cases h) (fun _ h => by cases h) rfl) rfl rfl hl.1 rfl (lv_room (Nat.le_of_ble_eq_true rfl)) zd_D_spreadRow_28 ⟨Nat.le_of_ble_eq_true rfl, Nat.le_of_ble_eq_true rfl⟩) hdy hA [] [0] rfl rfl (by decide) (by decide) (fun r u H locs hw hdy => ?_)
        obtain ⟨r4, rfl⟩ : ∃ z, z = r := ⟨_, rfl⟩
        have hdy : kz_dy (dC, dI) vwCl A s.heap H locs [(ro, .inl (cI, 64, .inl f1))] := hdy.sub [0] (by decide) rfl
        refine lv_ixor hx hb zd_D_spreadRow_31 ?_
        refine lv_topi (fun x5 _ => ?_)
        refine lv_iload_n hx hb zd_D_spreadRow_32 rfl (lv_at hl 0 rfl) ?_
        refine lv_iconst (v := (nI (3))) hx hb zd_D_spreadRow_33 (by decide) ?_
        refine lv_iushr hx hb zd_D_spreadRow_34 rfl ?_
        refine lv_topi (fun x6 _ => ?_)
        refine lv_ixor hx hb zd_D_spreadRow_35 ?_
        refine lv_topi (fun x7 _ => ?_)
        refine lv_istore_n (lv' := [(3, .int x7), (2, .int x2), (1, .int (nI (k3))), (0, .ref h)]) hx hb zd_D_spreadRow_36 rfl hl (by decide) rfl (fun ls hl => ?_)
        refine lv_aload_n hx hb zd_D_spreadRow_37 rfl (lv_at hl 3 rfl) ?_
        refine va_get (D := (dC, dI)) (ci := 3) (v := .ref ro) (C := zR_D) (T := zT_D) (N := 3) hx hb hts (fun w h => kz_c (zi_D w h)) hown hK (hro.ob hdy.2.2 (k := 0) rfl) 0 rfl rfl 1 (by decide) (hts _ (kz_c mw_120)) (fun _ h9 => h9) rfl zd_D_spreadRow_38 ?_
        refine lv_iload_n hx hb zd_D_spreadRow_41 rfl (lv_at hl 2 rfl) ?_
        refine lv_iconst (v := (nI (2))) hx hb zd_D_spreadRow_42 (by decide) ?_
        refine kz_isub hx hb zd_D_spreadRow_43 (pk_sub (by omega)) ?_
        refine va_iald hx hb hK hdy.1 0 0 rfl rfl (vp_in_nI (by omega) (by omega)) zd_D_spreadRow_44 ?_
        refine lv_topi (fun x8 _ => ?_)
        refine lv_istore (lv' := [(4, .int x8), (3, .int x7), (2, .int x2), (1, .int (nI (k3))), (0, .ref h)]) hx hb zd_D_spreadRow_45 hl (by decide) rfl (fun ls hl => ?_)
        refine lv_iload hx hb zd_D_spreadRow_47 (lv_at hl 0 rfl) ?_
        refine lv_bipush (v := (nI (17))) hx hb zd_D_spreadRow_49 (by decide) ?_
        refine kz_calli (wk := [(ro, .inl (cI, 64, .inl f1))]) (va_runS (As := [.int x8, .int (nI (17))]) (rest := []) ⟨hx, hb, hml, hown, hts⟩ (c_Dig_turn l dC dI cI cAA cB cL (x8) ((nI (17))) _) (va_cwS 2 hts (kz_g (kz_mc mw_322 (kz_mc mw_323 (kz_mc mw_42 kz_mn))) mw_324) rfl rfl rfl (by decide +kernel) ⟨Nat.le_of_ble_eq_true rfl, Nat.le_of_ble_eq_true rfl⟩) (kz_preS hdy hA hK hro hZ hN [] (by decide) rfl [] rfl (by decide) [0, 1, 2, 3] rfl (fun _ h => by cases h) (fun _ h => by cases h) rfl) rfl rfl hl.1 rfl (lv_room (Nat.le_of_ble_eq_true rfl)) zd_D_spreadRow_51 ⟨Nat.le_of_ble_eq_true rfl, Nat.le_of_ble_eq_true rfl⟩) hdy hA [] [0] rfl rfl (by decide) (by decide) (fun r u H locs hw hdy => ?_)
        obtain ⟨r9, rfl⟩ : ∃ z, z = r := ⟨_, rfl⟩
        have hdy : kz_dy (dC, dI) vwCl A s.heap H locs [(ro, .inl (cI, 64, .inl f1))] := hdy.sub [0] (by decide) rfl
        refine lv_iload hx hb zd_D_spreadRow_54 (lv_at hl 0 rfl) ?_
        refine lv_bipush (v := (nI (19))) hx hb zd_D_spreadRow_56 (by decide) ?_
        refine kz_calli (wk := [(ro, .inl (cI, 64, .inl f1))]) (va_runS (As := [.int x8, .int (nI (19))]) (rest := [.int r9]) ⟨hx, hb, hml, hown, hts⟩ (c_Dig_turn l dC dI cI cAA cB cL (x8) ((nI (19))) _) (va_cwS 2 hts (kz_g (kz_mc mw_322 (kz_mc mw_323 (kz_mc mw_42 kz_mn))) mw_324) rfl rfl rfl (by decide +kernel) ⟨Nat.le_of_ble_eq_true rfl, Nat.le_of_ble_eq_true rfl⟩) (kz_preS hdy hA hK hro hZ hN [] (by decide) rfl [] rfl (by decide) [0, 1, 2, 3] rfl (fun _ h => by cases h) (fun _ h => by cases h) rfl) rfl rfl hl.1 rfl (lv_room (Nat.le_of_ble_eq_true rfl)) zd_D_spreadRow_58 ⟨Nat.le_of_ble_eq_true rfl, Nat.le_of_ble_eq_true rfl⟩) hdy hA [] [0] rfl rfl (by decide) (by decide) (fun r u H locs hw hdy => ?_)
        obtain ⟨r10, rfl⟩ : ∃ z, z = r := ⟨_, rfl⟩
        have hdy : kz_dy (dC, dI) vwCl A s.heap H locs [(ro, .inl (cI, 64, .inl f1))] := hdy.sub [0] (by decide) rfl
        refine lv_ixor hx hb zd_D_spreadRow_61 ?_
        refine lv_topi (fun x11 _ => ?_)
        refine lv_iload hx hb zd_D_spreadRow_62 (lv_at hl 0 rfl) ?_
        refine lv_bipush (v := (nI (10))) hx hb zd_D_spreadRow_64 (by decide) ?_
        refine lv_iushr hx hb zd_D_spreadRow_66 rfl ?_
        refine lv_topi (fun x12 _ => ?_)
        refine lv_ixor hx hb zd_D_spreadRow_67 ?_
        refine lv_topi (fun x13 _ => ?_)
        refine lv_istore (lv' := [(5, .int x13), (4, .int x8), (3, .int x7), (2, .int x2), (1, .int (nI (k3))), (0, .ref h)]) hx hb zd_D_spreadRow_68 hl (by decide) rfl (fun ls hl => ?_)
        refine lv_aload_n hx hb zd_D_spreadRow_70 rfl (lv_at hl 5 rfl) ?_
        refine va_get (D := (dC, dI)) (ci := 3) (v := .ref ro) (C := zR_D) (T := zT_D) (N := 3) hx hb hts (fun w h => kz_c (zi_D w h)) hown hK (hro.ob hdy.2.2 (k := 0) rfl) 0 rfl rfl 1 (by decide) (hts _ (kz_c mw_120)) (fun _ h9 => h9) rfl zd_D_spreadRow_71 ?_
        refine lv_iload_n hx hb zd_D_spreadRow_74 rfl (lv_at hl 4 rfl) ?_
        refine lv_aload_n hx hb zd_D_spreadRow_75 rfl (lv_at hl 5 rfl) ?_
        refine va_get (D := (dC, dI)) (ci := 3) (v := .ref ro) (C := zR_D) (T := zT_D) (N := 3) hx hb hts (fun w h => kz_c (zi_D w h)) hown hK (hro.ob hdy.2.2 (k := 0) rfl) 0 rfl rfl 1 (by decide) (hts _ (kz_c mw_120)) (fun _ h9 => h9) rfl zd_D_spreadRow_76 ?_
        refine lv_iload_n hx hb zd_D_spreadRow_79 rfl (lv_at hl 4 rfl) ?_
        refine lv_bipush (v := (nI (16))) hx hb zd_D_spreadRow_80 (by decide) ?_
        refine kz_isub hx hb zd_D_spreadRow_82 (pk_sub (by omega)) ?_
        refine va_iald hx hb hK hdy.1 0 0 rfl rfl (vp_in_nI (by omega) (by omega)) zd_D_spreadRow_83 ?_
        refine lv_topi (fun x14 _ => ?_)
        refine lv_iload_n hx hb zd_D_spreadRow_84 rfl (lv_at hl 2 rfl) ?_
        refine lv_iadd hx hb zd_D_spreadRow_85 ?_
        refine lv_topi (fun x15 _ => ?_)
        refine lv_aload_n hx hb zd_D_spreadRow_86 rfl (lv_at hl 5 rfl) ?_
        refine va_get (D := (dC, dI)) (ci := 3) (v := .ref ro) (C := zR_D) (T := zT_D) (N := 3) hx hb hts (fun w h => kz_c (zi_D w h)) hown hK (hro.ob hdy.2.2 (k := 0) rfl) 0 rfl rfl 1 (by decide) (hts _ (kz_c mw_120)) (fun _ h9 => h9) rfl zd_D_spreadRow_87 ?_
        refine lv_iload_n hx hb zd_D_spreadRow_90 rfl (lv_at hl 4 rfl) ?_
        refine lv_bipush (v := (nI (7))) hx hb zd_D_spreadRow_91 (by decide) ?_
        refine kz_isub hx hb zd_D_spreadRow_93 (pk_sub (by omega)) ?_
        refine va_iald hx hb hK hdy.1 0 0 rfl rfl (vp_in_nI (by omega) (by omega)) zd_D_spreadRow_94 ?_
        refine lv_topi (fun x16 _ => ?_)
        refine lv_iadd hx hb zd_D_spreadRow_95 ?_
        refine lv_topi (fun x17 _ => ?_)
        refine lv_iload hx hb zd_D_spreadRow_96 (lv_at hl 0 rfl) ?_
        refine lv_iadd hx hb zd_D_spreadRow_98 ?_
        refine lv_topi (fun x18 _ => ?_)
        refine va_iast hx hb hK hdy.1 hdy.2.1 hdy.2.2 0 0 rfl rfl (vp_in_nI (by omega) (by omega)) zd_D_spreadRow_99 (fun H locs hP hD hS => ?_)
        obtain ⟨f19, hdy⟩ : ∃ f19 : Nat → Int32, kz_dy (dC, dI) vwCl A s.heap H locs [(ro, .inl (cI, 64, .inl f19))] := ⟨_, hP, hD, hS⟩
        refine lv_iinc (v := (nI (k3 + 1))) (lv' := [(1, .int (nI (k3 + 1))), (5, .int x13), (4, .int x8), (3, .int x7), (2, .int x2), (0, .ref h)]) hx hb zd_D_spreadRow_100 hl (k := 4) rfl (nI_1 _) (by decide) rfl (fun ls hl => ?_)
        refine lv_goto (tgt := 3) hx hb zd_D_spreadRow_103 (by decide) ?_
        exact ih3 (k3 + 1) f19 _ _ _ (by omega) (by omega) (by omega) hdy (lv_sub hl [0, 5] rfl)
  exact lp3 (64 - 16 + 1) 16 gro _ _ _ (by omega) (by omega) (by omega) hdy (lv_sub hl [0, 1] rfl)

set_option maxHeartbeats 4000000 in
set_option maxRecDepth 100000 in
/-- KeyMeeting$Digest.mixRow()V -/
theorem c_Dig_mixRow (l : Launch) (dC : Nat → ClassId) (dI : Nat → Nat → Nat) (cI cAA cB cL : ClassId) (su ro h roots : Nat) (gsu : Nat → Int32) (gro : Nat → Int32) (ct : Nat) (groots : Nat → Int32) (sz : Nat) : Met l zy_D_mixRow zw_D_mixRow { frames := 2, cells := 0, slots := 0, locals := 46 } (kz_Pc (dC, dI) vwCl [(cI, .int), (cAA, .array .int), (cB, .byte), (cL, .long)] [("KeyMeeting$Digest", "ROOTS", "[I", .ref roots)] [] [.ref h] [(su, .inl (cI, 8, .inl gsu)), (ro, .inl (cI, 64, .inl gro))] [(h, .inr (3, [.ref su, .ref ro, .int (nI (ct))])), (roots, .inl (cI, 64, .inl groots))] sz) (va_Qv (fun _ => True) (kz_B (dC, dI) vwCl (va_A [(su, .inl (cI, 8, .inl gsu)), (ro, .inl (cI, 64, .inl gro))] sz) (fun u : (Nat → Int32) × (Nat → Int32) => [(su, .inl (cI, 8, .inl u.1)), (ro, .inl (cI, 64, .inl u.2))])) (va_A [(su, .inl (cI, 8, .inl gsu)), (ro, .inl (cI, 64, .inl gro))] sz)) 0 0 (va_A [(su, .inl (cI, 8, .inl gsu)), (ro, .inl (cI, 64, .inl gro))] sz) := by
  refine kz_met (y := zy_D_mixRow) (ws := zw_D_mixRow) (av := [.ref h]) (sz := sz) (Qc := fun A => va_Qv (fun _ => True) (kz_B (dC, dI) vwCl A (fun u : (Nat → Int32) × (Nat → Int32) => [(su, .inl (cI, 8, .inl u.1)), (ro, .inl (cI, 64, .inl u.2))])) A) (cc := zc_D_mixRow) (maxL := 12) (ret := none) (by decide) rfl (Nat.le_of_ble_eq_true rfl) ?_
  intro p e s m below meth c A ls F hA hdy hK hro hZ hN hl
  obtain ⟨hx, hb, hml, hr, hown, hlocks, hts, hnm⟩ := id F
  have hl : lv_has ls 12 [(0, .ref h)] := hl
  refine lv_aload_n hx hb zd_D_mixRow_0 rfl (lv_at hl 0 rfl) ?_
  refine kz_callv (wk := [(su, .inl (cI, 8, .inl gsu))]) (va_runV (As := []) (rest := []) ⟨hx, hb, hml, hown, hts⟩ (c_Dig_spreadRow l dC dI cI cAA cB cL ro h su gro ct _) (cwV 0 hts (kz_g (kz_mc mw_318 (kz_mc mw_320 (kz_mc mw_15 (kz_mc mw_42 kz_mn)))) mw_321) rfl rfl rfl (by decide +kernel) ⟨Nat.le_of_ble_eq_true rfl, Nat.le_of_ble_eq_true rfl⟩) (kz_preVr hdy hA hK hro hZ hN [1] (by decide) rfl [(true, 0)] rfl (by decide) [0, 1, 2, 3] rfl (fun _ h => by cases h) (fun _ h => by cases h) rfl (ci := 3) (q0 := 0) rfl rfl rfl) rfl rfl hl.1 rfl (lv_room (Nat.le_of_ble_eq_true rfl)) zd_D_mixRow_1 ⟨Nat.le_of_ble_eq_true rfl, Nat.le_of_ble_eq_true rfl⟩) hdy hA [1] [0] rfl rfl (by decide) (by decide) (fun u H locs hw hdy => ?_)
  obtain ⟨f1, rfl⟩ : ∃ z, z = u := ⟨_, rfl⟩
  have hdy : kz_dy (dC, dI) vwCl A s.heap H locs [(su, .inl (cI, 8, .inl gsu)), (ro, .inl (cI, 64, .inl f1))] := hdy.sub [0, 1] (by decide) rfl
  refine lv_aload_n hx hb zd_D_mixRow_4 rfl (lv_at hl 0 rfl) ?_
  refine va_get (D := (dC, dI)) (ci := 3) (v := .ref su) (C := zR_D) (T := zT_D) (N := 3) hx hb hts (fun w h => kz_c (zi_D w h)) hown hK (hro.ob hdy.2.2 (k := 0) rfl) 0 rfl rfl 0 (by decide) (hts _ (kz_c mw_119)) (fun _ h9 => h9) rfl zd_D_mixRow_5 ?_
  refine lv_iconst (v := (nI (0))) hx hb zd_D_mixRow_8 (by decide) ?_
  refine va_iald hx hb hK hdy.1 0 0 rfl rfl (vp_in_nI (by omega) (by omega)) zd_D_mixRow_9 ?_
  refine lv_topi (fun x2 _ => ?_)
  refine lv_istore_n (lv' := [(1, .int x2), (0, .ref h)]) hx hb zd_D_mixRow_10 rfl hl (by decide) rfl (fun ls hl => ?_)
  refine lv_aload_n hx hb zd_D_mixRow_11 rfl (lv_at hl 1 rfl) ?_
  refine va_get (D := (dC, dI)) (ci := 3) (v := .ref su) (C := zR_D) (T := zT_D) (N := 3) hx hb hts (fun w h => kz_c (zi_D w h)) hown hK (hro.ob hdy.2.2 (k := 0) rfl) 0 rfl rfl 0 (by decide) (hts _ (kz_c mw_119)) (fun _ h9 => h9) rfl zd_D_mixRow_12 ?_
  refine lv_iconst (v := (nI (1))) hx hb zd_D_mixRow_15 (by decide) ?_
  refine va_iald hx hb hK hdy.1 0 0 rfl rfl (vp_in_nI (by omega) (by omega)) zd_D_mixRow_16 ?_
  refine lv_topi (fun x3 _ => ?_)
  refine lv_istore_n (lv' := [(2, .int x3), (1, .int x2), (0, .ref h)]) hx hb zd_D_mixRow_17 rfl hl (by decide) rfl (fun ls hl => ?_)
  refine lv_aload_n hx hb zd_D_mixRow_18 rfl (lv_at hl 2 rfl) ?_
  refine va_get (D := (dC, dI)) (ci := 3) (v := .ref su) (C := zR_D) (T := zT_D) (N := 3) hx hb hts (fun w h => kz_c (zi_D w h)) hown hK (hro.ob hdy.2.2 (k := 0) rfl) 0 rfl rfl 0 (by decide) (hts _ (kz_c mw_119)) (fun _ h9 => h9) rfl zd_D_mixRow_19 ?_
  refine lv_iconst (v := (nI (2))) hx hb zd_D_mixRow_22 (by decide) ?_
  refine va_iald hx hb hK hdy.1 0 0 rfl rfl (vp_in_nI (by omega) (by omega)) zd_D_mixRow_23 ?_
  refine lv_topi (fun x4 _ => ?_)
  refine lv_istore_n (lv' := [(3, .int x4), (2, .int x3), (1, .int x2), (0, .ref h)]) hx hb zd_D_mixRow_24 rfl hl (by decide) rfl (fun ls hl => ?_)
  refine lv_aload_n hx hb zd_D_mixRow_25 rfl (lv_at hl 3 rfl) ?_
  refine va_get (D := (dC, dI)) (ci := 3) (v := .ref su) (C := zR_D) (T := zT_D) (N := 3) hx hb hts (fun w h => kz_c (zi_D w h)) hown hK (hro.ob hdy.2.2 (k := 0) rfl) 0 rfl rfl 0 (by decide) (hts _ (kz_c mw_119)) (fun _ h9 => h9) rfl zd_D_mixRow_26 ?_
  refine lv_iconst (v := (nI (3))) hx hb zd_D_mixRow_29 (by decide) ?_
  refine va_iald hx hb hK hdy.1 0 0 rfl rfl (vp_in_nI (by omega) (by omega)) zd_D_mixRow_30 ?_
  refine lv_topi (fun x5 _ => ?_)
  refine lv_istore (lv' := [(4, .int x5), (3, .int x4), (2, .int x3), (1, .int x2), (0, .ref h)]) hx hb zd_D_mixRow_31 hl (by decide) rfl (fun ls hl => ?_)
  refine lv_aload_n hx hb zd_D_mixRow_33 rfl (lv_at hl 4 rfl) ?_
  refine va_get (D := (dC, dI)) (ci := 3) (v := .ref su) (C := zR_D) (T := zT_D) (N := 3) hx hb hts (fun w h => kz_c (zi_D w h)) hown hK (hro.ob hdy.2.2 (k := 0) rfl) 0 rfl rfl 0 (by decide) (hts _ (kz_c mw_119)) (fun _ h9 => h9) rfl zd_D_mixRow_34 ?_
  refine lv_iconst (v := (nI (4))) hx hb zd_D_mixRow_37 (by decide) ?_
  refine va_iald hx hb hK hdy.1 0 0 rfl rfl (vp_in_nI (by omega) (by omega)) zd_D_mixRow_38 ?_
  refine lv_topi (fun x6 _ => ?_)
  refine lv_istore (lv' := [(5, .int x6), (4, .int x5), (3, .int x4), (2, .int x3), (1, .int x2), (0, .ref h)]) hx hb zd_D_mixRow_39 hl (by decide) rfl (fun ls hl => ?_)
  refine lv_aload_n hx hb zd_D_mixRow_41 rfl (lv_at hl 5 rfl) ?_
  refine va_get (D := (dC, dI)) (ci := 3) (v := .ref su) (C := zR_D) (T := zT_D) (N := 3) hx hb hts (fun w h => kz_c (zi_D w h)) hown hK (hro.ob hdy.2.2 (k := 0) rfl) 0 rfl rfl 0 (by decide) (hts _ (kz_c mw_119)) (fun _ h9 => h9) rfl zd_D_mixRow_42 ?_
  refine lv_iconst (v := (nI (5))) hx hb zd_D_mixRow_45 (by decide) ?_
  refine va_iald hx hb hK hdy.1 0 0 rfl rfl (vp_in_nI (by omega) (by omega)) zd_D_mixRow_46 ?_
  refine lv_topi (fun x7 _ => ?_)
  refine lv_istore (lv' := [(6, .int x7), (5, .int x6), (4, .int x5), (3, .int x4), (2, .int x3), (1, .int x2), (0, .ref h)]) hx hb zd_D_mixRow_47 hl (by decide) rfl (fun ls hl => ?_)
  refine lv_aload_n hx hb zd_D_mixRow_49 rfl (lv_at hl 6 rfl) ?_
  refine va_get (D := (dC, dI)) (ci := 3) (v := .ref su) (C := zR_D) (T := zT_D) (N := 3) hx hb hts (fun w h => kz_c (zi_D w h)) hown hK (hro.ob hdy.2.2 (k := 0) rfl) 0 rfl rfl 0 (by decide) (hts _ (kz_c mw_119)) (fun _ h9 => h9) rfl zd_D_mixRow_50 ?_
  refine lv_bipush (v := (nI (6))) hx hb zd_D_mixRow_53 (by decide) ?_
  refine va_iald hx hb hK hdy.1 0 0 rfl rfl (vp_in_nI (by omega) (by omega)) zd_D_mixRow_55 ?_
  refine lv_topi (fun x8 _ => ?_)
  refine lv_istore (lv' := [(7, .int x8), (6, .int x7), (5, .int x6), (4, .int x5), (3, .int x4), (2, .int x3), (1, .int x2), (0, .ref h)]) hx hb zd_D_mixRow_56 hl (by decide) rfl (fun ls hl => ?_)
  refine lv_aload_n hx hb zd_D_mixRow_58 rfl (lv_at hl 7 rfl) ?_
  refine va_get (D := (dC, dI)) (ci := 3) (v := .ref su) (C := zR_D) (T := zT_D) (N := 3) hx hb hts (fun w h => kz_c (zi_D w h)) hown hK (hro.ob hdy.2.2 (k := 0) rfl) 0 rfl rfl 0 (by decide) (hts _ (kz_c mw_119)) (fun _ h9 => h9) rfl zd_D_mixRow_59 ?_
  refine lv_bipush (v := (nI (7))) hx hb zd_D_mixRow_62 (by decide) ?_
  refine va_iald hx hb hK hdy.1 0 0 rfl rfl (vp_in_nI (by omega) (by omega)) zd_D_mixRow_64 ?_
  refine lv_topi (fun x9 _ => ?_)
  refine lv_istore (lv' := [(8, .int x9), (7, .int x8), (6, .int x7), (5, .int x6), (4, .int x5), (3, .int x4), (2, .int x3), (1, .int x2), (0, .ref h)]) hx hb zd_D_mixRow_65 hl (by decide) rfl (fun ls hl => ?_)
  refine lv_iconst (v := (nI (0))) hx hb zd_D_mixRow_67 (by decide) ?_
  refine lv_istore (lv' := [(9, .int (nI (0))), (8, .int x9), (7, .int x8), (6, .int x7), (5, .int x6), (4, .int x5), (3, .int x4), (2, .int x3), (1, .int x2), (0, .ref h)]) hx hb zd_D_mixRow_68 hl (by decide) rfl (fun ls hl => ?_)
  have lp70 : ∀ (n70 k70 : Nat) (x10 : Int32) (x11 : Int32) (x12 : Int32) (x13 : Int32) (x14 : Int32) (x15 : Int32) (x16 : Int32) (x17 : Int32) (f18 : Nat → Int32) (f19 : Nat → Int32) (H : Heap) (locs : List Loc) (ls : Array Slot), k70 ≤ 64 → 64 - k70 < n70 → kz_dy (dC, dI) vwCl A s.heap H locs [(su, .inl (cI, 8, .inl f18)), (ro, .inl (cI, 64, .inl f19))] → lv_has ls 12 [(9, .int (nI (k70))), (8, .int x10), (7, .int x11), (6, .int x12), (5, .int x13), (4, .int x14), (3, .int x15), (2, .int x16), (1, .int x17), (0, .ref h)] → W p l e { frames := 2, cells := 0, slots := 0, locals := 46 } s m ([.ref h] : List Value).toArray below meth c H locs 0 0 (MQ below (va_Qv (fun _ => True) (kz_B (dC, dI) vwCl A (fun u : (Nat → Int32) × (Nat → Int32) => [(su, .inl (cI, 8, .inl u.1)), (ro, .inl (cI, 64, .inl u.2))])) A) ([.ref h] : List Value).toArray s 0 0 A) (F0 m 70 ls []) := by
    intro n70
    induction n70 with
    | zero => intro k70; intros; omega
    | succ n70 ih70 =>
      intro k70 x10 x11 x12 x13 x14 x15 x16 x17 f18 f19 H locs ls hi70 hn70 hdy hl
      refine lv_iload hx hb zd_D_mixRow_70 (lv_at hl 0 rfl) ?_
      refine lv_bipush (v := (nI (64))) hx hb zd_D_mixRow_72 (by decide) ?_
      refine lv_icmp_ge (tgt := 205) hx hb zd_D_mixRow_74 (by decide) (fun hc74 => ?_) (fun hc74 => ?_)
      · have hc74 : 64 ≤ k70 := (nI_leI (by omega) (by omega)).mp hc74
        refine lv_aload_n hx hb zd_D_mixRow_205 rfl (lv_at hl 9 rfl) ?_
        refine va_get (D := (dC, dI)) (ci := 3) (v := .ref su) (C := zR_D) (T := zT_D) (N := 3) hx hb hts (fun w h => kz_c (zi_D w h)) hown hK (hro.ob hdy.2.2 (k := 0) rfl) 0 rfl rfl 0 (by decide) (hts _ (kz_c mw_119)) (fun _ h9 => h9) rfl zd_D_mixRow_206 ?_
        refine lv_iconst (v := (nI (0))) hx hb zd_D_mixRow_209 (by decide) ?_
        refine lv_dup2_11 hx hb zd_D_mixRow_210 rfl rfl ?_
        refine va_iald hx hb hK hdy.1 0 0 rfl rfl (vp_in_nI (by omega) (by omega)) zd_D_mixRow_211 ?_
        refine lv_topi (fun x20 _ => ?_)
        refine lv_iload_n hx hb zd_D_mixRow_212 rfl (lv_at hl 8 rfl) ?_
        refine lv_iadd hx hb zd_D_mixRow_213 ?_
        refine lv_topi (fun x21 _ => ?_)
        refine va_iast hx hb hK hdy.1 hdy.2.1 hdy.2.2 0 0 rfl rfl (vp_in_nI (by omega) (by omega)) zd_D_mixRow_214 (fun H locs hP hD hS => ?_)
        obtain ⟨f22, hdy⟩ : ∃ f22 : Nat → Int32, kz_dy (dC, dI) vwCl A s.heap H locs [(su, .inl (cI, 8, .inl f22)), (ro, .inl (cI, 64, .inl f19))] := ⟨_, hP, hD, hS⟩
        refine lv_aload_n hx hb zd_D_mixRow_215 rfl (lv_at hl 9 rfl) ?_
        refine va_get (D := (dC, dI)) (ci := 3) (v := .ref su) (C := zR_D) (T := zT_D) (N := 3) hx hb hts (fun w h => kz_c (zi_D w h)) hown hK (hro.ob hdy.2.2 (k := 0) rfl) 0 rfl rfl 0 (by decide) (hts _ (kz_c mw_119)) (fun _ h9 => h9) rfl zd_D_mixRow_216 ?_
        refine lv_iconst (v := (nI (1))) hx hb zd_D_mixRow_219 (by decide) ?_
        refine lv_dup2_11 hx hb zd_D_mixRow_220 rfl rfl ?_
        refine va_iald hx hb hK hdy.1 0 0 rfl rfl (vp_in_nI (by omega) (by omega)) zd_D_mixRow_221 ?_
        refine lv_topi (fun x23 _ => ?_)
        refine lv_iload_n hx hb zd_D_mixRow_222 rfl (lv_at hl 7 rfl) ?_
        refine lv_iadd hx hb zd_D_mixRow_223 ?_
        refine lv_topi (fun x24 _ => ?_)
        refine va_iast hx hb hK hdy.1 hdy.2.1 hdy.2.2 0 0 rfl rfl (vp_in_nI (by omega) (by omega)) zd_D_mixRow_224 (fun H locs hP hD hS => ?_)
        obtain ⟨f25, hdy⟩ : ∃ f25 : Nat → Int32, kz_dy (dC, dI) vwCl A s.heap H locs [(su, .inl (cI, 8, .inl f25)), (ro, .inl (cI, 64, .inl f19))] := ⟨_, hP, hD, hS⟩
        refine lv_aload_n hx hb zd_D_mixRow_225 rfl (lv_at hl 9 rfl) ?_
        refine va_get (D := (dC, dI)) (ci := 3) (v := .ref su) (C := zR_D) (T := zT_D) (N := 3) hx hb hts (fun w h => kz_c (zi_D w h)) hown hK (hro.ob hdy.2.2 (k := 0) rfl) 0 rfl rfl 0 (by decide) (hts _ (kz_c mw_119)) (fun _ h9 => h9) rfl zd_D_mixRow_226 ?_
        refine lv_iconst (v := (nI (2))) hx hb zd_D_mixRow_229 (by decide) ?_
        refine lv_dup2_11 hx hb zd_D_mixRow_230 rfl rfl ?_
        refine va_iald hx hb hK hdy.1 0 0 rfl rfl (vp_in_nI (by omega) (by omega)) zd_D_mixRow_231 ?_
        refine lv_topi (fun x26 _ => ?_)
        refine lv_iload_n hx hb zd_D_mixRow_232 rfl (lv_at hl 6 rfl) ?_
        refine lv_iadd hx hb zd_D_mixRow_233 ?_
        refine lv_topi (fun x27 _ => ?_)
        refine va_iast hx hb hK hdy.1 hdy.2.1 hdy.2.2 0 0 rfl rfl (vp_in_nI (by omega) (by omega)) zd_D_mixRow_234 (fun H locs hP hD hS => ?_)
        obtain ⟨f28, hdy⟩ : ∃ f28 : Nat → Int32, kz_dy (dC, dI) vwCl A s.heap H locs [(su, .inl (cI, 8, .inl f28)), (ro, .inl (cI, 64, .inl f19))] := ⟨_, hP, hD, hS⟩
        refine lv_aload_n hx hb zd_D_mixRow_235 rfl (lv_at hl 9 rfl) ?_
        refine va_get (D := (dC, dI)) (ci := 3) (v := .ref su) (C := zR_D) (T := zT_D) (N := 3) hx hb hts (fun w h => kz_c (zi_D w h)) hown hK (hro.ob hdy.2.2 (k := 0) rfl) 0 rfl rfl 0 (by decide) (hts _ (kz_c mw_119)) (fun _ h9 => h9) rfl zd_D_mixRow_236 ?_
        refine lv_iconst (v := (nI (3))) hx hb zd_D_mixRow_239 (by decide) ?_
        refine lv_dup2_11 hx hb zd_D_mixRow_240 rfl rfl ?_
        refine va_iald hx hb hK hdy.1 0 0 rfl rfl (vp_in_nI (by omega) (by omega)) zd_D_mixRow_241 ?_
        refine lv_topi (fun x29 _ => ?_)
        refine lv_iload hx hb zd_D_mixRow_242 (lv_at hl 5 rfl) ?_
        refine lv_iadd hx hb zd_D_mixRow_244 ?_
        refine lv_topi (fun x30 _ => ?_)
        refine va_iast hx hb hK hdy.1 hdy.2.1 hdy.2.2 0 0 rfl rfl (vp_in_nI (by omega) (by omega)) zd_D_mixRow_245 (fun H locs hP hD hS => ?_)
        obtain ⟨f31, hdy⟩ : ∃ f31 : Nat → Int32, kz_dy (dC, dI) vwCl A s.heap H locs [(su, .inl (cI, 8, .inl f31)), (ro, .inl (cI, 64, .inl f19))] := ⟨_, hP, hD, hS⟩
        refine lv_aload_n hx hb zd_D_mixRow_246 rfl (lv_at hl 9 rfl) ?_
        refine va_get (D := (dC, dI)) (ci := 3) (v := .ref su) (C := zR_D) (T := zT_D) (N := 3) hx hb hts (fun w h => kz_c (zi_D w h)) hown hK (hro.ob hdy.2.2 (k := 0) rfl) 0 rfl rfl 0 (by decide) (hts _ (kz_c mw_119)) (fun _ h9 => h9) rfl zd_D_mixRow_247 ?_
        refine lv_iconst (v := (nI (4))) hx hb zd_D_mixRow_250 (by decide) ?_
        refine lv_dup2_11 hx hb zd_D_mixRow_251 rfl rfl ?_
        refine va_iald hx hb hK hdy.1 0 0 rfl rfl (vp_in_nI (by omega) (by omega)) zd_D_mixRow_252 ?_
        refine lv_topi (fun x32 _ => ?_)
        refine lv_iload hx hb zd_D_mixRow_253 (lv_at hl 4 rfl) ?_
        refine lv_iadd hx hb zd_D_mixRow_255 ?_
        refine lv_topi (fun x33 _ => ?_)
        refine va_iast hx hb hK hdy.1 hdy.2.1 hdy.2.2 0 0 rfl rfl (vp_in_nI (by omega) (by omega)) zd_D_mixRow_256 (fun H locs hP hD hS => ?_)
        obtain ⟨f34, hdy⟩ : ∃ f34 : Nat → Int32, kz_dy (dC, dI) vwCl A s.heap H locs [(su, .inl (cI, 8, .inl f34)), (ro, .inl (cI, 64, .inl f19))] := ⟨_, hP, hD, hS⟩
        refine lv_aload_n hx hb zd_D_mixRow_257 rfl (lv_at hl 9 rfl) ?_
        refine va_get (D := (dC, dI)) (ci := 3) (v := .ref su) (C := zR_D) (T := zT_D) (N := 3) hx hb hts (fun w h => kz_c (zi_D w h)) hown hK (hro.ob hdy.2.2 (k := 0) rfl) 0 rfl rfl 0 (by decide) (hts _ (kz_c mw_119)) (fun _ h9 => h9) rfl zd_D_mixRow_258 ?_
        refine lv_iconst (v := (nI (5))) hx hb zd_D_mixRow_261 (by decide) ?_
        refine lv_dup2_11 hx hb zd_D_mixRow_262 rfl rfl ?_
        refine va_iald hx hb hK hdy.1 0 0 rfl rfl (vp_in_nI (by omega) (by omega)) zd_D_mixRow_263 ?_
        refine lv_topi (fun x35 _ => ?_)
        refine lv_iload hx hb zd_D_mixRow_264 (lv_at hl 3 rfl) ?_
        refine lv_iadd hx hb zd_D_mixRow_266 ?_
        refine lv_topi (fun x36 _ => ?_)
        refine va_iast hx hb hK hdy.1 hdy.2.1 hdy.2.2 0 0 rfl rfl (vp_in_nI (by omega) (by omega)) zd_D_mixRow_267 (fun H locs hP hD hS => ?_)
        obtain ⟨f37, hdy⟩ : ∃ f37 : Nat → Int32, kz_dy (dC, dI) vwCl A s.heap H locs [(su, .inl (cI, 8, .inl f37)), (ro, .inl (cI, 64, .inl f19))] := ⟨_, hP, hD, hS⟩
        refine lv_aload_n hx hb zd_D_mixRow_268 rfl (lv_at hl 9 rfl) ?_
        refine va_get (D := (dC, dI)) (ci := 3) (v := .ref su) (C := zR_D) (T := zT_D) (N := 3) hx hb hts (fun w h => kz_c (zi_D w h)) hown hK (hro.ob hdy.2.2 (k := 0) rfl) 0 rfl rfl 0 (by decide) (hts _ (kz_c mw_119)) (fun _ h9 => h9) rfl zd_D_mixRow_269 ?_
        refine lv_bipush (v := (nI (6))) hx hb zd_D_mixRow_272 (by decide) ?_
        refine lv_dup2_11 hx hb zd_D_mixRow_274 rfl rfl ?_
        refine va_iald hx hb hK hdy.1 0 0 rfl rfl (vp_in_nI (by omega) (by omega)) zd_D_mixRow_275 ?_
        refine lv_topi (fun x38 _ => ?_)
        refine lv_iload hx hb zd_D_mixRow_276 (lv_at hl 2 rfl) ?_
        refine lv_iadd hx hb zd_D_mixRow_278 ?_
        refine lv_topi (fun x39 _ => ?_)
        refine va_iast hx hb hK hdy.1 hdy.2.1 hdy.2.2 0 0 rfl rfl (vp_in_nI (by omega) (by omega)) zd_D_mixRow_279 (fun H locs hP hD hS => ?_)
        obtain ⟨f40, hdy⟩ : ∃ f40 : Nat → Int32, kz_dy (dC, dI) vwCl A s.heap H locs [(su, .inl (cI, 8, .inl f40)), (ro, .inl (cI, 64, .inl f19))] := ⟨_, hP, hD, hS⟩
        refine lv_aload_n hx hb zd_D_mixRow_280 rfl (lv_at hl 9 rfl) ?_
        refine va_get (D := (dC, dI)) (ci := 3) (v := .ref su) (C := zR_D) (T := zT_D) (N := 3) hx hb hts (fun w h => kz_c (zi_D w h)) hown hK (hro.ob hdy.2.2 (k := 0) rfl) 0 rfl rfl 0 (by decide) (hts _ (kz_c mw_119)) (fun _ h9 => h9) rfl zd_D_mixRow_281 ?_
        refine lv_bipush (v := (nI (7))) hx hb zd_D_mixRow_284 (by decide) ?_
        refine lv_dup2_11 hx hb zd_D_mixRow_286 rfl rfl ?_
        refine va_iald hx hb hK hdy.1 0 0 rfl rfl (vp_in_nI (by omega) (by omega)) zd_D_mixRow_287 ?_
        refine lv_topi (fun x41 _ => ?_)
        refine lv_iload hx hb zd_D_mixRow_288 (lv_at hl 1 rfl) ?_
        refine lv_iadd hx hb zd_D_mixRow_290 ?_
        refine lv_topi (fun x42 _ => ?_)
        refine va_iast hx hb hK hdy.1 hdy.2.1 hdy.2.2 0 0 rfl rfl (vp_in_nI (by omega) (by omega)) zd_D_mixRow_291 (fun H locs hP hD hS => ?_)
        obtain ⟨f43, hdy⟩ : ∃ f43 : Nat → Int32, kz_dy (dC, dI) vwCl A s.heap H locs [(su, .inl (cI, 8, .inl f43)), (ro, .inl (cI, 64, .inl f19))] := ⟨_, hP, hD, hS⟩
        exact kz_vret F (f43, f19) hdy (trivial) zd_D_mixRow_292
      · have hc74 : ¬ 64 ≤ k70 := fun h9 => hc74 ((nI_leI (by omega) (by omega)).mpr h9)
        refine lv_iload hx hb zd_D_mixRow_77 (lv_at hl 1 rfl) ?_
        refine lv_iload hx hb zd_D_mixRow_79 (lv_at hl 4 rfl) ?_
        refine lv_bipush (v := (nI (6))) hx hb zd_D_mixRow_81 (by decide) ?_
        refine kz_calli (wk := [(su, .inl (cI, 8, .inl f18)), (ro, .inl (cI, 64, .inl f19))]) (va_runS (As := [.int x13, .int (nI (6))]) (rest := [.int x10]) ⟨hx, hb, hml, hown, hts⟩ (c_Dig_turn l dC dI cI cAA cB cL (x13) ((nI (6))) _) (va_cwS 2 hts (kz_g (kz_mc mw_322 (kz_mc mw_323 (kz_mc mw_42 kz_mn))) mw_324) rfl rfl rfl (by decide +kernel) ⟨Nat.le_of_ble_eq_true rfl, Nat.le_of_ble_eq_true rfl⟩) (kz_preS hdy hA hK hro hZ hN [] (by decide) rfl [] rfl (by decide) [0, 1, 2, 3] rfl (fun _ h => by cases h) (fun _ h => by cases h) rfl) rfl rfl hl.1 rfl (lv_room (Nat.le_of_ble_eq_true rfl)) zd_D_mixRow_83 ⟨Nat.le_of_ble_eq_true rfl, Nat.le_of_ble_eq_true rfl⟩) hdy hA [] [0, 1] rfl rfl (by decide) (by decide) (fun r u H locs hw hdy => ?_)
        obtain ⟨r44, rfl⟩ : ∃ z, z = r := ⟨_, rfl⟩
        have hdy : kz_dy (dC, dI) vwCl A s.heap H locs [(su, .inl (cI, 8, .inl f18)), (ro, .inl (cI, 64, .inl f19))] := hdy.sub [0, 1] (by decide) rfl
        refine lv_iload hx hb zd_D_mixRow_86 (lv_at hl 4 rfl) ?_
        refine lv_bipush (v := (nI (11))) hx hb zd_D_mixRow_88 (by decide) ?_
        refine kz_calli (wk := [(su, .inl (cI, 8, .inl f18)), (ro, .inl (cI, 64, .inl f19))]) (va_runS (As := [.int x13, .int (nI (11))]) (rest := [.int r44, .int x10]) ⟨hx, hb, hml, hown, hts⟩ (c_Dig_turn l dC dI cI cAA cB cL (x13) ((nI (11))) _) (va_cwS 2 hts (kz_g (kz_mc mw_322 (kz_mc mw_323 (kz_mc mw_42 kz_mn))) mw_324) rfl rfl rfl (by decide +kernel) ⟨Nat.le_of_ble_eq_true rfl, Nat.le_of_ble_eq_true rfl⟩) (kz_preS hdy hA hK hro hZ hN [] (by decide) rfl [] rfl (by decide) [0, 1, 2, 3] rfl (fun _ h => by cases h) (fun _ h => by cases h) rfl) rfl rfl hl.1 rfl (lv_room (Nat.le_of_ble_eq_true rfl)) zd_D_mixRow_90 ⟨Nat.le_of_ble_eq_true rfl, Nat.le_of_ble_eq_true rfl⟩) hdy hA [] [0, 1] rfl rfl (by decide) (by decide) (fun r u H locs hw hdy => ?_)
        obtain ⟨r45, rfl⟩ : ∃ z, z = r := ⟨_, rfl⟩
        have hdy : kz_dy (dC, dI) vwCl A s.heap H locs [(su, .inl (cI, 8, .inl f18)), (ro, .inl (cI, 64, .inl f19))] := hdy.sub [0, 1] (by decide) rfl
        refine lv_ixor hx hb zd_D_mixRow_93 ?_
        refine lv_topi (fun x46 _ => ?_)
        refine lv_iload hx hb zd_D_mixRow_94 (lv_at hl 4 rfl) ?_
        refine lv_bipush (v := (nI (25))) hx hb zd_D_mixRow_96 (by decide) ?_
        refine kz_calli (wk := [(su, .inl (cI, 8, .inl f18)), (ro, .inl (cI, 64, .inl f19))]) (va_runS (As := [.int x13, .int (nI (25))]) (rest := [.int x46, .int x10]) ⟨hx, hb, hml, hown, hts⟩ (c_Dig_turn l dC dI cI cAA cB cL (x13) ((nI (25))) _) (va_cwS 2 hts (kz_g (kz_mc mw_322 (kz_mc mw_323 (kz_mc mw_42 kz_mn))) mw_324) rfl rfl rfl (by decide +kernel) ⟨Nat.le_of_ble_eq_true rfl, Nat.le_of_ble_eq_true rfl⟩) (kz_preS hdy hA hK hro hZ hN [] (by decide) rfl [] rfl (by decide) [0, 1, 2, 3] rfl (fun _ h => by cases h) (fun _ h => by cases h) rfl) rfl rfl hl.1 rfl (lv_room (Nat.le_of_ble_eq_true rfl)) zd_D_mixRow_98 ⟨Nat.le_of_ble_eq_true rfl, Nat.le_of_ble_eq_true rfl⟩) hdy hA [] [0, 1] rfl rfl (by decide) (by decide) (fun r u H locs hw hdy => ?_)
        obtain ⟨r47, rfl⟩ : ∃ z, z = r := ⟨_, rfl⟩
        have hdy : kz_dy (dC, dI) vwCl A s.heap H locs [(su, .inl (cI, 8, .inl f18)), (ro, .inl (cI, 64, .inl f19))] := hdy.sub [0, 1] (by decide) rfl
        refine lv_ixor hx hb zd_D_mixRow_101 ?_
        refine lv_topi (fun x48 _ => ?_)
        refine lv_iadd hx hb zd_D_mixRow_102 ?_
        refine lv_topi (fun x49 _ => ?_)
        refine lv_iload hx hb zd_D_mixRow_103 (lv_at hl 4 rfl) ?_
        refine lv_iload hx hb zd_D_mixRow_105 (lv_at hl 3 rfl) ?_
        refine lv_iand hx hb zd_D_mixRow_107 ?_
        refine lv_topi (fun x50 _ => ?_)
        refine lv_iload hx hb zd_D_mixRow_108 (lv_at hl 4 rfl) ?_
        refine lv_iconst (v := (-1)) hx hb zd_D_mixRow_110 (by decide) ?_
        refine lv_ixor hx hb zd_D_mixRow_111 ?_
        refine lv_topi (fun x51 _ => ?_)
        refine lv_iload hx hb zd_D_mixRow_112 (lv_at hl 2 rfl) ?_
        refine lv_iand hx hb zd_D_mixRow_114 ?_
        refine lv_topi (fun x52 _ => ?_)
        refine lv_ixor hx hb zd_D_mixRow_115 ?_
        refine lv_topi (fun x53 _ => ?_)
        refine lv_iadd hx hb zd_D_mixRow_116 ?_
        refine lv_topi (fun x54 _ => ?_)
        refine va_gets hx hb (hZ _ (List.mem_of_getElem? (i := 0) rfl)) hdy.2.2 hown (hts _ (kz_c mw_325)) (fun _ h9 => h9) zd_D_mixRow_117 ?_
        refine lv_iload hx hb zd_D_mixRow_120 (lv_at hl 0 rfl) ?_
        refine kz_riald hx hb hK hro hdy.2.2 1 0 rfl rfl (vp_in_nI (by omega) (by omega)) zd_D_mixRow_122 ?_
        refine lv_topi (fun x55 _ => ?_)
        refine lv_iadd hx hb zd_D_mixRow_123 ?_
        refine lv_topi (fun x56 _ => ?_)
        refine lv_aload_n hx hb zd_D_mixRow_124 rfl (lv_at hl 9 rfl) ?_
        refine va_get (D := (dC, dI)) (ci := 3) (v := .ref ro) (C := zR_D) (T := zT_D) (N := 3) hx hb hts (fun w h => kz_c (zi_D w h)) hown hK (hro.ob hdy.2.2 (k := 0) rfl) 0 rfl rfl 1 (by decide) (hts _ (kz_c mw_120)) (fun _ h9 => h9) rfl zd_D_mixRow_125 ?_
        refine lv_iload hx hb zd_D_mixRow_128 (lv_at hl 0 rfl) ?_
        refine va_iald hx hb hK hdy.1 1 0 rfl rfl (vp_in_nI (by omega) (by omega)) zd_D_mixRow_130 ?_
        refine lv_topi (fun x57 _ => ?_)
        refine lv_iadd hx hb zd_D_mixRow_131 ?_
        refine lv_topi (fun x58 _ => ?_)
        refine lv_istore (lv' := [(10, .int x58), (9, .int (nI (k70))), (8, .int x10), (7, .int x11), (6, .int x12), (5, .int x13), (4, .int x14), (3, .int x15), (2, .int x16), (1, .int x17), (0, .ref h)]) hx hb zd_D_mixRow_132 hl (by decide) rfl (fun ls hl => ?_)
        refine lv_iload_n hx hb zd_D_mixRow_134 rfl (lv_at hl 9 rfl) ?_
        refine lv_iconst (v := (nI (2))) hx hb zd_D_mixRow_135 (by decide) ?_
        refine kz_calli (wk := [(su, .inl (cI, 8, .inl f18)), (ro, .inl (cI, 64, .inl f19))]) (va_runS (As := [.int x17, .int (nI (2))]) (rest := []) ⟨hx, hb, hml, hown, hts⟩ (c_Dig_turn l dC dI cI cAA cB cL (x17) ((nI (2))) _) (va_cwS 2 hts (kz_g (kz_mc mw_322 (kz_mc mw_323 (kz_mc mw_42 kz_mn))) mw_324) rfl rfl rfl (by decide +kernel) ⟨Nat.le_of_ble_eq_true rfl, Nat.le_of_ble_eq_true rfl⟩) (kz_preS hdy hA hK hro hZ hN [] (by decide) rfl [] rfl (by decide) [0, 1, 2, 3] rfl (fun _ h => by cases h) (fun _ h => by cases h) rfl) rfl rfl hl.1 rfl (lv_room (Nat.le_of_ble_eq_true rfl)) zd_D_mixRow_136 ⟨Nat.le_of_ble_eq_true rfl, Nat.le_of_ble_eq_true rfl⟩) hdy hA [] [0, 1] rfl rfl (by decide) (by decide) (fun r u H locs hw hdy => ?_)
        obtain ⟨r59, rfl⟩ : ∃ z, z = r := ⟨_, rfl⟩
        have hdy : kz_dy (dC, dI) vwCl A s.heap H locs [(su, .inl (cI, 8, .inl f18)), (ro, .inl (cI, 64, .inl f19))] := hdy.sub [0, 1] (by decide) rfl
        refine lv_iload_n hx hb zd_D_mixRow_139 rfl (lv_at hl 9 rfl) ?_
        refine lv_bipush (v := (nI (13))) hx hb zd_D_mixRow_140 (by decide) ?_
        refine kz_calli (wk := [(su, .inl (cI, 8, .inl f18)), (ro, .inl (cI, 64, .inl f19))]) (va_runS (As := [.int x17, .int (nI (13))]) (rest := [.int r59]) ⟨hx, hb, hml, hown, hts⟩ (c_Dig_turn l dC dI cI cAA cB cL (x17) ((nI (13))) _) (va_cwS 2 hts (kz_g (kz_mc mw_322 (kz_mc mw_323 (kz_mc mw_42 kz_mn))) mw_324) rfl rfl rfl (by decide +kernel) ⟨Nat.le_of_ble_eq_true rfl, Nat.le_of_ble_eq_true rfl⟩) (kz_preS hdy hA hK hro hZ hN [] (by decide) rfl [] rfl (by decide) [0, 1, 2, 3] rfl (fun _ h => by cases h) (fun _ h => by cases h) rfl) rfl rfl hl.1 rfl (lv_room (Nat.le_of_ble_eq_true rfl)) zd_D_mixRow_142 ⟨Nat.le_of_ble_eq_true rfl, Nat.le_of_ble_eq_true rfl⟩) hdy hA [] [0, 1] rfl rfl (by decide) (by decide) (fun r u H locs hw hdy => ?_)
        obtain ⟨r60, rfl⟩ : ∃ z, z = r := ⟨_, rfl⟩
        have hdy : kz_dy (dC, dI) vwCl A s.heap H locs [(su, .inl (cI, 8, .inl f18)), (ro, .inl (cI, 64, .inl f19))] := hdy.sub [0, 1] (by decide) rfl
        refine lv_ixor hx hb zd_D_mixRow_145 ?_
        refine lv_topi (fun x61 _ => ?_)
        refine lv_iload_n hx hb zd_D_mixRow_146 rfl (lv_at hl 9 rfl) ?_
        refine lv_bipush (v := (nI (22))) hx hb zd_D_mixRow_147 (by decide) ?_
        refine kz_calli (wk := [(su, .inl (cI, 8, .inl f18)), (ro, .inl (cI, 64, .inl f19))]) (va_runS (As := [.int x17, .int (nI (22))]) (rest := [.int x61]) ⟨hx, hb, hml, hown, hts⟩ (c_Dig_turn l dC dI cI cAA cB cL (x17) ((nI (22))) _) (va_cwS 2 hts (kz_g (kz_mc mw_322 (kz_mc mw_323 (kz_mc mw_42 kz_mn))) mw_324) rfl rfl rfl (by decide +kernel) ⟨Nat.le_of_ble_eq_true rfl, Nat.le_of_ble_eq_true rfl⟩) (kz_preS hdy hA hK hro hZ hN [] (by decide) rfl [] rfl (by decide) [0, 1, 2, 3] rfl (fun _ h => by cases h) (fun _ h => by cases h) rfl) rfl rfl hl.1 rfl (lv_room (Nat.le_of_ble_eq_true rfl)) zd_D_mixRow_149 ⟨Nat.le_of_ble_eq_true rfl, Nat.le_of_ble_eq_true rfl⟩) hdy hA [] [0, 1] rfl rfl (by decide) (by decide) (fun r u H locs hw hdy => ?_)
        obtain ⟨r62, rfl⟩ : ∃ z, z = r := ⟨_, rfl⟩
        have hdy : kz_dy (dC, dI) vwCl A s.heap H locs [(su, .inl (cI, 8, .inl f18)), (ro, .inl (cI, 64, .inl f19))] := hdy.sub [0, 1] (by decide) rfl
        refine lv_ixor hx hb zd_D_mixRow_152 ?_
        refine lv_topi (fun x63 _ => ?_)
        refine lv_iload_n hx hb zd_D_mixRow_153 rfl (lv_at hl 9 rfl) ?_
        refine lv_iload_n hx hb zd_D_mixRow_154 rfl (lv_at hl 8 rfl) ?_
        refine lv_iand hx hb zd_D_mixRow_155 ?_
        refine lv_topi (fun x64 _ => ?_)
        refine lv_iload_n hx hb zd_D_mixRow_156 rfl (lv_at hl 9 rfl) ?_
        refine lv_iload_n hx hb zd_D_mixRow_157 rfl (lv_at hl 7 rfl) ?_
        refine lv_iand hx hb zd_D_mixRow_158 ?_
        refine lv_topi (fun x65 _ => ?_)
        refine lv_ixor hx hb zd_D_mixRow_159 ?_
        refine lv_topi (fun x66 _ => ?_)
        refine lv_iload_n hx hb zd_D_mixRow_160 rfl (lv_at hl 8 rfl) ?_
        refine lv_iload_n hx hb zd_D_mixRow_161 rfl (lv_at hl 7 rfl) ?_
        refine lv_iand hx hb zd_D_mixRow_162 ?_
        refine lv_topi (fun x67 _ => ?_)
        refine lv_ixor hx hb zd_D_mixRow_163 ?_
        refine lv_topi (fun x68 _ => ?_)
        refine lv_iadd hx hb zd_D_mixRow_164 ?_
        refine lv_topi (fun x69 _ => ?_)
        refine lv_istore (lv' := [(11, .int x69), (10, .int x58), (9, .int (nI (k70))), (8, .int x10), (7, .int x11), (6, .int x12), (5, .int x13), (4, .int x14), (3, .int x15), (2, .int x16), (1, .int x17), (0, .ref h)]) hx hb zd_D_mixRow_165 hl (by decide) rfl (fun ls hl => ?_)
        refine lv_iload hx hb zd_D_mixRow_167 (lv_at hl 4 rfl) ?_
        refine lv_istore (lv' := [(8, .int x11), (11, .int x69), (10, .int x58), (9, .int (nI (k70))), (7, .int x11), (6, .int x12), (5, .int x13), (4, .int x14), (3, .int x15), (2, .int x16), (1, .int x17), (0, .ref h)]) hx hb zd_D_mixRow_169 hl (by decide) rfl (fun ls hl => ?_)
        refine lv_iload hx hb zd_D_mixRow_171 (lv_at hl 5 rfl) ?_
        refine lv_istore (lv' := [(7, .int x12), (8, .int x11), (11, .int x69), (10, .int x58), (9, .int (nI (k70))), (6, .int x12), (5, .int x13), (4, .int x14), (3, .int x15), (2, .int x16), (1, .int x17), (0, .ref h)]) hx hb zd_D_mixRow_173 hl (by decide) rfl (fun ls hl => ?_)
        refine lv_iload hx hb zd_D_mixRow_175 (lv_at hl 6 rfl) ?_
        refine lv_istore (lv' := [(6, .int x13), (7, .int x12), (8, .int x11), (11, .int x69), (10, .int x58), (9, .int (nI (k70))), (5, .int x13), (4, .int x14), (3, .int x15), (2, .int x16), (1, .int x17), (0, .ref h)]) hx hb zd_D_mixRow_177 hl (by decide) rfl (fun ls hl => ?_)
        refine lv_iload hx hb zd_D_mixRow_179 (lv_at hl 7 rfl) ?_
        refine lv_iload hx hb zd_D_mixRow_181 (lv_at hl 4 rfl) ?_
        refine lv_iadd hx hb zd_D_mixRow_183 ?_
        refine lv_topi (fun x70 _ => ?_)
        refine lv_istore (lv' := [(5, .int x70), (6, .int x13), (7, .int x12), (8, .int x11), (11, .int x69), (10, .int x58), (9, .int (nI (k70))), (4, .int x14), (3, .int x15), (2, .int x16), (1, .int x17), (0, .ref h)]) hx hb zd_D_mixRow_184 hl (by decide) rfl (fun ls hl => ?_)
        refine lv_iload_n hx hb zd_D_mixRow_186 rfl (lv_at hl 8 rfl) ?_
        refine lv_istore (lv' := [(4, .int x15), (5, .int x70), (6, .int x13), (7, .int x12), (8, .int x11), (11, .int x69), (10, .int x58), (9, .int (nI (k70))), (3, .int x15), (2, .int x16), (1, .int x17), (0, .ref h)]) hx hb zd_D_mixRow_187 hl (by decide) rfl (fun ls hl => ?_)
        refine lv_iload_n hx hb zd_D_mixRow_189 rfl (lv_at hl 9 rfl) ?_
        refine lv_istore_n (lv' := [(3, .int x16), (4, .int x15), (5, .int x70), (6, .int x13), (7, .int x12), (8, .int x11), (11, .int x69), (10, .int x58), (9, .int (nI (k70))), (2, .int x16), (1, .int x17), (0, .ref h)]) hx hb zd_D_mixRow_190 rfl hl (by decide) rfl (fun ls hl => ?_)
        refine lv_iload_n hx hb zd_D_mixRow_191 rfl (lv_at hl 10 rfl) ?_
        refine lv_istore_n (lv' := [(2, .int x17), (3, .int x16), (4, .int x15), (5, .int x70), (6, .int x13), (7, .int x12), (8, .int x11), (11, .int x69), (10, .int x58), (9, .int (nI (k70))), (1, .int x17), (0, .ref h)]) hx hb zd_D_mixRow_192 rfl hl (by decide) rfl (fun ls hl => ?_)
        refine lv_iload hx hb zd_D_mixRow_193 (lv_at hl 8 rfl) ?_
        refine lv_iload hx hb zd_D_mixRow_195 (lv_at hl 7 rfl) ?_
        refine lv_iadd hx hb zd_D_mixRow_197 ?_
        refine lv_topi (fun x71 _ => ?_)
        refine lv_istore_n (lv' := [(1, .int x71), (2, .int x17), (3, .int x16), (4, .int x15), (5, .int x70), (6, .int x13), (7, .int x12), (8, .int x11), (11, .int x69), (10, .int x58), (9, .int (nI (k70))), (0, .ref h)]) hx hb zd_D_mixRow_198 rfl hl (by decide) rfl (fun ls hl => ?_)
        refine lv_iinc (v := (nI (k70 + 1))) (lv' := [(9, .int (nI (k70 + 1))), (1, .int x71), (2, .int x17), (3, .int x16), (4, .int x15), (5, .int x70), (6, .int x13), (7, .int x12), (8, .int x11), (11, .int x69), (10, .int x58), (0, .ref h)]) hx hb zd_D_mixRow_199 hl (k := 10) rfl (nI_1 _) (by decide) rfl (fun ls hl => ?_)
        refine lv_goto (tgt := 70) hx hb zd_D_mixRow_202 (by decide) ?_
        exact ih70 (k70 + 1) (x11) (x12) (x13) (x70) (x15) (x16) (x17) (x71) f18 f19 _ _ _ (by omega) (by omega) hdy (lv_sub hl [0, 8, 7, 6, 5, 4, 3, 2, 1, 11] rfl)
  exact lp70 (64 - 0 + 1) 0 (x9) (x8) (x7) (x6) (x5) (x4) (x3) (x2) gsu f1 _ _ _ (by omega) (by omega) hdy (lv_sub hl [0, 1, 2, 3, 4, 5, 6, 7, 8, 9] rfl)

set_option maxHeartbeats 4000000 in
set_option maxRecDepth 100000 in
/-- KeyMeeting$Digest.putWord(I)V -/
theorem c_Dig_putWord (l : Launch) (dC : Nat → ClassId) (dI : Nat → Nat → Nat) (cI cAA cB cL : ClassId) (h su ro roots : Nat) (ct : Nat) (gsu : Nat → Int32) (gro : Nat → Int32) (groots : Nat → Int32) (v : Int32) (sz : Nat) (hct : ct < 1000) : Met l zy_D_putWord zw_D_putWord { frames := 3, cells := 0, slots := 0, locals := 77 } (kz_Pc (dC, dI) vwCl [(cI, .int), (cAA, .array .int), (cB, .byte), (cL, .long)] [("KeyMeeting$Digest", "ROOTS", "[I", .ref roots)] [] [.ref h, .int v] [(h, .inr (3, [.ref su, .ref ro, .int (nI (ct))])), (su, .inl (cI, 8, .inl gsu)), (ro, .inl (cI, 64, .inl gro))] [(roots, .inl (cI, 64, .inl groots))] sz) (va_Qv (fun (u : Nat × (Nat → Int32) × (Nat → Int32)) => (u.1 = ct + 1) ∧ True) (kz_B (dC, dI) vwCl (va_A [(h, .inr (3, [.ref su, .ref ro, .int (nI (ct))])), (su, .inl (cI, 8, .inl gsu)), (ro, .inl (cI, 64, .inl gro))] sz) (fun u : Nat × (Nat → Int32) × (Nat → Int32) => [(h, .inr (3, [.ref su, .ref ro, .int (nI (u.1))])), (su, .inl (cI, 8, .inl u.2.1)), (ro, .inl (cI, 64, .inl u.2.2))])) (va_A [(h, .inr (3, [.ref su, .ref ro, .int (nI (ct))])), (su, .inl (cI, 8, .inl gsu)), (ro, .inl (cI, 64, .inl gro))] sz)) 0 0 (va_A [(h, .inr (3, [.ref su, .ref ro, .int (nI (ct))])), (su, .inl (cI, 8, .inl gsu)), (ro, .inl (cI, 64, .inl gro))] sz) := by
  refine kz_met (y := zy_D_putWord) (ws := zw_D_putWord) (av := [.ref h, .int v]) (sz := sz) (Qc := fun A => va_Qv (fun (u : Nat × (Nat → Int32) × (Nat → Int32)) => (u.1 = ct + 1) ∧ True) (kz_B (dC, dI) vwCl A (fun u : Nat × (Nat → Int32) × (Nat → Int32) => [(h, .inr (3, [.ref su, .ref ro, .int (nI (u.1))])), (su, .inl (cI, 8, .inl u.2.1)), (ro, .inl (cI, 64, .inl u.2.2))])) A) (cc := zc_D_putWord) (maxL := 2) (ret := none) (by decide) rfl (Nat.le_of_ble_eq_true rfl) ?_
  intro p e s m below meth c A ls F hA hdy hK hro hZ hN hl
  obtain ⟨hx, hb, hml, hr, hown, hlocks, hts, hnm⟩ := id F
  have hl : lv_has ls 2 [(0, .ref h), (1, .int v)] := hl
  refine lv_aload_n hx hb zd_D_putWord_0 rfl (lv_at hl 0 rfl) ?_
  refine va_get (D := (dC, dI)) (ci := 3) (v := .ref ro) (C := zR_D) (T := zT_D) (N := 3) hx hb hts (fun w h => kz_c (zi_D w h)) hown hK hdy.1 0 rfl rfl 1 (by decide) (hts _ (kz_c mw_120)) (fun _ h9 => h9) rfl zd_D_putWord_1 ?_
  refine lv_aload_n hx hb zd_D_putWord_4 rfl (lv_at hl 0 rfl) ?_
  refine va_get (D := (dC, dI)) (ci := 3) (v := .int (nI (ct))) (C := zR_D) (T := zT_D) (N := 3) hx hb hts (fun w h => kz_c (zi_D w h)) hown hK hdy.1 0 rfl rfl 2 (by decide) (hts _ (kz_c mw_121)) (fun _ h9 => h9) rfl zd_D_putWord_5 ?_
  refine lv_bipush (v := (nI (16))) hx hb zd_D_putWord_8 (by decide) ?_
  refine kz_irem hx hb zd_D_putWord_10 (by decide) (pk_rem (by omega) (by omega) (by omega)) ?_
  refine lv_iload_n hx hb zd_D_putWord_11 rfl (lv_at hl 1 rfl) ?_
  refine va_iast hx hb hK hdy.1 hdy.2.1 hdy.2.2 2 0 rfl rfl (vp_in_nI (by omega) (by omega)) zd_D_putWord_12 (fun H locs hP hD hS => ?_)
  obtain ⟨f1, hdy⟩ : ∃ f1 : Nat → Int32, kz_dy (dC, dI) vwCl A s.heap H locs [(h, .inr (3, [.ref su, .ref ro, .int (nI (ct))])), (su, .inl (cI, 8, .inl gsu)), (ro, .inl (cI, 64, .inl f1))] := ⟨_, hP, hD, hS⟩
  refine lv_aload_n hx hb zd_D_putWord_13 rfl (lv_at hl 0 rfl) ?_
  refine lv_dup hx hb zd_D_putWord_14 rfl ?_
  refine va_get (D := (dC, dI)) (ci := 3) (v := .int (nI (ct))) (C := zR_D) (T := zT_D) (N := 3) hx hb hts (fun w h => kz_c (zi_D w h)) hown hK hdy.1 0 rfl rfl 2 (by decide) (hts _ (kz_c mw_121)) (fun _ h9 => h9) rfl zd_D_putWord_15 ?_
  refine lv_iconst (v := (nI (1))) hx hb zd_D_putWord_18 (by decide) ?_
  refine kz_iadd hx hb zd_D_putWord_19 (nI_add _ _) ?_
  refine va_put (D := (dC, dI)) (ci := 3) (v := .int (nI (ct + 1))) (ty := .int) (C := zR_D) (T := zT_D) (N := 3) hx hb hts (fun w h => kz_c (zi_D w h)) zt_D zo_D zn_D hown hK hdy.1 hdy.2.1 hdy.2.2 0 rfl rfl 2 (by decide) (hts _ (kz_c mw_121)) (fun _ h9 => h9) rfl (by decide +kernel) rfl rfl (Nat.le_of_ble_eq_true rfl) zd_D_putWord_20 (fun H locs hP hD hS => ?_)
  have hdy : kz_dy (dC, dI) vwCl A s.heap H locs [(h, .inr (3, [.ref su, .ref ro, .int (nI (ct + 1))])), (su, .inl (cI, 8, .inl gsu)), (ro, .inl (cI, 64, .inl f1))] := ⟨hP, hD, hS⟩
  refine lv_aload_n hx hb zd_D_putWord_23 rfl (lv_at hl 0 rfl) ?_
  refine va_get (D := (dC, dI)) (ci := 3) (v := .int (nI (ct + 1))) (C := zR_D) (T := zT_D) (N := 3) hx hb hts (fun w h => kz_c (zi_D w h)) hown hK hdy.1 0 rfl rfl 2 (by decide) (hts _ (kz_c mw_121)) (fun _ h9 => h9) rfl zd_D_putWord_24 ?_
  refine lv_bipush (v := (nI (16))) hx hb zd_D_putWord_27 (by decide) ?_
  refine kz_irem hx hb zd_D_putWord_29 (by decide) (pk_rem (by omega) (by omega) (by omega)) ?_
  refine lv_if_ne (tgt := 37) hx hb zd_D_putWord_30 (by decide) (fun hc30 => ?_) (fun hc30 => ?_)
  · have hc30 : ¬ ((ct + 1) % 16) = 0 := fun h9 => hc30 (by have h8 := (nI_eq (by omega) (by omega)).mpr h9; rw [nI_0] at h8; exact h8)
    exact kz_vret F (ct + 1, gsu, f1) hdy (⟨by first | assumption | rfl | omega, trivial⟩) zd_D_putWord_37
  · have hc30 : ((ct + 1) % 16) = 0 := (nI_eq (by omega) (by omega)).mp (by rw [nI_0]; exact hc30)
    refine lv_aload_n hx hb zd_D_putWord_33 rfl (lv_at hl 0 rfl) ?_
    refine kz_callv (wk := [(h, .inr (3, [.ref su, .ref ro, .int (nI (ct + 1))]))]) (va_runV (As := []) (rest := []) ⟨hx, hb, hml, hown, hts⟩ (c_Dig_mixRow l dC dI cI cAA cB cL su ro h roots gsu f1 (ct + 1) groots _) (cwV 0 hts (kz_g (kz_mc mw_314 (kz_mc mw_316 (kz_mc mw_14 (kz_mc mw_42 kz_mn)))) mw_317) rfl rfl rfl (by decide +kernel) ⟨Nat.le_of_ble_eq_true rfl, Nat.le_of_ble_eq_true rfl⟩) (kz_preV hdy hA hK hro hZ hN [1, 2] (by decide) rfl [(false, 0), (true, 0)] rfl (by decide) [0, 1, 2, 3] rfl (fun _ h => h) (fun _ h => by cases h) rfl (ci := 3) (q0 := 0) rfl rfl rfl) rfl rfl hl.1 rfl (lv_room (Nat.le_of_ble_eq_true rfl)) zd_D_putWord_34 ⟨Nat.le_of_ble_eq_true rfl, Nat.le_of_ble_eq_true rfl⟩) hdy hA [1, 2] [0] rfl rfl (by decide) (by decide) (fun u H locs hw hdy => ?_)
    obtain ⟨f2, f3⟩ := u
    have hdy : kz_dy (dC, dI) vwCl A s.heap H locs [(h, .inr (3, [.ref su, .ref ro, .int (nI (ct + 1))])), (su, .inl (cI, 8, .inl f2)), (ro, .inl (cI, 64, .inl f3))] := hdy.sub [0, 1, 2] (by decide) rfl
    exact kz_vret F (ct + 1, f2, f3) hdy (⟨by first | assumption | rfl | omega, trivial⟩) zd_D_putWord_37

set_option maxHeartbeats 4000000 in
set_option maxRecDepth 100000 in
/-- KeyMeeting$Digest.clear()V -/
theorem c_Dig_clear (l : Launch) (dC : Nat → ClassId) (dI : Nat → Nat → Nat) (cI cAA cB cL : ClassId) (h su ro start : Nat) (ct : Nat) (gsu : Nat → Int32) (gstart : Nat → Int32) (sz : Nat) : Met l zy_D_clear zw_D_clear { frames := 2, cells := 0, slots := 0, locals := 61 } (kz_Pc (dC, dI) vwCl [(cI, .int), (cAA, .array .int), (cB, .byte), (cL, .long)] [("KeyMeeting$Digest", "START", "[I", .ref start)] [] [.ref h] [(h, .inr (3, [.ref su, .ref ro, .int (nI (ct))])), (su, .inl (cI, 8, .inl gsu))] [(start, .inl (cI, 8, .inl gstart))] sz) (va_Qv (fun (u : Nat × (Nat → Int32)) => (u.1 = 0) ∧ True) (kz_B (dC, dI) vwCl (va_A [(h, .inr (3, [.ref su, .ref ro, .int (nI (ct))])), (su, .inl (cI, 8, .inl gsu))] sz) (fun u : Nat × (Nat → Int32) => [(h, .inr (3, [.ref su, .ref ro, .int (nI (u.1))])), (su, .inl (cI, 8, .inl u.2))])) (va_A [(h, .inr (3, [.ref su, .ref ro, .int (nI (ct))])), (su, .inl (cI, 8, .inl gsu))] sz)) 0 0 (va_A [(h, .inr (3, [.ref su, .ref ro, .int (nI (ct))])), (su, .inl (cI, 8, .inl gsu))] sz) := by
  refine kz_met (y := zy_D_clear) (ws := zw_D_clear) (av := [.ref h]) (sz := sz) (Qc := fun A => va_Qv (fun (u : Nat × (Nat → Int32)) => (u.1 = 0) ∧ True) (kz_B (dC, dI) vwCl A (fun u : Nat × (Nat → Int32) => [(h, .inr (3, [.ref su, .ref ro, .int (nI (u.1))])), (su, .inl (cI, 8, .inl u.2))])) A) (cc := zc_D_clear) (maxL := 1) (ret := none) (by decide) rfl (Nat.le_of_ble_eq_true rfl) ?_
  intro p e s m below meth c A ls F hA hdy hK hro hZ hN hl
  obtain ⟨hx, hb, hml, hr, hown, hlocks, hts, hnm⟩ := id F
  have hl : lv_has ls 1 [(0, .ref h)] := hl
  refine va_gets hx hb (hZ _ (List.mem_of_getElem? (i := 0) rfl)) hdy.2.2 hown (hts _ (kz_c mw_303)) (fun _ h9 => h9) zd_D_clear_0 ?_
  refine lv_aload_n hx hb zd_D_clear_3 rfl (lv_at hl 0 rfl) ?_
  refine va_get (D := (dC, dI)) (ci := 3) (v := .ref su) (C := zR_D) (T := zT_D) (N := 3) hx hb hts (fun w h => kz_c (zi_D w h)) hown hK hdy.1 0 rfl rfl 0 (by decide) (hts _ (kz_c mw_119)) (fun _ h9 => h9) rfl zd_D_clear_4 ?_
  refine kz_callv (wk := [(h, .inr (3, [.ref su, .ref ro, .int (nI (ct))]))]) (va_runS (As := [.ref start, .ref su]) (rest := []) ⟨hx, hb, hml, hown, hts⟩ (c_Words_copy l dC dI cI cAA cB cL su start gsu gstart _) (va_cwS 2 hts (kz_g (kz_mc mw_305 (kz_mc mw_283 (kz_mc mw_50 kz_mn))) mw_284) rfl rfl rfl (by decide +kernel) ⟨Nat.le_of_ble_eq_true rfl, Nat.le_of_ble_eq_true rfl⟩) (kz_preS hdy hA hK hro hZ hN [1] (by decide) rfl [(true, 0)] rfl (by decide) [0, 1, 2, 3] rfl (fun _ h => by cases h) (fun _ h => by cases h) rfl) rfl rfl hl.1 rfl (lv_room (Nat.le_of_ble_eq_true rfl)) zd_D_clear_7 ⟨Nat.le_of_ble_eq_true rfl, Nat.le_of_ble_eq_true rfl⟩) hdy hA [1] [0] rfl rfl (by decide) (by decide) (fun u H locs hw hdy => ?_)
  obtain ⟨f1, rfl⟩ : ∃ z, z = u := ⟨_, rfl⟩
  have hdy : kz_dy (dC, dI) vwCl A s.heap H locs [(h, .inr (3, [.ref su, .ref ro, .int (nI (ct))])), (su, .inl (cI, 8, .inl f1))] := hdy.sub [0, 1] (by decide) rfl
  refine lv_aload_n hx hb zd_D_clear_10 rfl (lv_at hl 0 rfl) ?_
  refine lv_iconst (v := (nI (0))) hx hb zd_D_clear_11 (by decide) ?_
  refine va_put (D := (dC, dI)) (ci := 3) (v := .int (nI (0))) (ty := .int) (C := zR_D) (T := zT_D) (N := 3) hx hb hts (fun w h => kz_c (zi_D w h)) zt_D zo_D zn_D hown hK hdy.1 hdy.2.1 hdy.2.2 0 rfl rfl 2 (by decide) (hts _ (kz_c mw_121)) (fun _ h9 => h9) rfl (by decide +kernel) rfl rfl (Nat.le_of_ble_eq_true rfl) zd_D_clear_12 (fun H locs hP hD hS => ?_)
  have hdy : kz_dy (dC, dI) vwCl A s.heap H locs [(h, .inr (3, [.ref su, .ref ro, .int (nI (0))])), (su, .inl (cI, 8, .inl f1))] := ⟨hP, hD, hS⟩
  exact kz_vret F (0, f1) hdy (⟨by first | assumption | rfl | omega, trivial⟩) zd_D_clear_15

set_option maxHeartbeats 4000000 in
set_option maxRecDepth 100000 in
/-- KeyMeeting$Digest.put([I)V -/
theorem c_Dig_put (l : Launch) (dC : Nat → ClassId) (dI : Nat → Nat → Nat) (cI cAA cB cL : ClassId) (h su ro a roots : Nat) (ct : Nat) (gsu : Nat → Int32) (gro : Nat → Int32) (ga : Nat → Int32) (groots : Nat → Int32) (sz : Nat) (hct : ct < 900) : Met l zy_D_put zw_D_put { frames := 4, cells := 0, slots := 0, locals := 98 } (kz_Pc (dC, dI) vwCl [(cI, .int), (cAA, .array .int), (cB, .byte), (cL, .long)] [("KeyMeeting$Digest", "ROOTS", "[I", .ref roots)] [] [.ref h, .ref a] [(h, .inr (3, [.ref su, .ref ro, .int (nI (ct))])), (su, .inl (cI, 8, .inl gsu)), (ro, .inl (cI, 64, .inl gro))] [(a, .inl (cI, 8, .inl ga)), (roots, .inl (cI, 64, .inl groots))] sz) (va_Qv (fun (u : Nat × (Nat → Int32) × (Nat → Int32)) => (u.1 = ct + 8) ∧ True) (kz_B (dC, dI) vwCl (va_A [(h, .inr (3, [.ref su, .ref ro, .int (nI (ct))])), (su, .inl (cI, 8, .inl gsu)), (ro, .inl (cI, 64, .inl gro))] sz) (fun u : Nat × (Nat → Int32) × (Nat → Int32) => [(h, .inr (3, [.ref su, .ref ro, .int (nI (u.1))])), (su, .inl (cI, 8, .inl u.2.1)), (ro, .inl (cI, 64, .inl u.2.2))])) (va_A [(h, .inr (3, [.ref su, .ref ro, .int (nI (ct))])), (su, .inl (cI, 8, .inl gsu)), (ro, .inl (cI, 64, .inl gro))] sz)) 0 0 (va_A [(h, .inr (3, [.ref su, .ref ro, .int (nI (ct))])), (su, .inl (cI, 8, .inl gsu)), (ro, .inl (cI, 64, .inl gro))] sz) := by
  refine kz_met (y := zy_D_put) (ws := zw_D_put) (av := [.ref h, .ref a]) (sz := sz) (Qc := fun A => va_Qv (fun (u : Nat × (Nat → Int32) × (Nat → Int32)) => (u.1 = ct + 8) ∧ True) (kz_B (dC, dI) vwCl A (fun u : Nat × (Nat → Int32) × (Nat → Int32) => [(h, .inr (3, [.ref su, .ref ro, .int (nI (u.1))])), (su, .inl (cI, 8, .inl u.2.1)), (ro, .inl (cI, 64, .inl u.2.2))])) A) (cc := zc_D_put) (maxL := 3) (ret := none) (by decide) rfl (Nat.le_of_ble_eq_true rfl) ?_
  intro p e s m below meth c A ls F hA hdy hK hro hZ hN hl
  obtain ⟨hx, hb, hml, hr, hown, hlocks, hts, hnm⟩ := id F
  have hl : lv_has ls 3 [(0, .ref h), (1, .ref a)] := hl
  refine lv_iconst (v := (nI (0))) hx hb zd_D_put_0 (by decide) ?_
  refine lv_istore_n (lv' := [(2, .int (nI (0))), (0, .ref h), (1, .ref a)]) hx hb zd_D_put_1 rfl hl (by decide) rfl (fun ls hl => ?_)
  have lp2 : ∀ (n2 k2 : Nat) (c1 : Nat) (f2 : Nat → Int32) (f3 : Nat → Int32) (H : Heap) (locs : List Loc) (ls : Array Slot), k2 ≤ 8 → 8 - k2 < n2 → c1 = ct + k2 → kz_dy (dC, dI) vwCl A s.heap H locs [(h, .inr (3, [.ref su, .ref ro, .int (nI (c1))])), (su, .inl (cI, 8, .inl f2)), (ro, .inl (cI, 64, .inl f3))] → lv_has ls 3 [(2, .int (nI (k2))), (0, .ref h), (1, .ref a)] → W p l e { frames := 4, cells := 0, slots := 0, locals := 98 } s m ([.ref h, .ref a] : List Value).toArray below meth c H locs 0 0 (MQ below (va_Qv (fun (u : Nat × (Nat → Int32) × (Nat → Int32)) => (u.1 = ct + 8) ∧ True) (kz_B (dC, dI) vwCl A (fun u : Nat × (Nat → Int32) × (Nat → Int32) => [(h, .inr (3, [.ref su, .ref ro, .int (nI (u.1))])), (su, .inl (cI, 8, .inl u.2.1)), (ro, .inl (cI, 64, .inl u.2.2))])) A) ([.ref h, .ref a] : List Value).toArray s 0 0 A) (F0 m 2 ls []) := by
    intro n2
    induction n2 with
    | zero => intro k2; intros; omega
    | succ n2 ih2 =>
      intro k2 c1 f2 f3 H locs ls hi2 hn2 hbc1 hdy hl
      refine lv_iload_n hx hb zd_D_put_2 rfl (lv_at hl 0 rfl) ?_
      refine lv_bipush (v := (nI (8))) hx hb zd_D_put_3 (by decide) ?_
      refine lv_icmp_ge (tgt := 21) hx hb zd_D_put_5 (by decide) (fun hc5 => ?_) (fun hc5 => ?_)
      · have hc5 : 8 ≤ k2 := (nI_leI (by omega) (by omega)).mp hc5
        exact kz_vret F (c1, f2, f3) hdy (⟨by first | assumption | rfl | omega, trivial⟩) zd_D_put_21
      · have hc5 : ¬ 8 ≤ k2 := fun h9 => hc5 ((nI_leI (by omega) (by omega)).mpr h9)
        refine lv_aload_n hx hb zd_D_put_8 rfl (lv_at hl 1 rfl) ?_
        refine lv_aload_n hx hb zd_D_put_9 rfl (lv_at hl 2 rfl) ?_
        refine lv_iload_n hx hb zd_D_put_10 rfl (lv_at hl 0 rfl) ?_
        refine kz_riald hx hb hK hro hdy.2.2 0 0 rfl rfl (vp_in_nI (by omega) (by omega)) zd_D_put_11 ?_
        refine lv_topi (fun x4 _ => ?_)
        refine kz_callv (wk := []) (va_runV (As := [.int x4]) (rest := []) ⟨hx, hb, hml, hown, hts⟩ (c_Dig_putWord l dC dI cI cAA cB cL h su ro roots c1 f2 f3 groots (x4) _ (by first | omega | assumption)) (cwV 1 hts (kz_g (kz_mc mw_310 (kz_mc mw_312 (kz_mc mw_13 (kz_mc mw_42 kz_mn)))) mw_313) rfl rfl rfl (by decide +kernel) ⟨Nat.le_of_ble_eq_true rfl, Nat.le_of_ble_eq_true rfl⟩) (kz_preV hdy hA hK hro hZ hN [0, 1, 2] (by decide) rfl [(true, 1)] rfl (by decide) [0, 1, 2, 3] rfl (fun _ h => h) (fun _ h => by cases h) rfl (ci := 3) (q0 := 0) rfl rfl rfl) rfl rfl hl.1 rfl (lv_room (Nat.le_of_ble_eq_true rfl)) zd_D_put_12 ⟨Nat.le_of_ble_eq_true rfl, Nat.le_of_ble_eq_true rfl⟩) hdy hA [0, 1, 2] [] rfl rfl (by decide) (by decide) (fun u H locs hw hdy => ?_)
        obtain ⟨c5, f6, f7⟩ := u
        try dsimp only at hw
        obtain ⟨q8, -⟩ := hw
        have hdy : kz_dy (dC, dI) vwCl A s.heap H locs [(h, .inr (3, [.ref su, .ref ro, .int (nI (c5))])), (su, .inl (cI, 8, .inl f6)), (ro, .inl (cI, 64, .inl f7))] := hdy.sub [0, 1, 2] (by decide) rfl
        refine lv_iinc (v := (nI (k2 + 1))) (lv' := [(2, .int (nI (k2 + 1))), (0, .ref h), (1, .ref a)]) hx hb zd_D_put_15 hl (k := 0) rfl (nI_1 _) (by decide) rfl (fun ls hl => ?_)
        refine lv_goto (tgt := 2) hx hb zd_D_put_18 (by decide) ?_
        exact ih2 (k2 + 1) c5 f6 f7 _ _ _ (by omega) (by omega) (by omega) hdy (lv_sub hl [0, 1, 2] rfl)
  exact lp2 (8 - 0 + 1) 0 ct gsu gro _ _ _ (by omega) (by omega) (by omega) hdy (lv_sub hl [0, 1, 2] rfl)

set_option maxHeartbeats 4000000 in
set_option maxRecDepth 100000 in
/-- KeyMeeting$Digest.end(II[II)V -/
theorem c_Dig_end (l : Launch) (dC : Nat → ClassId) (dI : Nat → Nat → Nat) (cI cAA cB cL : ClassId) (h su ro o roots : Nat) (ct : Nat) (gsu : Nat → Int32) (gro : Nat → Int32) (go : Nat → Int32) (groots : Nat → Int32) (v : Int32) (k : Int32) (at_ : Nat) (sz : Nat) (hct : ct < 900) (hat : at_ = 0) : Met l zy_D_end zw_D_end { frames := 4, cells := 0, slots := 0, locals := 98 } (kz_Pc (dC, dI) vwCl [(cI, .int), (cAA, .array .int), (cB, .byte), (cL, .long)] [("KeyMeeting$Digest", "ROOTS", "[I", .ref roots)] [] [.ref h, .int v, .int k, .ref o, .int (nI (at_))] [(h, .inr (3, [.ref su, .ref ro, .int (nI (ct))])), (su, .inl (cI, 8, .inl gsu)), (ro, .inl (cI, 64, .inl gro)), (o, .inl (cI, 8, .inl go))] [(roots, .inl (cI, 64, .inl groots))] sz) (va_Qv (fun (u : Nat × (Nat → Int32) × (Nat → Int32) × (Nat → Int32)) => (u.1 ≤ ct + 20) ∧ True) (kz_B (dC, dI) vwCl (va_A [(h, .inr (3, [.ref su, .ref ro, .int (nI (ct))])), (su, .inl (cI, 8, .inl gsu)), (ro, .inl (cI, 64, .inl gro)), (o, .inl (cI, 8, .inl go))] sz) (fun u : Nat × (Nat → Int32) × (Nat → Int32) × (Nat → Int32) => [(h, .inr (3, [.ref su, .ref ro, .int (nI (u.1))])), (su, .inl (cI, 8, .inl u.2.1)), (ro, .inl (cI, 64, .inl u.2.2.1)), (o, .inl (cI, 8, .inl u.2.2.2))])) (va_A [(h, .inr (3, [.ref su, .ref ro, .int (nI (ct))])), (su, .inl (cI, 8, .inl gsu)), (ro, .inl (cI, 64, .inl gro)), (o, .inl (cI, 8, .inl go))] sz)) 0 0 (va_A [(h, .inr (3, [.ref su, .ref ro, .int (nI (ct))])), (su, .inl (cI, 8, .inl gsu)), (ro, .inl (cI, 64, .inl gro)), (o, .inl (cI, 8, .inl go))] sz) := by
  refine kz_met (y := zy_D_end) (ws := zw_D_end) (av := [.ref h, .int v, .int k, .ref o, .int (nI (at_))]) (sz := sz) (Qc := fun A => va_Qv (fun (u : Nat × (Nat → Int32) × (Nat → Int32) × (Nat → Int32)) => (u.1 ≤ ct + 20) ∧ True) (kz_B (dC, dI) vwCl A (fun u : Nat × (Nat → Int32) × (Nat → Int32) × (Nat → Int32) => [(h, .inr (3, [.ref su, .ref ro, .int (nI (u.1))])), (su, .inl (cI, 8, .inl u.2.1)), (ro, .inl (cI, 64, .inl u.2.2.1)), (o, .inl (cI, 8, .inl u.2.2.2))])) A) (cc := zc_D_end) (maxL := 8) (ret := none) (by decide) rfl (Nat.le_of_ble_eq_true rfl) ?_
  intro p e s m below meth c A ls F hA hdy hK hro hZ hN hl
  obtain ⟨hx, hb, hml, hr, hown, hlocks, hts, hnm⟩ := id F
  have hl : lv_has ls 8 [(0, .ref h), (1, .int v), (2, .int k), (3, .ref o), (4, .int (nI (at_)))] := hl
  refine lv_ldc2 (v := (32)) hx hb hown (hts _ (kz_c mw_331)) zd_D_end_0 ?_
  refine lv_aload_n hx hb zd_D_end_3 rfl (lv_at hl 0 rfl) ?_
  refine va_get (D := (dC, dI)) (ci := 3) (v := .int (nI (ct))) (C := zR_D) (T := zT_D) (N := 3) hx hb hts (fun w h => kz_c (zi_D w h)) hown hK hdy.1 0 rfl rfl 2 (by decide) (hts _ (kz_c mw_121)) (fun _ h9 => h9) rfl zd_D_end_4 ?_
  refine lv_i2l hx hb zd_D_end_7 rfl ?_
  refine lv_topl (fun yl1 _ => ?_)
  refine lv_lmul hx hb zd_D_end_8 ?_
  refine lv_topl (fun yl2 _ => ?_)
  refine lv_iload_n hx hb zd_D_end_9 rfl (lv_at hl 2 rfl) ?_
  refine lv_i2l hx hb zd_D_end_10 rfl ?_
  refine lv_topl (fun yl3 _ => ?_)
  refine lv_ladd hx hb zd_D_end_11 ?_
  refine lv_topl (fun yl4 _ => ?_)
  refine lv_lstore (lv' := [(5, .long yl4), (0, .ref h), (1, .int v), (2, .int k), (3, .ref o), (4, .int (nI (at_)))]) hx hb zd_D_end_12 hl (by decide) rfl (fun ls hl => ?_)
  refine lv_aload_n hx hb zd_D_end_14 rfl (lv_at hl 1 rfl) ?_
  refine lv_iload_n hx hb zd_D_end_15 rfl (lv_at hl 2 rfl) ?_
  refine lv_ldc (v := (-2147483648)) hx hb hown (hts _ (kz_c mw_332)) zd_D_end_16 ?_
  refine lv_iload_n hx hb zd_D_end_18 rfl (lv_at hl 3 rfl) ?_
  refine lv_iushr hx hb zd_D_end_19 rfl ?_
  refine lv_topi (fun x5 _ => ?_)
  refine lv_ior hx hb zd_D_end_20 ?_
  refine lv_topi (fun x6 _ => ?_)
  refine kz_callv (wk := [(o, .inl (cI, 8, .inl go))]) (va_runV (As := [.int x6]) (rest := []) ⟨hx, hb, hml, hown, hts⟩ (c_Dig_putWord l dC dI cI cAA cB cL h su ro roots ct gsu gro groots (x6) _ (by first | omega | assumption)) (cwV 1 hts (kz_g (kz_mc mw_310 (kz_mc mw_312 (kz_mc mw_13 (kz_mc mw_42 kz_mn)))) mw_313) rfl rfl rfl (by decide +kernel) ⟨Nat.le_of_ble_eq_true rfl, Nat.le_of_ble_eq_true rfl⟩) (kz_preV hdy hA hK hro hZ hN [0, 1, 2] (by decide) rfl [(true, 0)] rfl (by decide) [0, 1, 2, 3] rfl (fun _ h => h) (fun _ h => by cases h) rfl (ci := 3) (q0 := 0) rfl rfl rfl) rfl rfl hl.1 rfl (lv_room (Nat.le_of_ble_eq_true rfl)) zd_D_end_21 ⟨Nat.le_of_ble_eq_true rfl, Nat.le_of_ble_eq_true rfl⟩) hdy hA [0, 1, 2] [3] rfl rfl (by decide) (by decide) (fun u H locs hw hdy => ?_)
  obtain ⟨c7, f8, f9⟩ := u
  try dsimp only at hw
  obtain ⟨q10, -⟩ := hw
  have hdy : kz_dy (dC, dI) vwCl A s.heap H locs [(h, .inr (3, [.ref su, .ref ro, .int (nI (c7))])), (su, .inl (cI, 8, .inl f8)), (ro, .inl (cI, 64, .inl f9)), (o, .inl (cI, 8, .inl go))] := hdy.sub [1, 2, 3, 0] (by decide) rfl
  refine lv_iconst (v := (nI (0))) hx hb zd_D_end_24 (by decide) ?_
  refine lv_istore (lv' := [(7, .int (nI (0))), (5, .long yl4), (0, .ref h), (1, .int v), (2, .int k), (3, .ref o), (4, .int (nI (at_)))]) hx hb zd_D_end_25 hl (by decide) rfl (fun ls hl => ?_)
  have lp27 : ∀ (n27 k27 : Nat) (c11 : Nat) (f12 : Nat → Int32) (f13 : Nat → Int32) (f14 : Nat → Int32) (H : Heap) (locs : List Loc) (ls : Array Slot), k27 ≤ 16 → 16 - k27 < n27 → c11 ≤ ct + 1 + k27 → kz_dy (dC, dI) vwCl A s.heap H locs [(h, .inr (3, [.ref su, .ref ro, .int (nI (c11))])), (su, .inl (cI, 8, .inl f12)), (ro, .inl (cI, 64, .inl f13)), (o, .inl (cI, 8, .inl f14))] → lv_has ls 8 [(7, .int (nI (k27))), (5, .long yl4), (0, .ref h), (1, .int v), (2, .int k), (3, .ref o), (4, .int (nI (at_)))] → W p l e { frames := 4, cells := 0, slots := 0, locals := 98 } s m ([.ref h, .int v, .int k, .ref o, .int (nI (at_))] : List Value).toArray below meth c H locs 0 0 (MQ below (va_Qv (fun (u : Nat × (Nat → Int32) × (Nat → Int32) × (Nat → Int32)) => (u.1 ≤ ct + 20) ∧ True) (kz_B (dC, dI) vwCl A (fun u : Nat × (Nat → Int32) × (Nat → Int32) × (Nat → Int32) => [(h, .inr (3, [.ref su, .ref ro, .int (nI (u.1))])), (su, .inl (cI, 8, .inl u.2.1)), (ro, .inl (cI, 64, .inl u.2.2.1)), (o, .inl (cI, 8, .inl u.2.2.2))])) A) ([.ref h, .int v, .int k, .ref o, .int (nI (at_))] : List Value).toArray s 0 0 A) (F0 m 27 ls []) := by
    intro n27
    induction n27 with
    | zero => intro k27; intros; omega
    | succ n27 ih27 =>
      intro k27 c11 f12 f13 f14 H locs ls hi27 hn27 hbc11 hdy hl
      refine lv_iload hx hb zd_D_end_27 (lv_at hl 0 rfl) ?_
      refine lv_bipush (v := (nI (16))) hx hb zd_D_end_29 (by decide) ?_
      refine lv_icmp_ge (tgt := 57) hx hb zd_D_end_31 (by decide) (fun hc31 => ?_) (fun hc31 => ?_)
      · have hc31 : 16 ≤ k27 := (nI_leI (by omega) (by omega)).mp hc31
        refine lv_aload_n hx hb zd_D_end_57 rfl (lv_at hl 2 rfl) ?_
        refine lv_lload hx hb zd_D_end_58 (lv_at hl 1 rfl) ?_
        refine lv_bipush (v := (nI (32))) hx hb zd_D_end_60 (by decide) ?_
        refine lv_lushr hx hb zd_D_end_62 rfl ?_
        refine lv_topl (fun yl15 _ => ?_)
        refine lv_l2i hx hb zd_D_end_63 rfl ?_
        refine lv_topi (fun x16 _ => ?_)
        refine kz_callv (wk := [(o, .inl (cI, 8, .inl f14))]) (va_runV (As := [.int x16]) (rest := []) ⟨hx, hb, hml, hown, hts⟩ (c_Dig_putWord l dC dI cI cAA cB cL h su ro roots c11 f12 f13 groots (x16) _ (by first | omega | assumption)) (cwV 1 hts (kz_g (kz_mc mw_310 (kz_mc mw_312 (kz_mc mw_13 (kz_mc mw_42 kz_mn)))) mw_313) rfl rfl rfl (by decide +kernel) ⟨Nat.le_of_ble_eq_true rfl, Nat.le_of_ble_eq_true rfl⟩) (kz_preV hdy hA hK hro hZ hN [0, 1, 2] (by decide) rfl [(true, 0)] rfl (by decide) [0, 1, 2, 3] rfl (fun _ h => h) (fun _ h => by cases h) rfl (ci := 3) (q0 := 0) rfl rfl rfl) rfl rfl hl.1 rfl (lv_room (Nat.le_of_ble_eq_true rfl)) zd_D_end_64 ⟨Nat.le_of_ble_eq_true rfl, Nat.le_of_ble_eq_true rfl⟩) hdy hA [0, 1, 2] [3] rfl rfl (by decide) (by decide) (fun u H locs hw hdy => ?_)
        obtain ⟨c17, f18, f19⟩ := u
        try dsimp only at hw
        obtain ⟨q20, -⟩ := hw
        have hdy : kz_dy (dC, dI) vwCl A s.heap H locs [(h, .inr (3, [.ref su, .ref ro, .int (nI (c17))])), (su, .inl (cI, 8, .inl f18)), (ro, .inl (cI, 64, .inl f19)), (o, .inl (cI, 8, .inl f14))] := hdy.sub [1, 2, 3, 0] (by decide) rfl
        refine lv_aload_n hx hb zd_D_end_67 rfl (lv_at hl 2 rfl) ?_
        refine lv_lload hx hb zd_D_end_68 (lv_at hl 1 rfl) ?_
        refine lv_l2i hx hb zd_D_end_70 rfl ?_
        refine lv_topi (fun x21 _ => ?_)
        refine kz_callv (wk := [(o, .inl (cI, 8, .inl f14))]) (va_runV (As := [.int x21]) (rest := []) ⟨hx, hb, hml, hown, hts⟩ (c_Dig_putWord l dC dI cI cAA cB cL h su ro roots c17 f18 f19 groots (x21) _ (by first | omega | assumption)) (cwV 1 hts (kz_g (kz_mc mw_310 (kz_mc mw_312 (kz_mc mw_13 (kz_mc mw_42 kz_mn)))) mw_313) rfl rfl rfl (by decide +kernel) ⟨Nat.le_of_ble_eq_true rfl, Nat.le_of_ble_eq_true rfl⟩) (kz_preV hdy hA hK hro hZ hN [0, 1, 2] (by decide) rfl [(true, 0)] rfl (by decide) [0, 1, 2, 3] rfl (fun _ h => h) (fun _ h => by cases h) rfl (ci := 3) (q0 := 0) rfl rfl rfl) rfl rfl hl.1 rfl (lv_room (Nat.le_of_ble_eq_true rfl)) zd_D_end_71 ⟨Nat.le_of_ble_eq_true rfl, Nat.le_of_ble_eq_true rfl⟩) hdy hA [0, 1, 2] [3] rfl rfl (by decide) (by decide) (fun u H locs hw hdy => ?_)
        obtain ⟨c22, f23, f24⟩ := u
        try dsimp only at hw
        obtain ⟨q25, -⟩ := hw
        have hdy : kz_dy (dC, dI) vwCl A s.heap H locs [(h, .inr (3, [.ref su, .ref ro, .int (nI (c22))])), (su, .inl (cI, 8, .inl f23)), (ro, .inl (cI, 64, .inl f24)), (o, .inl (cI, 8, .inl f14))] := hdy.sub [1, 2, 3, 0] (by decide) rfl
        refine lv_aload_n hx hb zd_D_end_74 rfl (lv_at hl 2 rfl) ?_
        refine va_get (D := (dC, dI)) (ci := 3) (v := .ref su) (C := zR_D) (T := zT_D) (N := 3) hx hb hts (fun w h => kz_c (zi_D w h)) hown hK hdy.1 0 rfl rfl 0 (by decide) (hts _ (kz_c mw_119)) (fun _ h9 => h9) rfl zd_D_end_75 ?_
        refine lv_iconst (v := (nI (0))) hx hb zd_D_end_78 (by decide) ?_
        refine lv_aload_n hx hb zd_D_end_79 rfl (lv_at hl 5 rfl) ?_
        refine lv_iload hx hb zd_D_end_80 (lv_at hl 6 rfl) ?_
        refine lv_bipush (v := (nI (8))) hx hb zd_D_end_82 (by decide) ?_
        refine va_copyi hx hb (hml.trans hl.1.symm) hown (hts _ (kz_c mw_333)) (hts _ (kz_c mw_214)) (hts _ (kz_c mw_213)) (hts _ (kz_c mw_51)) hK hdy.1 hdy.2.1 hdy.2.2 1 3 0 0 rfl rfl rfl rfl rfl (nI_pos (by omega)) (nI_pos (by omega)) (nI_pos (by omega)) (by (repeat rw [nI_clamp (by omega)]) <;> omega) (by (repeat rw [nI_clamp (by omega)]) <;> omega) (fun _ _ => rfl) (Nat.le_of_ble_eq_true rfl) (Nat.le_of_ble_eq_true rfl) zd_D_end_84 (fun H locs hP hD hS => ?_)
        obtain ⟨f26, hdy⟩ : ∃ f26 : Nat → Int32, kz_dy (dC, dI) vwCl A s.heap H locs [(h, .inr (3, [.ref su, .ref ro, .int (nI (c22))])), (su, .inl (cI, 8, .inl f23)), (ro, .inl (cI, 64, .inl f24)), (o, .inl (cI, 8, .inl f26))] := ⟨_, hP, hD, hS⟩
        exact kz_vret F (c22, f23, f24, f26) hdy (⟨by first | assumption | rfl | omega, trivial⟩) zd_D_end_87
      · have hc31 : ¬ 16 ≤ k27 := fun h9 => hc31 ((nI_leI (by omega) (by omega)).mpr h9)
        refine lv_aload_n hx hb zd_D_end_34 rfl (lv_at hl 2 rfl) ?_
        refine va_get (D := (dC, dI)) (ci := 3) (v := .int (nI (c11))) (C := zR_D) (T := zT_D) (N := 3) hx hb hts (fun w h => kz_c (zi_D w h)) hown hK hdy.1 0 rfl rfl 2 (by decide) (hts _ (kz_c mw_121)) (fun _ h9 => h9) rfl zd_D_end_35 ?_
        refine lv_bipush (v := (nI (16))) hx hb zd_D_end_38 (by decide) ?_
        refine kz_irem hx hb zd_D_end_40 (by decide) (pk_rem (by omega) (by omega) (by omega)) ?_
        refine lv_bipush (v := (nI (14))) hx hb zd_D_end_41 (by decide) ?_
        refine lv_icmp_eq (tgt := 57) hx hb zd_D_end_43 (by decide) (fun hc43 => ?_) (fun hc43 => ?_)
        · have hc43 : (c11 % 16) = 14 := (nI_eq (by omega) (by omega)).mp hc43
          refine lv_aload_n hx hb zd_D_end_57 rfl (lv_at hl 2 rfl) ?_
          refine lv_lload hx hb zd_D_end_58 (lv_at hl 1 rfl) ?_
          refine lv_bipush (v := (nI (32))) hx hb zd_D_end_60 (by decide) ?_
          refine lv_lushr hx hb zd_D_end_62 rfl ?_
          refine lv_topl (fun yl27 _ => ?_)
          refine lv_l2i hx hb zd_D_end_63 rfl ?_
          refine lv_topi (fun x28 _ => ?_)
          refine kz_callv (wk := [(o, .inl (cI, 8, .inl f14))]) (va_runV (As := [.int x28]) (rest := []) ⟨hx, hb, hml, hown, hts⟩ (c_Dig_putWord l dC dI cI cAA cB cL h su ro roots c11 f12 f13 groots (x28) _ (by first | omega | assumption)) (cwV 1 hts (kz_g (kz_mc mw_310 (kz_mc mw_312 (kz_mc mw_13 (kz_mc mw_42 kz_mn)))) mw_313) rfl rfl rfl (by decide +kernel) ⟨Nat.le_of_ble_eq_true rfl, Nat.le_of_ble_eq_true rfl⟩) (kz_preV hdy hA hK hro hZ hN [0, 1, 2] (by decide) rfl [(true, 0)] rfl (by decide) [0, 1, 2, 3] rfl (fun _ h => h) (fun _ h => by cases h) rfl (ci := 3) (q0 := 0) rfl rfl rfl) rfl rfl hl.1 rfl (lv_room (Nat.le_of_ble_eq_true rfl)) zd_D_end_64 ⟨Nat.le_of_ble_eq_true rfl, Nat.le_of_ble_eq_true rfl⟩) hdy hA [0, 1, 2] [3] rfl rfl (by decide) (by decide) (fun u H locs hw hdy => ?_)
          obtain ⟨c29, f30, f31⟩ := u
          try dsimp only at hw
          obtain ⟨q32, -⟩ := hw
          have hdy : kz_dy (dC, dI) vwCl A s.heap H locs [(h, .inr (3, [.ref su, .ref ro, .int (nI (c29))])), (su, .inl (cI, 8, .inl f30)), (ro, .inl (cI, 64, .inl f31)), (o, .inl (cI, 8, .inl f14))] := hdy.sub [1, 2, 3, 0] (by decide) rfl
          refine lv_aload_n hx hb zd_D_end_67 rfl (lv_at hl 2 rfl) ?_
          refine lv_lload hx hb zd_D_end_68 (lv_at hl 1 rfl) ?_
          refine lv_l2i hx hb zd_D_end_70 rfl ?_
          refine lv_topi (fun x33 _ => ?_)
          refine kz_callv (wk := [(o, .inl (cI, 8, .inl f14))]) (va_runV (As := [.int x33]) (rest := []) ⟨hx, hb, hml, hown, hts⟩ (c_Dig_putWord l dC dI cI cAA cB cL h su ro roots c29 f30 f31 groots (x33) _ (by first | omega | assumption)) (cwV 1 hts (kz_g (kz_mc mw_310 (kz_mc mw_312 (kz_mc mw_13 (kz_mc mw_42 kz_mn)))) mw_313) rfl rfl rfl (by decide +kernel) ⟨Nat.le_of_ble_eq_true rfl, Nat.le_of_ble_eq_true rfl⟩) (kz_preV hdy hA hK hro hZ hN [0, 1, 2] (by decide) rfl [(true, 0)] rfl (by decide) [0, 1, 2, 3] rfl (fun _ h => h) (fun _ h => by cases h) rfl (ci := 3) (q0 := 0) rfl rfl rfl) rfl rfl hl.1 rfl (lv_room (Nat.le_of_ble_eq_true rfl)) zd_D_end_71 ⟨Nat.le_of_ble_eq_true rfl, Nat.le_of_ble_eq_true rfl⟩) hdy hA [0, 1, 2] [3] rfl rfl (by decide) (by decide) (fun u H locs hw hdy => ?_)
          obtain ⟨c34, f35, f36⟩ := u
          try dsimp only at hw
          obtain ⟨q37, -⟩ := hw
          have hdy : kz_dy (dC, dI) vwCl A s.heap H locs [(h, .inr (3, [.ref su, .ref ro, .int (nI (c34))])), (su, .inl (cI, 8, .inl f35)), (ro, .inl (cI, 64, .inl f36)), (o, .inl (cI, 8, .inl f14))] := hdy.sub [1, 2, 3, 0] (by decide) rfl
          refine lv_aload_n hx hb zd_D_end_74 rfl (lv_at hl 2 rfl) ?_
          refine va_get (D := (dC, dI)) (ci := 3) (v := .ref su) (C := zR_D) (T := zT_D) (N := 3) hx hb hts (fun w h => kz_c (zi_D w h)) hown hK hdy.1 0 rfl rfl 0 (by decide) (hts _ (kz_c mw_119)) (fun _ h9 => h9) rfl zd_D_end_75 ?_
          refine lv_iconst (v := (nI (0))) hx hb zd_D_end_78 (by decide) ?_
          refine lv_aload_n hx hb zd_D_end_79 rfl (lv_at hl 5 rfl) ?_
          refine lv_iload hx hb zd_D_end_80 (lv_at hl 6 rfl) ?_
          refine lv_bipush (v := (nI (8))) hx hb zd_D_end_82 (by decide) ?_
          refine va_copyi hx hb (hml.trans hl.1.symm) hown (hts _ (kz_c mw_333)) (hts _ (kz_c mw_214)) (hts _ (kz_c mw_213)) (hts _ (kz_c mw_51)) hK hdy.1 hdy.2.1 hdy.2.2 1 3 0 0 rfl rfl rfl rfl rfl (nI_pos (by omega)) (nI_pos (by omega)) (nI_pos (by omega)) (by (repeat rw [nI_clamp (by omega)]) <;> omega) (by (repeat rw [nI_clamp (by omega)]) <;> omega) (fun _ _ => rfl) (Nat.le_of_ble_eq_true rfl) (Nat.le_of_ble_eq_true rfl) zd_D_end_84 (fun H locs hP hD hS => ?_)
          obtain ⟨f38, hdy⟩ : ∃ f38 : Nat → Int32, kz_dy (dC, dI) vwCl A s.heap H locs [(h, .inr (3, [.ref su, .ref ro, .int (nI (c34))])), (su, .inl (cI, 8, .inl f35)), (ro, .inl (cI, 64, .inl f36)), (o, .inl (cI, 8, .inl f38))] := ⟨_, hP, hD, hS⟩
          exact kz_vret F (c34, f35, f36, f38) hdy (⟨by first | assumption | rfl | omega, trivial⟩) zd_D_end_87
        · have hc43 : ¬ (c11 % 16) = 14 := fun h9 => hc43 ((nI_eq (by omega) (by omega)).mpr h9)
          refine lv_aload_n hx hb zd_D_end_46 rfl (lv_at hl 2 rfl) ?_
          refine lv_iconst (v := (nI (0))) hx hb zd_D_end_47 (by decide) ?_
          refine kz_callv (wk := [(o, .inl (cI, 8, .inl f14))]) (va_runV (As := [.int (nI (0))]) (rest := []) ⟨hx, hb, hml, hown, hts⟩ (c_Dig_putWord l dC dI cI cAA cB cL h su ro roots c11 f12 f13 groots ((nI (0))) _ (by first | omega | assumption)) (cwV 1 hts (kz_g (kz_mc mw_310 (kz_mc mw_312 (kz_mc mw_13 (kz_mc mw_42 kz_mn)))) mw_313) rfl rfl rfl (by decide +kernel) ⟨Nat.le_of_ble_eq_true rfl, Nat.le_of_ble_eq_true rfl⟩) (kz_preV hdy hA hK hro hZ hN [0, 1, 2] (by decide) rfl [(true, 0)] rfl (by decide) [0, 1, 2, 3] rfl (fun _ h => h) (fun _ h => by cases h) rfl (ci := 3) (q0 := 0) rfl rfl rfl) rfl rfl hl.1 rfl (lv_room (Nat.le_of_ble_eq_true rfl)) zd_D_end_48 ⟨Nat.le_of_ble_eq_true rfl, Nat.le_of_ble_eq_true rfl⟩) hdy hA [0, 1, 2] [3] rfl rfl (by decide) (by decide) (fun u H locs hw hdy => ?_)
          obtain ⟨c39, f40, f41⟩ := u
          try dsimp only at hw
          obtain ⟨q42, -⟩ := hw
          have hdy : kz_dy (dC, dI) vwCl A s.heap H locs [(h, .inr (3, [.ref su, .ref ro, .int (nI (c39))])), (su, .inl (cI, 8, .inl f40)), (ro, .inl (cI, 64, .inl f41)), (o, .inl (cI, 8, .inl f14))] := hdy.sub [1, 2, 3, 0] (by decide) rfl
          refine lv_iinc (v := (nI (k27 + 1))) (lv' := [(7, .int (nI (k27 + 1))), (5, .long yl4), (0, .ref h), (1, .int v), (2, .int k), (3, .ref o), (4, .int (nI (at_)))]) hx hb zd_D_end_51 hl (k := 0) rfl (nI_1 _) (by decide) rfl (fun ls hl => ?_)
          refine lv_goto (tgt := 27) hx hb zd_D_end_54 (by decide) ?_
          exact ih27 (k27 + 1) c39 f40 f41 f14 _ _ _ (by omega) (by omega) (by omega) hdy (lv_sub hl [0, 1, 2, 3, 4, 5, 6] rfl)
  exact lp27 (16 - 0 + 1) 0 c7 f8 f9 go _ _ _ (by omega) (by omega) (by omega) hdy (lv_sub hl [0, 1, 2, 3, 4, 5, 6] rfl)

set_option maxHeartbeats 4000000 in
set_option maxRecDepth 100000 in
/-- KeyMeeting$Digest.end(II[II)V -/
theorem c_Dig_end16 (l : Launch) (dC : Nat → ClassId) (dI : Nat → Nat → Nat) (cI cAA cB cL : ClassId) (h su ro o roots : Nat) (ct : Nat) (gsu : Nat → Int32) (gro : Nat → Int32) (go : Nat → Int32) (groots : Nat → Int32) (v : Int32) (k : Int32) (at_ : Nat) (sz : Nat) (hct : ct < 900) (hat : at_ ≤ 8) : Met l zy_D_end zw_D_end { frames := 4, cells := 0, slots := 0, locals := 98 } (kz_Pc (dC, dI) vwCl [(cI, .int), (cAA, .array .int), (cB, .byte), (cL, .long)] [("KeyMeeting$Digest", "ROOTS", "[I", .ref roots)] [] [.ref h, .int v, .int k, .ref o, .int (nI (at_))] [(h, .inr (3, [.ref su, .ref ro, .int (nI (ct))])), (su, .inl (cI, 8, .inl gsu)), (ro, .inl (cI, 64, .inl gro)), (o, .inl (cI, 16, .inl go))] [(roots, .inl (cI, 64, .inl groots))] sz) (va_Qv (fun (u : Nat × (Nat → Int32) × (Nat → Int32) × (Nat → Int32)) => (u.1 ≤ ct + 20) ∧ True) (kz_B (dC, dI) vwCl (va_A [(h, .inr (3, [.ref su, .ref ro, .int (nI (ct))])), (su, .inl (cI, 8, .inl gsu)), (ro, .inl (cI, 64, .inl gro)), (o, .inl (cI, 16, .inl go))] sz) (fun u : Nat × (Nat → Int32) × (Nat → Int32) × (Nat → Int32) => [(h, .inr (3, [.ref su, .ref ro, .int (nI (u.1))])), (su, .inl (cI, 8, .inl u.2.1)), (ro, .inl (cI, 64, .inl u.2.2.1)), (o, .inl (cI, 16, .inl u.2.2.2))])) (va_A [(h, .inr (3, [.ref su, .ref ro, .int (nI (ct))])), (su, .inl (cI, 8, .inl gsu)), (ro, .inl (cI, 64, .inl gro)), (o, .inl (cI, 16, .inl go))] sz)) 0 0 (va_A [(h, .inr (3, [.ref su, .ref ro, .int (nI (ct))])), (su, .inl (cI, 8, .inl gsu)), (ro, .inl (cI, 64, .inl gro)), (o, .inl (cI, 16, .inl go))] sz) := by
  refine kz_met (y := zy_D_end) (ws := zw_D_end) (av := [.ref h, .int v, .int k, .ref o, .int (nI (at_))]) (sz := sz) (Qc := fun A => va_Qv (fun (u : Nat × (Nat → Int32) × (Nat → Int32) × (Nat → Int32)) => (u.1 ≤ ct + 20) ∧ True) (kz_B (dC, dI) vwCl A (fun u : Nat × (Nat → Int32) × (Nat → Int32) × (Nat → Int32) => [(h, .inr (3, [.ref su, .ref ro, .int (nI (u.1))])), (su, .inl (cI, 8, .inl u.2.1)), (ro, .inl (cI, 64, .inl u.2.2.1)), (o, .inl (cI, 16, .inl u.2.2.2))])) A) (cc := zc_D_end) (maxL := 8) (ret := none) (by decide) rfl (Nat.le_of_ble_eq_true rfl) ?_
  intro p e s m below meth c A ls F hA hdy hK hro hZ hN hl
  obtain ⟨hx, hb, hml, hr, hown, hlocks, hts, hnm⟩ := id F
  have hl : lv_has ls 8 [(0, .ref h), (1, .int v), (2, .int k), (3, .ref o), (4, .int (nI (at_)))] := hl
  refine lv_ldc2 (v := (32)) hx hb hown (hts _ (kz_c mw_331)) zd_D_end_0 ?_
  refine lv_aload_n hx hb zd_D_end_3 rfl (lv_at hl 0 rfl) ?_
  refine va_get (D := (dC, dI)) (ci := 3) (v := .int (nI (ct))) (C := zR_D) (T := zT_D) (N := 3) hx hb hts (fun w h => kz_c (zi_D w h)) hown hK hdy.1 0 rfl rfl 2 (by decide) (hts _ (kz_c mw_121)) (fun _ h9 => h9) rfl zd_D_end_4 ?_
  refine lv_i2l hx hb zd_D_end_7 rfl ?_
  refine lv_topl (fun yl1 _ => ?_)
  refine lv_lmul hx hb zd_D_end_8 ?_
  refine lv_topl (fun yl2 _ => ?_)
  refine lv_iload_n hx hb zd_D_end_9 rfl (lv_at hl 2 rfl) ?_
  refine lv_i2l hx hb zd_D_end_10 rfl ?_
  refine lv_topl (fun yl3 _ => ?_)
  refine lv_ladd hx hb zd_D_end_11 ?_
  refine lv_topl (fun yl4 _ => ?_)
  refine lv_lstore (lv' := [(5, .long yl4), (0, .ref h), (1, .int v), (2, .int k), (3, .ref o), (4, .int (nI (at_)))]) hx hb zd_D_end_12 hl (by decide) rfl (fun ls hl => ?_)
  refine lv_aload_n hx hb zd_D_end_14 rfl (lv_at hl 1 rfl) ?_
  refine lv_iload_n hx hb zd_D_end_15 rfl (lv_at hl 2 rfl) ?_
  refine lv_ldc (v := (-2147483648)) hx hb hown (hts _ (kz_c mw_332)) zd_D_end_16 ?_
  refine lv_iload_n hx hb zd_D_end_18 rfl (lv_at hl 3 rfl) ?_
  refine lv_iushr hx hb zd_D_end_19 rfl ?_
  refine lv_topi (fun x5 _ => ?_)
  refine lv_ior hx hb zd_D_end_20 ?_
  refine lv_topi (fun x6 _ => ?_)
  refine kz_callv (wk := [(o, .inl (cI, 16, .inl go))]) (va_runV (As := [.int x6]) (rest := []) ⟨hx, hb, hml, hown, hts⟩ (c_Dig_putWord l dC dI cI cAA cB cL h su ro roots ct gsu gro groots (x6) _ (by first | omega | assumption)) (cwV 1 hts (kz_g (kz_mc mw_310 (kz_mc mw_312 (kz_mc mw_13 (kz_mc mw_42 kz_mn)))) mw_313) rfl rfl rfl (by decide +kernel) ⟨Nat.le_of_ble_eq_true rfl, Nat.le_of_ble_eq_true rfl⟩) (kz_preV hdy hA hK hro hZ hN [0, 1, 2] (by decide) rfl [(true, 0)] rfl (by decide) [0, 1, 2, 3] rfl (fun _ h => h) (fun _ h => by cases h) rfl (ci := 3) (q0 := 0) rfl rfl rfl) rfl rfl hl.1 rfl (lv_room (Nat.le_of_ble_eq_true rfl)) zd_D_end_21 ⟨Nat.le_of_ble_eq_true rfl, Nat.le_of_ble_eq_true rfl⟩) hdy hA [0, 1, 2] [3] rfl rfl (by decide) (by decide) (fun u H locs hw hdy => ?_)
  obtain ⟨c7, f8, f9⟩ := u
  try dsimp only at hw
  obtain ⟨q10, -⟩ := hw
  have hdy : kz_dy (dC, dI) vwCl A s.heap H locs [(h, .inr (3, [.ref su, .ref ro, .int (nI (c7))])), (su, .inl (cI, 8, .inl f8)), (ro, .inl (cI, 64, .inl f9)), (o, .inl (cI, 16, .inl go))] := hdy.sub [1, 2, 3, 0] (by decide) rfl
  refine lv_iconst (v := (nI (0))) hx hb zd_D_end_24 (by decide) ?_
  refine lv_istore (lv' := [(7, .int (nI (0))), (5, .long yl4), (0, .ref h), (1, .int v), (2, .int k), (3, .ref o), (4, .int (nI (at_)))]) hx hb zd_D_end_25 hl (by decide) rfl (fun ls hl => ?_)
  have lp27 : ∀ (n27 k27 : Nat) (c11 : Nat) (f12 : Nat → Int32) (f13 : Nat → Int32) (f14 : Nat → Int32) (H : Heap) (locs : List Loc) (ls : Array Slot), k27 ≤ 16 → 16 - k27 < n27 → c11 ≤ ct + 1 + k27 → kz_dy (dC, dI) vwCl A s.heap H locs [(h, .inr (3, [.ref su, .ref ro, .int (nI (c11))])), (su, .inl (cI, 8, .inl f12)), (ro, .inl (cI, 64, .inl f13)), (o, .inl (cI, 16, .inl f14))] → lv_has ls 8 [(7, .int (nI (k27))), (5, .long yl4), (0, .ref h), (1, .int v), (2, .int k), (3, .ref o), (4, .int (nI (at_)))] → W p l e { frames := 4, cells := 0, slots := 0, locals := 98 } s m ([.ref h, .int v, .int k, .ref o, .int (nI (at_))] : List Value).toArray below meth c H locs 0 0 (MQ below (va_Qv (fun (u : Nat × (Nat → Int32) × (Nat → Int32) × (Nat → Int32)) => (u.1 ≤ ct + 20) ∧ True) (kz_B (dC, dI) vwCl A (fun u : Nat × (Nat → Int32) × (Nat → Int32) × (Nat → Int32) => [(h, .inr (3, [.ref su, .ref ro, .int (nI (u.1))])), (su, .inl (cI, 8, .inl u.2.1)), (ro, .inl (cI, 64, .inl u.2.2.1)), (o, .inl (cI, 16, .inl u.2.2.2))])) A) ([.ref h, .int v, .int k, .ref o, .int (nI (at_))] : List Value).toArray s 0 0 A) (F0 m 27 ls []) := by
    intro n27
    induction n27 with
    | zero => intro k27; intros; omega
    | succ n27 ih27 =>
      intro k27 c11 f12 f13 f14 H locs ls hi27 hn27 hbc11 hdy hl
      refine lv_iload hx hb zd_D_end_27 (lv_at hl 0 rfl) ?_
      refine lv_bipush (v := (nI (16))) hx hb zd_D_end_29 (by decide) ?_
      refine lv_icmp_ge (tgt := 57) hx hb zd_D_end_31 (by decide) (fun hc31 => ?_) (fun hc31 => ?_)
      · have hc31 : 16 ≤ k27 := (nI_leI (by omega) (by omega)).mp hc31
        refine lv_aload_n hx hb zd_D_end_57 rfl (lv_at hl 2 rfl) ?_
        refine lv_lload hx hb zd_D_end_58 (lv_at hl 1 rfl) ?_
        refine lv_bipush (v := (nI (32))) hx hb zd_D_end_60 (by decide) ?_
        refine lv_lushr hx hb zd_D_end_62 rfl ?_
        refine lv_topl (fun yl15 _ => ?_)
        refine lv_l2i hx hb zd_D_end_63 rfl ?_
        refine lv_topi (fun x16 _ => ?_)
        refine kz_callv (wk := [(o, .inl (cI, 16, .inl f14))]) (va_runV (As := [.int x16]) (rest := []) ⟨hx, hb, hml, hown, hts⟩ (c_Dig_putWord l dC dI cI cAA cB cL h su ro roots c11 f12 f13 groots (x16) _ (by first | omega | assumption)) (cwV 1 hts (kz_g (kz_mc mw_310 (kz_mc mw_312 (kz_mc mw_13 (kz_mc mw_42 kz_mn)))) mw_313) rfl rfl rfl (by decide +kernel) ⟨Nat.le_of_ble_eq_true rfl, Nat.le_of_ble_eq_true rfl⟩) (kz_preV hdy hA hK hro hZ hN [0, 1, 2] (by decide) rfl [(true, 0)] rfl (by decide) [0, 1, 2, 3] rfl (fun _ h => h) (fun _ h => by cases h) rfl (ci := 3) (q0 := 0) rfl rfl rfl) rfl rfl hl.1 rfl (lv_room (Nat.le_of_ble_eq_true rfl)) zd_D_end_64 ⟨Nat.le_of_ble_eq_true rfl, Nat.le_of_ble_eq_true rfl⟩) hdy hA [0, 1, 2] [3] rfl rfl (by decide) (by decide) (fun u H locs hw hdy => ?_)
        obtain ⟨c17, f18, f19⟩ := u
        try dsimp only at hw
        obtain ⟨q20, -⟩ := hw
        have hdy : kz_dy (dC, dI) vwCl A s.heap H locs [(h, .inr (3, [.ref su, .ref ro, .int (nI (c17))])), (su, .inl (cI, 8, .inl f18)), (ro, .inl (cI, 64, .inl f19)), (o, .inl (cI, 16, .inl f14))] := hdy.sub [1, 2, 3, 0] (by decide) rfl
        refine lv_aload_n hx hb zd_D_end_67 rfl (lv_at hl 2 rfl) ?_
        refine lv_lload hx hb zd_D_end_68 (lv_at hl 1 rfl) ?_
        refine lv_l2i hx hb zd_D_end_70 rfl ?_
        refine lv_topi (fun x21 _ => ?_)
        refine kz_callv (wk := [(o, .inl (cI, 16, .inl f14))]) (va_runV (As := [.int x21]) (rest := []) ⟨hx, hb, hml, hown, hts⟩ (c_Dig_putWord l dC dI cI cAA cB cL h su ro roots c17 f18 f19 groots (x21) _ (by first | omega | assumption)) (cwV 1 hts (kz_g (kz_mc mw_310 (kz_mc mw_312 (kz_mc mw_13 (kz_mc mw_42 kz_mn)))) mw_313) rfl rfl rfl (by decide +kernel) ⟨Nat.le_of_ble_eq_true rfl, Nat.le_of_ble_eq_true rfl⟩) (kz_preV hdy hA hK hro hZ hN [0, 1, 2] (by decide) rfl [(true, 0)] rfl (by decide) [0, 1, 2, 3] rfl (fun _ h => h) (fun _ h => by cases h) rfl (ci := 3) (q0 := 0) rfl rfl rfl) rfl rfl hl.1 rfl (lv_room (Nat.le_of_ble_eq_true rfl)) zd_D_end_71 ⟨Nat.le_of_ble_eq_true rfl, Nat.le_of_ble_eq_true rfl⟩) hdy hA [0, 1, 2] [3] rfl rfl (by decide) (by decide) (fun u H locs hw hdy => ?_)
        obtain ⟨c22, f23, f24⟩ := u
        try dsimp only at hw
        obtain ⟨q25, -⟩ := hw
        have hdy : kz_dy (dC, dI) vwCl A s.heap H locs [(h, .inr (3, [.ref su, .ref ro, .int (nI (c22))])), (su, .inl (cI, 8, .inl f23)), (ro, .inl (cI, 64, .inl f24)), (o, .inl (cI, 16, .inl f14))] := hdy.sub [1, 2, 3, 0] (by decide) rfl
        refine lv_aload_n hx hb zd_D_end_74 rfl (lv_at hl 2 rfl) ?_
        refine va_get (D := (dC, dI)) (ci := 3) (v := .ref su) (C := zR_D) (T := zT_D) (N := 3) hx hb hts (fun w h => kz_c (zi_D w h)) hown hK hdy.1 0 rfl rfl 0 (by decide) (hts _ (kz_c mw_119)) (fun _ h9 => h9) rfl zd_D_end_75 ?_
        refine lv_iconst (v := (nI (0))) hx hb zd_D_end_78 (by decide) ?_
        refine lv_aload_n hx hb zd_D_end_79 rfl (lv_at hl 5 rfl) ?_
        refine lv_iload hx hb zd_D_end_80 (lv_at hl 6 rfl) ?_
        refine lv_bipush (v := (nI (8))) hx hb zd_D_end_82 (by decide) ?_
        refine va_copyi hx hb (hml.trans hl.1.symm) hown (hts _ (kz_c mw_333)) (hts _ (kz_c mw_214)) (hts _ (kz_c mw_213)) (hts _ (kz_c mw_51)) hK hdy.1 hdy.2.1 hdy.2.2 1 3 0 0 rfl rfl rfl rfl rfl (nI_pos (by omega)) (nI_pos (by omega)) (nI_pos (by omega)) (by (repeat rw [nI_clamp (by omega)]) <;> omega) (by (repeat rw [nI_clamp (by omega)]) <;> omega) (fun _ _ => rfl) (Nat.le_of_ble_eq_true rfl) (Nat.le_of_ble_eq_true rfl) zd_D_end_84 (fun H locs hP hD hS => ?_)
        obtain ⟨f26, hdy⟩ : ∃ f26 : Nat → Int32, kz_dy (dC, dI) vwCl A s.heap H locs [(h, .inr (3, [.ref su, .ref ro, .int (nI (c22))])), (su, .inl (cI, 8, .inl f23)), (ro, .inl (cI, 64, .inl f24)), (o, .inl (cI, 16, .inl f26))] := ⟨_, hP, hD, hS⟩
        exact kz_vret F (c22, f23, f24, f26) hdy (⟨by first | assumption | rfl | omega, trivial⟩) zd_D_end_87
      · have hc31 : ¬ 16 ≤ k27 := fun h9 => hc31 ((nI_leI (by omega) (by omega)).mpr h9)
        refine lv_aload_n hx hb zd_D_end_34 rfl (lv_at hl 2 rfl) ?_
        refine va_get (D := (dC, dI)) (ci := 3) (v := .int (nI (c11))) (C := zR_D) (T := zT_D) (N := 3) hx hb hts (fun w h => kz_c (zi_D w h)) hown hK hdy.1 0 rfl rfl 2 (by decide) (hts _ (kz_c mw_121)) (fun _ h9 => h9) rfl zd_D_end_35 ?_
        refine lv_bipush (v := (nI (16))) hx hb zd_D_end_38 (by decide) ?_
        refine kz_irem hx hb zd_D_end_40 (by decide) (pk_rem (by omega) (by omega) (by omega)) ?_
        refine lv_bipush (v := (nI (14))) hx hb zd_D_end_41 (by decide) ?_
        refine lv_icmp_eq (tgt := 57) hx hb zd_D_end_43 (by decide) (fun hc43 => ?_) (fun hc43 => ?_)
        · have hc43 : (c11 % 16) = 14 := (nI_eq (by omega) (by omega)).mp hc43
          refine lv_aload_n hx hb zd_D_end_57 rfl (lv_at hl 2 rfl) ?_
          refine lv_lload hx hb zd_D_end_58 (lv_at hl 1 rfl) ?_
          refine lv_bipush (v := (nI (32))) hx hb zd_D_end_60 (by decide) ?_
          refine lv_lushr hx hb zd_D_end_62 rfl ?_
          refine lv_topl (fun yl27 _ => ?_)
          refine lv_l2i hx hb zd_D_end_63 rfl ?_
          refine lv_topi (fun x28 _ => ?_)
          refine kz_callv (wk := [(o, .inl (cI, 16, .inl f14))]) (va_runV (As := [.int x28]) (rest := []) ⟨hx, hb, hml, hown, hts⟩ (c_Dig_putWord l dC dI cI cAA cB cL h su ro roots c11 f12 f13 groots (x28) _ (by first | omega | assumption)) (cwV 1 hts (kz_g (kz_mc mw_310 (kz_mc mw_312 (kz_mc mw_13 (kz_mc mw_42 kz_mn)))) mw_313) rfl rfl rfl (by decide +kernel) ⟨Nat.le_of_ble_eq_true rfl, Nat.le_of_ble_eq_true rfl⟩) (kz_preV hdy hA hK hro hZ hN [0, 1, 2] (by decide) rfl [(true, 0)] rfl (by decide) [0, 1, 2, 3] rfl (fun _ h => h) (fun _ h => by cases h) rfl (ci := 3) (q0 := 0) rfl rfl rfl) rfl rfl hl.1 rfl (lv_room (Nat.le_of_ble_eq_true rfl)) zd_D_end_64 ⟨Nat.le_of_ble_eq_true rfl, Nat.le_of_ble_eq_true rfl⟩) hdy hA [0, 1, 2] [3] rfl rfl (by decide) (by decide) (fun u H locs hw hdy => ?_)
          obtain ⟨c29, f30, f31⟩ := u
          try dsimp only at hw
          obtain ⟨q32, -⟩ := hw
          have hdy : kz_dy (dC, dI) vwCl A s.heap H locs [(h, .inr (3, [.ref su, .ref ro, .int (nI (c29))])), (su, .inl (cI, 8, .inl f30)), (ro, .inl (cI, 64, .inl f31)), (o, .inl (cI, 16, .inl f14))] := hdy.sub [1, 2, 3, 0] (by decide) rfl
          refine lv_aload_n hx hb zd_D_end_67 rfl (lv_at hl 2 rfl) ?_
          refine lv_lload hx hb zd_D_end_68 (lv_at hl 1 rfl) ?_
          refine lv_l2i hx hb zd_D_end_70 rfl ?_
          refine lv_topi (fun x33 _ => ?_)
          refine kz_callv (wk := [(o, .inl (cI, 16, .inl f14))]) (va_runV (As := [.int x33]) (rest := []) ⟨hx, hb, hml, hown, hts⟩ (c_Dig_putWord l dC dI cI cAA cB cL h su ro roots c29 f30 f31 groots (x33) _ (by first | omega | assumption)) (cwV 1 hts (kz_g (kz_mc mw_310 (kz_mc mw_312 (kz_mc mw_13 (kz_mc mw_42 kz_mn)))) mw_313) rfl rfl rfl (by decide +kernel) ⟨Nat.le_of_ble_eq_true rfl, Nat.le_of_ble_eq_true rfl⟩) (kz_preV hdy hA hK hro hZ hN [0, 1, 2] (by decide) rfl [(true, 0)] rfl (by decide) [0, 1, 2, 3] rfl (fun _ h => h) (fun _ h => by cases h) rfl (ci := 3) (q0 := 0) rfl rfl rfl) rfl rfl hl.1 rfl (lv_room (Nat.le_of_ble_eq_true rfl)) zd_D_end_71 ⟨Nat.le_of_ble_eq_true rfl, Nat.le_of_ble_eq_true rfl⟩) hdy hA [0, 1, 2] [3] rfl rfl (by decide) (by decide) (fun u H locs hw hdy => ?_)
          obtain ⟨c34, f35, f36⟩ := u
          try dsimp only at hw
          obtain ⟨q37, -⟩ := hw
          have hdy : kz_dy (dC, dI) vwCl A s.heap H locs [(h, .inr (3, [.ref su, .ref ro, .int (nI (c34))])), (su, .inl (cI, 8, .inl f35)), (ro, .inl (cI, 64, .inl f36)), (o, .inl (cI, 16, .inl f14))] := hdy.sub [1, 2, 3, 0] (by decide) rfl
          refine lv_aload_n hx hb zd_D_end_74 rfl (lv_at hl 2 rfl) ?_
          refine va_get (D := (dC, dI)) (ci := 3) (v := .ref su) (C := zR_D) (T := zT_D) (N := 3) hx hb hts (fun w h => kz_c (zi_D w h)) hown hK hdy.1 0 rfl rfl 0 (by decide) (hts _ (kz_c mw_119)) (fun _ h9 => h9) rfl zd_D_end_75 ?_
          refine lv_iconst (v := (nI (0))) hx hb zd_D_end_78 (by decide) ?_
          refine lv_aload_n hx hb zd_D_end_79 rfl (lv_at hl 5 rfl) ?_
          refine lv_iload hx hb zd_D_end_80 (lv_at hl 6 rfl) ?_
          refine lv_bipush (v := (nI (8))) hx hb zd_D_end_82 (by decide) ?_
          refine va_copyi hx hb (hml.trans hl.1.symm) hown (hts _ (kz_c mw_333)) (hts _ (kz_c mw_214)) (hts _ (kz_c mw_213)) (hts _ (kz_c mw_51)) hK hdy.1 hdy.2.1 hdy.2.2 1 3 0 0 rfl rfl rfl rfl rfl (nI_pos (by omega)) (nI_pos (by omega)) (nI_pos (by omega)) (by (repeat rw [nI_clamp (by omega)]) <;> omega) (by (repeat rw [nI_clamp (by omega)]) <;> omega) (fun _ _ => rfl) (Nat.le_of_ble_eq_true rfl) (Nat.le_of_ble_eq_true rfl) zd_D_end_84 (fun H locs hP hD hS => ?_)
          obtain ⟨f38, hdy⟩ : ∃ f38 : Nat → Int32, kz_dy (dC, dI) vwCl A s.heap H locs [(h, .inr (3, [.ref su, .ref ro, .int (nI (c34))])), (su, .inl (cI, 8, .inl f35)), (ro, .inl (cI, 64, .inl f36)), (o, .inl (cI, 16, .inl f38))] := ⟨_, hP, hD, hS⟩
          exact kz_vret F (c34, f35, f36, f38) hdy (⟨by first | assumption | rfl | omega, trivial⟩) zd_D_end_87
        · have hc43 : ¬ (c11 % 16) = 14 := fun h9 => hc43 ((nI_eq (by omega) (by omega)).mpr h9)
          refine lv_aload_n hx hb zd_D_end_46 rfl (lv_at hl 2 rfl) ?_
          refine lv_iconst (v := (nI (0))) hx hb zd_D_end_47 (by decide) ?_
          refine kz_callv (wk := [(o, .inl (cI, 16, .inl f14))]) (va_runV (As := [.int (nI (0))]) (rest := []) ⟨hx, hb, hml, hown, hts⟩ (c_Dig_putWord l dC dI cI cAA cB cL h su ro roots c11 f12 f13 groots ((nI (0))) _ (by first | omega | assumption)) (cwV 1 hts (kz_g (kz_mc mw_310 (kz_mc mw_312 (kz_mc mw_13 (kz_mc mw_42 kz_mn)))) mw_313) rfl rfl rfl (by decide +kernel) ⟨Nat.le_of_ble_eq_true rfl, Nat.le_of_ble_eq_true rfl⟩) (kz_preV hdy hA hK hro hZ hN [0, 1, 2] (by decide) rfl [(true, 0)] rfl (by decide) [0, 1, 2, 3] rfl (fun _ h => h) (fun _ h => by cases h) rfl (ci := 3) (q0 := 0) rfl rfl rfl) rfl rfl hl.1 rfl (lv_room (Nat.le_of_ble_eq_true rfl)) zd_D_end_48 ⟨Nat.le_of_ble_eq_true rfl, Nat.le_of_ble_eq_true rfl⟩) hdy hA [0, 1, 2] [3] rfl rfl (by decide) (by decide) (fun u H locs hw hdy => ?_)
          obtain ⟨c39, f40, f41⟩ := u
          try dsimp only at hw
          obtain ⟨q42, -⟩ := hw
          have hdy : kz_dy (dC, dI) vwCl A s.heap H locs [(h, .inr (3, [.ref su, .ref ro, .int (nI (c39))])), (su, .inl (cI, 8, .inl f40)), (ro, .inl (cI, 64, .inl f41)), (o, .inl (cI, 16, .inl f14))] := hdy.sub [1, 2, 3, 0] (by decide) rfl
          refine lv_iinc (v := (nI (k27 + 1))) (lv' := [(7, .int (nI (k27 + 1))), (5, .long yl4), (0, .ref h), (1, .int v), (2, .int k), (3, .ref o), (4, .int (nI (at_)))]) hx hb zd_D_end_51 hl (k := 0) rfl (nI_1 _) (by decide) rfl (fun ls hl => ?_)
          refine lv_goto (tgt := 27) hx hb zd_D_end_54 (by decide) ?_
          exact ih27 (k27 + 1) c39 f40 f41 f14 _ _ _ (by omega) (by omega) (by omega) hdy (lv_sub hl [0, 1, 2, 3, 4, 5, 6] rfl)
  exact lp27 (16 - 0 + 1) 0 c7 f8 f9 go _ _ _ (by omega) (by omega) (by omega) hdy (lv_sub hl [0, 1, 2, 3, 4, 5, 6] rfl)

