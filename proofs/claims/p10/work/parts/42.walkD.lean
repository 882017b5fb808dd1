set_option maxHeartbeats 4000000 in
set_option maxRecDepth 100000 in
/-- KeyMeeting$Digest.turn(II)I -/
theorem c_S_turn (l : Launch) (dC : Nat → ClassId) (dI : Nat → Nat → Nat) (cI cAA cB cL : ClassId) (v : Int32) (k : Int32) (sz : Nat) : Met l zy_D_turn zw_D_turn { frames := 0, cells := 0, slots := 0, locals := 0 } (kz_Pc (dC, dI) vwCl [(cI, .int), (cAA, .array .int), (cB, .byte), (cL, .long)] [] [] [.int v, .int k] [] [] sz) (va_Qi (fun (r : Int32) (u : Unit) => (r = kd_t v k) ∧ True) (kz_B (dC, dI) vwCl (va_A [] sz) (fun u : Unit => [])) (va_A [] sz)) 0 0 (va_A [] sz) := by
  refine kz_met (y := zy_D_turn) (ws := zw_D_turn) (av := [.int v, .int k]) (sz := sz) (Qc := fun A => va_Qi (fun (r : Int32) (u : Unit) => (r = kd_t v k) ∧ True) (kz_B (dC, dI) vwCl A (fun u : Unit => [])) A) (cc := zc_D_turn) (maxL := 2) (ret := some .int) (by decide) rfl (Nat.le_of_ble_eq_true rfl) ?_
  intro p e s m below meth c A ls F hA hdy hK hro hZ hN hl
  obtain ⟨hx, hb, hml, hr, hown, hlocks, hts, hnm⟩ := id F
  have hl : lv_has ls 2 [(0, .int v), (1, .int k)] := hl
  refine lv_iload_n hx hb zd_D_turn_0 rfl (lv_at hl 0 rfl) ?_
  refine lv_iload_n hx hb zd_D_turn_1 rfl (lv_at hl 1 rfl) ?_
  refine lv_iushr (v := kd_us v k) hx hb zd_D_turn_2 rfl ?_
  refine lv_iload_n hx hb zd_D_turn_3 rfl (lv_at hl 0 rfl) ?_
  refine lv_bipush (v := (nI (32))) hx hb zd_D_turn_4 (by decide) ?_
  refine lv_iload_n hx hb zd_D_turn_6 rfl (lv_at hl 1 rfl) ?_
  refine lv_isub hx hb zd_D_turn_7 ?_
  refine lv_ishl hx hb zd_D_turn_8 ?_
  refine lv_ior hx hb zd_D_turn_9 ?_
  exact kz_iret F () hdy (⟨by rfl, trivial⟩) zd_D_turn_10

set_option maxHeartbeats 4000000 in
set_option maxRecDepth 100000 in
/-- KeyMeeting$Digest.spreadRow()V -/
theorem c_S_spreadRow (l : Launch) (dC : Nat → ClassId) (dI : Nat → Nat → Nat) (cI cAA cB cL : ClassId) (ro h su : Nat) (gro : Nat → Int32) (ct : Nat) (sz : Nat) : Met l zy_D_spreadRow zw_D_spreadRow { frames := 1, cells := 0, slots := 0, locals := 21 } (kz_Pc (dC, dI) vwCl [(cI, .int), (cAA, .array .int), (cB, .byte), (cL, .long)] [] [] [.ref h] [(ro, .inl (cI, 64, .inl gro))] [(h, .inr (3, [.ref su, .ref ro, .int (nI (ct))]))] sz) (va_Qv (fun (u : (Nat → Int32)) => (u = kd_W gro 48) ∧ True) (kz_B (dC, dI) vwCl (va_A [(ro, .inl (cI, 64, .inl gro))] sz) (fun u : (Nat → Int32) => [(ro, .inl (cI, 64, .inl u))])) (va_A [(ro, .inl (cI, 64, .inl gro))] sz)) 0 0 (va_A [(ro, .inl (cI, 64, .inl gro))] sz) := by
  refine kz_met (y := zy_D_spreadRow) (ws := zw_D_spreadRow) (av := [.ref h]) (sz := sz) (Qc := fun A => va_Qv (fun (u : (Nat → Int32)) => (u = kd_W gro 48) ∧ True) (kz_B (dC, dI) vwCl A (fun u : (Nat → Int32) => [(ro, .inl (cI, 64, .inl u))])) A) (cc := zc_D_spreadRow) (maxL := 6) (ret := none) (by decide) rfl (Nat.le_of_ble_eq_true rfl) ?_
  intro p e s m below meth c A ls F hA hdy hK hro hZ hN hl
  obtain ⟨hx, hb, hml, hr, hown, hlocks, hts, hnm⟩ := id F
  have hl : lv_has ls 6 [(0, .ref h)] := hl
  refine lv_bipush (v := (nI (16))) hx hb zd_D_spreadRow_0 (by decide) ?_
  refine lv_istore_n (lv' := [(1, .int (nI (16))), (0, .ref h)]) hx hb zd_D_spreadRow_2 rfl hl (by decide) rfl (fun ls hl => ?_)
  have lp3 : ∀ (n3 k3 : Nat) (f1 : Nat → Int32) (H : Heap) (locs : List Loc) (ls : Array Slot), k3 ≤ 64 → 64 - k3 < n3 → 16 ≤ k3 → (f1 = kd_W gro (k3 - 16)) → kz_dy (dC, dI) vwCl A s.heap H locs [(ro, .inl (cI, 64, .inl f1))] → lv_has ls 6 [(1, .int (nI (k3))), (0, .ref h)] → W p l e { frames := 1, cells := 0, slots := 0, locals := 21 } s m ([.ref h] : List Value).toArray below meth c H locs 0 0 (MQ below (va_Qv (fun (u : (Nat → Int32)) => (u = kd_W gro 48) ∧ True) (kz_B (dC, dI) vwCl A (fun u : (Nat → Int32) => [(ro, .inl (cI, 64, .inl u))])) A) ([.ref h] : List Value).toArray s 0 0 A) (F0 m 3 ls []) := by
    intro n3
    induction n3 with
    | zero => intro k3; intros; omega
    | succ n3 ih3 =>
      intro k3 f1 H locs ls hi3 hn3 hblow hW hdy hl
      refine lv_iload_n hx hb zd_D_spreadRow_3 rfl (lv_at hl 0 rfl) ?_
      refine lv_bipush (v := (nI (64))) hx hb zd_D_spreadRow_4 (by decide) ?_
      refine lv_icmp_ge (tgt := 106) hx hb zd_D_spreadRow_6 (by decide) (fun hc6 => ?_) (fun hc6 => ?_)
      · have hc6 : 64 ≤ k3 := (nI_leI (by omega) (by omega)).mp hc6
        exact kz_vret F (f1) hdy (⟨by have h8 : k3 = 64 := (by omega); subst h8; exact hW, trivial⟩) zd_D_spreadRow_106
      · have hc6 : ¬ 64 ≤ k3 := fun h9 => hc6 ((nI_leI (by omega) (by omega)).mpr h9)
        refine lv_aload_n hx hb zd_D_spreadRow_9 rfl (lv_at hl 1 rfl) ?_
        refine va_get (D := (dC, dI)) (ci := 3) (v := .ref ro) (C := zR_D) (T := zT_D) (N := 3) hx hb hts (fun w h => kz_c (zi_D w h)) hown hK (hro.ob hdy.2.2 (k := 0) rfl) 0 rfl rfl 1 (by decide) (hts _ (kz_c mw_120)) (fun _ h9 => h9) rfl zd_D_spreadRow_10 ?_
        refine lv_iload_n hx hb zd_D_spreadRow_13 rfl (lv_at hl 0 rfl) ?_
        refine lv_bipush (v := (nI (15))) hx hb zd_D_spreadRow_14 (by decide) ?_
        refine kz_isub hx hb zd_D_spreadRow_16 (pk_sub (by omega)) ?_
        refine va_iald hx hb hK hdy.1 0 0 rfl rfl (vp_in_nI (by omega) (by omega)) zd_D_spreadRow_17 ?_
        refine lv_topi (fun x2 h9 => ?_)
        obtain rfl : x2 = f1 (k3 - 15) := h9.trans (by rw [nI_clamp (by omega)])
        refine lv_topi (fun x3 ex3 => ?_)
        refine lv_istore_n (lv' := [(2, .int x3), (1, .int (nI (k3))), (0, .ref h)]) hx hb zd_D_spreadRow_18 rfl hl (by decide) rfl (fun ls hl => ?_)
        refine lv_iload_n hx hb zd_D_spreadRow_19 rfl (lv_at hl 0 rfl) ?_
        refine lv_bipush (v := (nI (7))) hx hb zd_D_spreadRow_20 (by decide) ?_
        refine kz_calli (wk := [(ro, .inl (cI, 64, .inl f1))]) (va_runS (As := [.int x3, .int (nI (7))]) (rest := []) ⟨hx, hb, hml, hown, hts⟩ (c_S_turn l dC dI cI cAA cB cL (x3) ((nI (7))) _) (va_cwS 2 hts (kz_g (kz_mc mw_322 (kz_mc mw_323 (kz_mc mw_42 kz_mn))) mw_324) rfl rfl rfl (by decide +kernel) ⟨Nat.le_of_ble_eq_true rfl, Nat.le_of_ble_eq_true rfl⟩) (kz_preS hdy hA hK hro hZ hN [] (by decide) rfl [] rfl (by decide) [0, 1, 2, 3] rfl (fun _ h => by cases h) (fun _ h => by cases h) rfl) rfl rfl hl.1 rfl (lv_room (Nat.le_of_ble_eq_true rfl)) zd_D_spreadRow_22 ⟨Nat.le_of_ble_eq_true rfl, Nat.le_of_ble_eq_true rfl⟩) hdy hA [] [0] rfl rfl (by decide) (by decide) (fun r u H locs hw hdy => ?_)
        obtain ⟨r4, rfl⟩ : ∃ z, z = r := ⟨_, rfl⟩
        try dsimp only at hw
        obtain ⟨q5, -⟩ := hw
        have hdy : kz_dy (dC, dI) vwCl A s.heap H locs [(ro, .inl (cI, 64, .inl f1))] := hdy.sub [0] (by decide) rfl
        refine lv_iload_n hx hb zd_D_spreadRow_25 rfl (lv_at hl 0 rfl) ?_
        refine lv_bipush (v := (nI (18))) hx hb zd_D_spreadRow_26 (by decide) ?_
        refine kz_calli (wk := [(ro, .inl (cI, 64, .inl f1))]) (va_runS (As := [.int x3, .int (nI (18))]) (rest := [.int r4]) ⟨hx, hb, hml, hown, hts⟩ (c_S_turn l dC dI cI cAA cB cL (x3) ((nI (18))) _) (va_cwS 2 hts (kz_g (kz_mc mw_322 (kz_mc mw_323 (kz_mc mw_42 kz_mn))) mw_324) rfl rfl rfl (by decide +kernel) ⟨Nat.le_of_ble_eq_true rfl, Nat.le_of_ble_eq_true rfl⟩) (kz_preS hdy hA hK hro hZ hN [] (by decide) rfl [] rfl (by decide) [0, 1, 2, 3] rfl (fun _ h => by cases h) (fun _ h => by cases h) rfl) rfl rfl hl.1 rfl (lv_room (Nat.le_of_ble_eq_true rfl)) zd_D_spreadRow_28 ⟨Nat.le_of_ble_eq_true rfl, Nat.le_of_ble_eq_true rfl⟩) hdy hA [] [0] rfl rfl (by decide) (by decide) (fun r u H locs hw hdy => ?_)
        obtain ⟨r6, rfl⟩ : ∃ z, z = r := ⟨_, rfl⟩
        try dsimp only at hw
        obtain ⟨q7, -⟩ := hw
        have hdy : kz_dy (dC, dI) vwCl A s.heap H locs [(ro, .inl (cI, 64, .inl f1))] := hdy.sub [0] (by decide) rfl
        refine lv_ixor hx hb zd_D_spreadRow_31 ?_
        refine lv_iload_n hx hb zd_D_spreadRow_32 rfl (lv_at hl 0 rfl) ?_
        refine lv_iconst (v := (nI (3))) hx hb zd_D_spreadRow_33 (by decide) ?_
        refine lv_iushr (v := kd_us x3 (nI (3))) hx hb zd_D_spreadRow_34 rfl ?_
        refine lv_ixor hx hb zd_D_spreadRow_35 ?_
        refine lv_topi (fun x8 ex8 => ?_)
        refine lv_istore_n (lv' := [(3, .int x8), (2, .int x3), (1, .int (nI (k3))), (0, .ref h)]) hx hb zd_D_spreadRow_36 rfl hl (by decide) rfl (fun ls hl => ?_)
        refine lv_aload_n hx hb zd_D_spreadRow_37 rfl (lv_at hl 3 rfl) ?_
        refine va_get (D := (dC, dI)) (ci := 3) (v := .ref ro) (C := zR_D) (T := zT_D) (N := 3) hx hb hts (fun w h => kz_c (zi_D w h)) hown hK (hro.ob hdy.2.2 (k := 0) rfl) 0 rfl rfl 1 (by decide) (hts _ (kz_c mw_120)) (fun _ h9 => h9) rfl zd_D_spreadRow_38 ?_
        refine lv_iload_n hx hb zd_D_spreadRow_41 rfl (lv_at hl 2 rfl) ?_
        refine lv_iconst (v := (nI (2))) hx hb zd_D_spreadRow_42 (by decide) ?_
        refine kz_isub hx hb zd_D_spreadRow_43 (pk_sub (by omega)) ?_
        refine va_iald hx hb hK hdy.1 0 0 rfl rfl (vp_in_nI (by omega) (by omega)) zd_D_spreadRow_44 ?_
        refine lv_topi (fun x9 h9 => ?_)
        obtain rfl : x9 = f1 (k3 - 2) := h9.trans (by rw [nI_clamp (by omega)])
        refine lv_topi (fun x10 ex10 => ?_)
        refine lv_istore (lv' := [(4, .int x10), (3, .int x8), (2, .int x3), (1, .int (nI (k3))), (0, .ref h)]) hx hb zd_D_spreadRow_45 hl (by decide) rfl (fun ls hl => ?_)
        refine lv_iload hx hb zd_D_spreadRow_47 (lv_at hl 0 rfl) ?_
        refine lv_bipush (v := (nI (17))) hx hb zd_D_spreadRow_49 (by decide) ?_
        refine kz_calli (wk := [(ro, .inl (cI, 64, .inl f1))]) (va_runS (As := [.int x10, .int (nI (17))]) (rest := []) ⟨hx, hb, hml, hown, hts⟩ (c_S_turn l dC dI cI cAA cB cL (x10) ((nI (17))) _) (va_cwS 2 hts (kz_g (kz_mc mw_322 (kz_mc mw_323 (kz_mc mw_42 kz_mn))) mw_324) rfl rfl rfl (by decide +kernel) ⟨Nat.le_of_ble_eq_true rfl, Nat.le_of_ble_eq_true rfl⟩) (kz_preS hdy hA hK hro hZ hN [] (by decide) rfl [] rfl (by decide) [0, 1, 2, 3] rfl (fun _ h => by cases h) (fun _ h => by cases h) rfl) rfl rfl hl.1 rfl (lv_room (Nat.le_of_ble_eq_true rfl)) zd_D_spreadRow_51 ⟨Nat.le_of_ble_eq_true rfl, Nat.le_of_ble_eq_true rfl⟩) hdy hA [] [0] rfl rfl (by decide) (by decide) (fun r u H locs hw hdy => ?_)
        obtain ⟨r11, rfl⟩ : ∃ z, z = r := ⟨_, rfl⟩
        try dsimp only at hw
        obtain ⟨q12, -⟩ := hw
        have hdy : kz_dy (dC, dI) vwCl A s.heap H locs [(ro, .inl (cI, 64, .inl f1))] := hdy.sub [0] (by decide) rfl
        refine lv_iload hx hb zd_D_spreadRow_54 (lv_at hl 0 rfl) ?_
        refine lv_bipush (v := (nI (19))) hx hb zd_D_spreadRow_56 (by decide) ?_
        refine kz_calli (wk := [(ro, .inl (cI, 64, .inl f1))]) (va_runS (As := [.int x10, .int (nI (19))]) (rest := [.int r11]) ⟨hx, hb, hml, hown, hts⟩ (c_S_turn l dC dI cI cAA cB cL (x10) ((nI (19))) _) (va_cwS 2 hts (kz_g (kz_mc mw_322 (kz_mc mw_323 (kz_mc mw_42 kz_mn))) mw_324) rfl rfl rfl (by decide +kernel) ⟨Nat.le_of_ble_eq_true rfl, Nat.le_of_ble_eq_true rfl⟩) (kz_preS hdy hA hK hro hZ hN [] (by decide) rfl [] rfl (by decide) [0, 1, 2, 3] rfl (fun _ h => by cases h) (fun _ h => by cases h) rfl) rfl rfl hl.1 rfl (lv_room (Nat.le_of_ble_eq_true rfl)) zd_D_spreadRow_58 ⟨Nat.le_of_ble_eq_true rfl, Nat.le_of_ble_eq_true rfl⟩) hdy hA [] [0] rfl rfl (by decide) (by decide) (fun r u H locs hw hdy => ?_)
        obtain ⟨r13, rfl⟩ : ∃ z, z = r := ⟨_, rfl⟩
        try dsimp only at hw
        obtain ⟨q14, -⟩ := hw
        have hdy : kz_dy (dC, dI) vwCl A s.heap H locs [(ro, .inl (cI, 64, .inl f1))] := hdy.sub [0] (by decide) rfl
        refine lv_ixor hx hb zd_D_spreadRow_61 ?_
        refine lv_iload hx hb zd_D_spreadRow_62 (lv_at hl 0 rfl) ?_
        refine lv_bipush (v := (nI (10))) hx hb zd_D_spreadRow_64 (by decide) ?_
        refine lv_iushr (v := kd_us x10 (nI (10))) hx hb zd_D_spreadRow_66 rfl ?_
        refine lv_ixor hx hb zd_D_spreadRow_67 ?_
        refine lv_topi (fun x15 ex15 => ?_)
        refine lv_istore (lv' := [(5, .int x15), (4, .int x10), (3, .int x8), (2, .int x3), (1, .int (nI (k3))), (0, .ref h)]) hx hb zd_D_spreadRow_68 hl (by decide) rfl (fun ls hl => ?_)
        refine lv_aload_n hx hb zd_D_spreadRow_70 rfl (lv_at hl 5 rfl) ?_
        refine va_get (D := (dC, dI)) (ci := 3) (v := .ref ro) (C := zR_D) (T := zT_D) (N := 3) hx hb hts (fun w h => kz_c (zi_D w h)) hown hK (hro.ob hdy.2.2 (k := 0) rfl) 0 rfl rfl 1 (by decide) (hts _ (kz_c mw_120)) (fun _ h9 => h9) rfl zd_D_spreadRow_71 ?_
        refine lv_iload_n hx hb zd_D_spreadRow_74 rfl (lv_at hl 4 rfl) ?_
        refine lv_aload_n hx hb zd_D_spreadRow_75 rfl (lv_at hl 5 rfl) ?_
        refine va_get (D := (dC, dI)) (ci := 3) (v := .ref ro) (C := zR_D) (T := zT_D) (N := 3) hx hb hts (fun w h => kz_c (zi_D w h)) hown hK (hro.ob hdy.2.2 (k := 0) rfl) 0 rfl rfl 1 (by decide) (hts _ (kz_c mw_120)) (fun _ h9 => h9) rfl zd_D_spreadRow_76 ?_
        refine lv_iload_n hx hb zd_D_spreadRow_79 rfl (lv_at hl 4 rfl) ?_
        refine lv_bipush (v := (nI (16))) hx hb zd_D_spreadRow_80 (by decide) ?_
        refine kz_isub hx hb zd_D_spreadRow_82 (pk_sub (by omega)) ?_
        refine va_iald hx hb hK hdy.1 0 0 rfl rfl (vp_in_nI (by omega) (by omega)) zd_D_spreadRow_83 ?_
        refine lv_topi (fun x16 h9 => ?_)
        obtain rfl : x16 = f1 (k3 - 16) := h9.trans (by rw [nI_clamp (by omega)])
        refine lv_iload_n hx hb zd_D_spreadRow_84 rfl (lv_at hl 2 rfl) ?_
        refine lv_iadd hx hb zd_D_spreadRow_85 ?_
        refine lv_aload_n hx hb zd_D_spreadRow_86 rfl (lv_at hl 5 rfl) ?_
        refine va_get (D := (dC, dI)) (ci := 3) (v := .ref ro) (C := zR_D) (T := zT_D) (N := 3) hx hb hts (fun w h => kz_c (zi_D w h)) hown hK (hro.ob hdy.2.2 (k := 0) rfl) 0 rfl rfl 1 (by decide) (hts _ (kz_c mw_120)) (fun _ h9 => h9) rfl zd_D_spreadRow_87 ?_
        refine lv_iload_n hx hb zd_D_spreadRow_90 rfl (lv_at hl 4 rfl) ?_
        refine lv_bipush (v := (nI (7))) hx hb zd_D_spreadRow_91 (by decide) ?_
        refine kz_isub hx hb zd_D_spreadRow_93 (pk_sub (by omega)) ?_
        refine va_iald hx hb hK hdy.1 0 0 rfl rfl (vp_in_nI (by omega) (by omega)) zd_D_spreadRow_94 ?_
        refine lv_topi (fun x17 h9 => ?_)
        obtain rfl : x17 = f1 (k3 - 7) := h9.trans (by rw [nI_clamp (by omega)])
        refine lv_iadd hx hb zd_D_spreadRow_95 ?_
        refine lv_iload hx hb zd_D_spreadRow_96 (lv_at hl 0 rfl) ?_
        refine lv_iadd hx hb zd_D_spreadRow_98 ?_
        refine va_iast hx hb hK hdy.1 hdy.2.1 hdy.2.2 0 0 rfl rfl (vp_in_nI (by omega) (by omega)) zd_D_spreadRow_99 (fun H locs hP hD hS => ?_)
        rw [nI_clamp (by omega)] at hP hD
        obtain ⟨f18, ef18, hdy⟩ : ∃ f18 : Nat → Int32, f18 = upd f1 k3 (((((f1 (k3 - 16)) + x8) + (f1 (k3 - 7))) + x15)) ∧ kz_dy (dC, dI) vwCl A s.heap H locs [(ro, .inl (cI, 64, .inl f18))] := ⟨_, rfl, hP, hD, hS⟩
        refine lv_iinc (v := (nI (k3 + 1))) (lv' := [(1, .int (nI (k3 + 1))), (5, .int x15), (4, .int x10), (3, .int x8), (2, .int x3), (0, .ref h)]) hx hb zd_D_spreadRow_100 hl (k := 4) rfl (nI_1 _) (by decide) rfl (fun ls hl => ?_)
        refine lv_goto (tgt := 3) hx hb zd_D_spreadRow_103 (by decide) ?_
        have hi9_hW19 : f18 = kd_W gro (k3 + 1 - 16) := by rw [ef18]; subst ex3 q5 q7 ex8 ex10 q12 q14 ex15; exact kd_Wstep (by omega) hW rfl
        exact ih3 (k3 + 1) f18 _ _ _ (by omega) (by omega) (by omega) hi9_hW19 hdy (lv_sub hl [0, 5] rfl)
  have hi9_hW20 : gro = kd_W gro (16 - 16) := by rfl
  exact lp3 (64 - 16 + 1) 16 gro _ _ _ (by omega) (by omega) (by omega) hi9_hW20 hdy (lv_sub hl [0, 1] rfl)

set_option maxHeartbeats 4000000 in
set_option maxRecDepth 100000 in
/-- KeyMeeting$Digest.mixRow()V -/
theorem c_S_mixRow (l : Launch) (dC : Nat → ClassId) (dI : Nat → Nat → Nat) (cI cAA cB cL : ClassId) (su ro h roots : Nat) (gsu : Nat → Int32) (gro : Nat → Int32) (ct : Nat) (groots : Nat → Int32) (sz : Nat) : Met l zy_D_mixRow zw_D_mixRow { frames := 2, cells := 0, slots := 0, locals := 46 } (kz_Pc (dC, dI) vwCl [(cI, .int), (cAA, .array .int), (cB, .byte), (cL, .long)] [("KeyMeeting$Digest", "ROOTS", "[I", .ref roots)] [] [.ref h] [(su, .inl (cI, 8, .inl gsu)), (ro, .inl (cI, 64, .inl gro))] [(h, .inr (3, [.ref su, .ref ro, .int (nI (ct))])), (roots, .inl (cI, 64, .inl groots))] sz) (va_Qv (fun (u : (Nat → Int32) × (Nat → Int32)) => (u.1 = kd_mx groots gsu gro) ∧ (u.2 = kd_W gro 48) ∧ True) (kz_B (dC, dI) vwCl (va_A [(su, .inl (cI, 8, .inl gsu)), (ro, .inl (cI, 64, .inl gro))] sz) (fun u : (Nat → Int32) × (Nat → Int32) => [(su, .inl (cI, 8, .inl u.1)), (ro, .inl (cI, 64, .inl u.2))])) (va_A [(su, .inl (cI, 8, .inl gsu)), (ro, .inl (cI, 64, .inl gro))] sz)) 0 0 (va_A [(su, .inl (cI, 8, .inl gsu)), (ro, .inl (cI, 64, .inl gro))] sz) := by
  refine kz_met (y := zy_D_mixRow) (ws := zw_D_mixRow) (av := [.ref h]) (sz := sz) (Qc := fun A => va_Qv (fun (u : (Nat → Int32) × (Nat → Int32)) => (u.1 = kd_mx groots gsu gro) ∧ (u.2 = kd_W gro 48) ∧ True) (kz_B (dC, dI) vwCl A (fun u : (Nat → Int32) × (Nat → Int32) => [(su, .inl (cI, 8, .inl u.1)), (ro, .inl (cI, 64, .inl u.2))])) A) (cc := zc_D_mixRow) (maxL := 12) (ret := none) (by decide) rfl (Nat.le_of_ble_eq_true rfl) ?_
  intro p e s m below meth c A ls F hA hdy hK hro hZ hN hl
  obtain ⟨hx, hb, hml, hr, hown, hlocks, hts, hnm⟩ := id F
  have hl : lv_has ls 12 [(0, .ref h)] := hl
  refine lv_aload_n hx hb zd_D_mixRow_0 rfl (lv_at hl 0 rfl) ?_
  refine kz_callv (wk := [(su, .inl (cI, 8, .inl gsu))]) (va_runV (As := []) (rest := []) ⟨hx, hb, hml, hown, hts⟩ (c_S_spreadRow l dC dI cI cAA cB cL ro h su gro ct _) (cwV 0 hts (kz_g (kz_mc mw_318 (kz_mc mw_320 (kz_mc mw_15 (kz_mc mw_42 kz_mn)))) mw_321) rfl rfl rfl (by decide +kernel) ⟨Nat.le_of_ble_eq_true rfl, Nat.le_of_ble_eq_true rfl⟩) (kz_preVr hdy hA hK hro hZ hN [1] (by decide) rfl [(true, 0)] rfl (by decide) [0, 1, 2, 3] rfl (fun _ h => by cases h) (fun _ h => by cases h) rfl (ci := 3) (q0 := 0) rfl rfl rfl) rfl rfl hl.1 rfl (lv_room (Nat.le_of_ble_eq_true rfl)) zd_D_mixRow_1 ⟨Nat.le_of_ble_eq_true rfl, Nat.le_of_ble_eq_true rfl⟩) hdy hA [1] [0] rfl rfl (by decide) (by decide) (fun u H locs hw hdy => ?_)
  obtain ⟨f1, rfl⟩ : ∃ z, z = u := ⟨_, rfl⟩
  try dsimp only at hw
  obtain ⟨q2, -⟩ := hw
  have hdy : kz_dy (dC, dI) vwCl A s.heap H locs [(su, .inl (cI, 8, .inl gsu)), (ro, .inl (cI, 64, .inl f1))] := hdy.sub [0, 1] (by decide) rfl
  refine lv_aload_n hx hb zd_D_mixRow_4 rfl (lv_at hl 0 rfl) ?_
  refine va_get (D := (dC, dI)) (ci := 3) (v := .ref su) (C := zR_D) (T := zT_D) (N := 3) hx hb hts (fun w h => kz_c (zi_D w h)) hown hK (hro.ob hdy.2.2 (k := 0) rfl) 0 rfl rfl 0 (by decide) (hts _ (kz_c mw_119)) (fun _ h9 => h9) rfl zd_D_mixRow_5 ?_
  refine lv_iconst (v := (nI (0))) hx hb zd_D_mixRow_8 (by decide) ?_
  refine va_iald hx hb hK hdy.1 0 0 rfl rfl (vp_in_nI (by omega) (by omega)) zd_D_mixRow_9 ?_
  refine lv_topi (fun x3 h9 => ?_)
  obtain rfl : x3 = gsu 0 := h9.trans (by rw [nI_clamp (by omega)])
  refine lv_topi (fun x4 ex4 => ?_)
  refine lv_istore_n (lv' := [(1, .int x4), (0, .ref h)]) hx hb zd_D_mixRow_10 rfl hl (by decide) rfl (fun ls hl => ?_)
  refine lv_aload_n hx hb zd_D_mixRow_11 rfl (lv_at hl 1 rfl) ?_
  refine va_get (D := (dC, dI)) (ci := 3) (v := .ref su) (C := zR_D) (T := zT_D) (N := 3) hx hb hts (fun w h => kz_c (zi_D w h)) hown hK (hro.ob hdy.2.2 (k := 0) rfl) 0 rfl rfl 0 (by decide) (hts _ (kz_c mw_119)) (fun _ h9 => h9) rfl zd_D_mixRow_12 ?_
  refine lv_iconst (v := (nI (1))) hx hb zd_D_mixRow_15 (by decide) ?_
  refine va_iald hx hb hK hdy.1 0 0 rfl rfl (vp_in_nI (by omega) (by omega)) zd_D_mixRow_16 ?_
  refine lv_topi (fun x5 h9 => ?_)
  obtain rfl : x5 = gsu 1 := h9.trans (by rw [nI_clamp (by omega)])
  refine lv_topi (fun x6 ex6 => ?_)
  refine lv_istore_n (lv' := [(2, .int x6), (1, .int x4), (0, .ref h)]) hx hb zd_D_mixRow_17 rfl hl (by decide) rfl (fun ls hl => ?_)
  refine lv_aload_n hx hb zd_D_mixRow_18 rfl (lv_at hl 2 rfl) ?_
  refine va_get (D := (dC, dI)) (ci := 3) (v := .ref su) (C := zR_D) (T := zT_D) (N := 3) hx hb hts (fun w h => kz_c (zi_D w h)) hown hK (hro.ob hdy.2.2 (k := 0) rfl) 0 rfl rfl 0 (by decide) (hts _ (kz_c mw_119)) (fun _ h9 => h9) rfl zd_D_mixRow_19 ?_
  refine lv_iconst (v := (nI (2))) hx hb zd_D_mixRow_22 (by decide) ?_
  refine va_iald hx hb hK hdy.1 0 0 rfl rfl (vp_in_nI (by omega) (by omega)) zd_D_mixRow_23 ?_
  refine lv_topi (fun x7 h9 => ?_)
  obtain rfl : x7 = gsu 2 := h9.trans (by rw [nI_clamp (by omega)])
  refine lv_topi (fun x8 ex8 => ?_)
  refine lv_istore_n (lv' := [(3, .int x8), (2, .int x6), (1, .int x4), (0, .ref h)]) hx hb zd_D_mixRow_24 rfl hl (by decide) rfl (fun ls hl => ?_)
  refine lv_aload_n hx hb zd_D_mixRow_25 rfl (lv_at hl 3 rfl) ?_
  refine va_get (D := (dC, dI)) (ci := 3) (v := .ref su) (C := zR_D) (T := zT_D) (N := 3) hx hb hts (fun w h => kz_c (zi_D w h)) hown hK (hro.ob hdy.2.2 (k := 0) rfl) 0 rfl rfl 0 (by decide) (hts _ (kz_c mw_119)) (fun _ h9 => h9) rfl zd_D_mixRow_26 ?_
  refine lv_iconst (v := (nI (3))) hx hb zd_D_mixRow_29 (by decide) ?_
  refine va_iald hx hb hK hdy.1 0 0 rfl rfl (vp_in_nI (by omega) (by omega)) zd_D_mixRow_30 ?_
  refine lv_topi (fun x9 h9 => ?_)
  obtain rfl : x9 = gsu 3 := h9.trans (by rw [nI_clamp (by omega)])
  refine lv_topi (fun x10 ex10 => ?_)
  refine lv_istore (lv' := [(4, .int x10), (3, .int x8), (2, .int x6), (1, .int x4), (0, .ref h)]) hx hb zd_D_mixRow_31 hl (by decide) rfl (fun ls hl => ?_)
  refine lv_aload_n hx hb zd_D_mixRow_33 rfl (lv_at hl 4 rfl) ?_
  refine va_get (D := (dC, dI)) (ci := 3) (v := .ref su) (C := zR_D) (T := zT_D) (N := 3) hx hb hts (fun w h => kz_c (zi_D w h)) hown hK (hro.ob hdy.2.2 (k := 0) rfl) 0 rfl rfl 0 (by decide) (hts _ (kz_c mw_119)) (fun _ h9 => h9) rfl zd_D_mixRow_34 ?_
  refine lv_iconst (v := (nI (4))) hx hb zd_D_mixRow_37 (by decide) ?_
  refine va_iald hx hb hK hdy.1 0 0 rfl rfl (vp_in_nI (by omega) (by omega)) zd_D_mixRow_38 ?_
  refine lv_topi (fun x11 h9 => ?_)
  obtain rfl : x11 = gsu 4 := h9.trans (by rw [nI_clamp (by omega)])
  refine lv_topi (fun x12 ex12 => ?_)
  refine lv_istore (lv' := [(5, .int x12), (4, .int x10), (3, .int x8), (2, .int x6), (1, .int x4), (0, .ref h)]) hx hb zd_D_mixRow_39 hl (by decide) rfl (fun ls hl => ?_)
  refine lv_aload_n hx hb zd_D_mixRow_41 rfl (lv_at hl 5 rfl) ?_
  refine va_get (D := (dC, dI)) (ci := 3) (v := .ref su) (C := zR_D) (T := zT_D) (N := 3) hx hb hts (fun w h => kz_c (zi_D w h)) hown hK (hro.ob hdy.2.2 (k := 0) rfl) 0 rfl rfl 0 (by decide) (hts _ (kz_c mw_119)) (fun _ h9 => h9) rfl zd_D_mixRow_42 ?_
  refine lv_iconst (v := (nI (5))) hx hb zd_D_mixRow_45 (by decide) ?_
  refine va_iald hx hb hK hdy.1 0 0 rfl rfl (vp_in_nI (by omega) (by omega)) zd_D_mixRow_46 ?_
  refine lv_topi (fun x13 h9 => ?_)
  obtain rfl : x13 = gsu 5 := h9.trans (by rw [nI_clamp (by omega)])
  refine lv_topi (fun x14 ex14 => ?_)
  refine lv_istore (lv' := [(6, .int x14), (5, .int x12), (4, .int x10), (3, .int x8), (2, .int x6), (1, .int x4), (0, .ref h)]) hx hb zd_D_mixRow_47 hl (by decide) rfl (fun ls hl => ?_)
  refine lv_aload_n hx hb zd_D_mixRow_49 rfl (lv_at hl 6 rfl) ?_
  refine va_get (D := (dC, dI)) (ci := 3) (v := .ref su) (C := zR_D) (T := zT_D) (N := 3) hx hb hts (fun w h => kz_c (zi_D w h)) hown hK (hro.ob hdy.2.2 (k := 0) rfl) 0 rfl rfl 0 (by decide) (hts _ (kz_c mw_119)) (fun _ h9 => h9) rfl zd_D_mixRow_50 ?_
  refine lv_bipush (v := (nI (6))) hx hb zd_D_mixRow_53 (by decide) ?_
  refine va_iald hx hb hK hdy.1 0 0 rfl rfl (vp_in_nI (by omega) (by omega)) zd_D_mixRow_55 ?_
  refine lv_topi (fun x15 h9 => ?_)
  obtain rfl : x15 = gsu 6 := h9.trans (by rw [nI_clamp (by omega)])
  refine lv_topi (fun x16 ex16 => ?_)
  refine lv_istore (lv' := [(7, .int x16), (6, .int x14), (5, .int x12), (4, .int x10), (3, .int x8), (2, .int x6), (1, .int x4), (0, .ref h)]) hx hb zd_D_mixRow_56 hl (by decide) rfl (fun ls hl => ?_)
  refine lv_aload_n hx hb zd_D_mixRow_58 rfl (lv_at hl 7 rfl) ?_
  refine va_get (D := (dC, dI)) (ci := 3) (v := .ref su) (C := zR_D) (T := zT_D) (N := 3) hx hb hts (fun w h => kz_c (zi_D w h)) hown hK (hro.ob hdy.2.2 (k := 0) rfl) 0 rfl rfl 0 (by decide) (hts _ (kz_c mw_119)) (fun _ h9 => h9) rfl zd_D_mixRow_59 ?_
  refine lv_bipush (v := (nI (7))) hx hb zd_D_mixRow_62 (by decide) ?_
  refine va_iald hx hb hK hdy.1 0 0 rfl rfl (vp_in_nI (by omega) (by omega)) zd_D_mixRow_64 ?_
  refine lv_topi (fun x17 h9 => ?_)
  obtain rfl : x17 = gsu 7 := h9.trans (by rw [nI_clamp (by omega)])
  refine lv_topi (fun x18 ex18 => ?_)
  refine lv_istore (lv' := [(8, .int x18), (7, .int x16), (6, .int x14), (5, .int x12), (4, .int x10), (3, .int x8), (2, .int x6), (1, .int x4), (0, .ref h)]) hx hb zd_D_mixRow_65 hl (by decide) rfl (fun ls hl => ?_)
  refine lv_iconst (v := (nI (0))) hx hb zd_D_mixRow_67 (by decide) ?_
  refine lv_istore (lv' := [(9, .int (nI (0))), (8, .int x18), (7, .int x16), (6, .int x14), (5, .int x12), (4, .int x10), (3, .int x8), (2, .int x6), (1, .int x4), (0, .ref h)]) hx hb zd_D_mixRow_68 hl (by decide) rfl (fun ls hl => ?_)
  have lp70 : ∀ (n70 k70 : Nat) (x19 : Int32) (x20 : Int32) (x21 : Int32) (x22 : Int32) (x23 : Int32) (x24 : Int32) (x25 : Int32) (x26 : Int32) (H : Heap) (locs : List Loc) (ls : Array Slot), k70 ≤ 64 → 64 - k70 < n70 → (kd_is (kd_rn groots f1 gsu (k70)) x26 x25 x24 x23 x22 x21 x20 x19) → kz_dy (dC, dI) vwCl A s.heap H locs [(su, .inl (cI, 8, .inl gsu)), (ro, .inl (cI, 64, .inl f1))] → lv_has ls 12 [(9, .int (nI (k70))), (8, .int x19), (7, .int x20), (6, .int x21), (5, .int x22), (4, .int x23), (3, .int x24), (2, .int x25), (1, .int x26), (0, .ref h)] → W p l e { frames := 2, cells := 0, slots := 0, locals := 46 } s m ([.ref h] : List Value).toArray below meth c H locs 0 0 (MQ below (va_Qv (fun (u : (Nat → Int32) × (Nat → Int32)) => (u.1 = kd_mx groots gsu gro) ∧ (u.2 = kd_W gro 48) ∧ True) (kz_B (dC, dI) vwCl A (fun u : (Nat → Int32) × (Nat → Int32) => [(su, .inl (cI, 8, .inl u.1)), (ro, .inl (cI, 64, .inl u.2))])) A) ([.ref h] : List Value).toArray s 0 0 A) (F0 m 70 ls []) := by
    intro n70
    induction n70 with
    | zero => intro k70; intros; omega
    | succ n70 ih70 =>
      intro k70 x19 x20 x21 x22 x23 x24 x25 x26 H locs ls hi70 hn70 hr hdy hl
      refine lv_iload hx hb zd_D_mixRow_70 (lv_at hl 0 rfl) ?_
      refine lv_bipush (v := (nI (64))) hx hb zd_D_mixRow_72 (by decide) ?_
      refine lv_icmp_ge (tgt := 205) hx hb zd_D_mixRow_74 (by decide) (fun hc74 => ?_) (fun hc74 => ?_)
      · have hc74 : 64 ≤ k70 := (nI_leI (by omega) (by omega)).mp hc74
        have h64 : k70 = 64 := (by omega)
        rw [h64] at hr
        refine lv_aload_n hx hb zd_D_mixRow_205 rfl (lv_at hl 9 rfl) ?_
        refine va_get (D := (dC, dI)) (ci := 3) (v := .ref su) (C := zR_D) (T := zT_D) (N := 3) hx hb hts (fun w h => kz_c (zi_D w h)) hown hK (hro.ob hdy.2.2 (k := 0) rfl) 0 rfl rfl 0 (by decide) (hts _ (kz_c mw_119)) (fun _ h9 => h9) rfl zd_D_mixRow_206 ?_
        refine lv_iconst (v := (nI (0))) hx hb zd_D_mixRow_209 (by decide) ?_
        refine lv_dup2_11 hx hb zd_D_mixRow_210 rfl rfl ?_
        refine va_iald hx hb hK hdy.1 0 0 rfl rfl (vp_in_nI (by omega) (by omega)) zd_D_mixRow_211 ?_
        refine lv_topi (fun x27 h9 => ?_)
        obtain rfl : x27 = gsu 0 := h9.trans (by rw [nI_clamp (by omega)])
        refine lv_iload_n hx hb zd_D_mixRow_212 rfl (lv_at hl 8 rfl) ?_
        refine lv_iadd hx hb zd_D_mixRow_213 ?_
        refine va_iast hx hb hK hdy.1 hdy.2.1 hdy.2.2 0 0 rfl rfl (vp_in_nI (by omega) (by omega)) zd_D_mixRow_214 (fun H locs hP hD hS => ?_)
        rw [nI_clamp (by omega)] at hP hD
        obtain ⟨f28, ef28, hdy⟩ : ∃ f28 : Nat → Int32, f28 = upd gsu 0 (((gsu 0) + x26)) ∧ kz_dy (dC, dI) vwCl A s.heap H locs [(su, .inl (cI, 8, .inl f28)), (ro, .inl (cI, 64, .inl f1))] := ⟨_, rfl, hP, hD, hS⟩
        refine lv_aload_n hx hb zd_D_mixRow_215 rfl (lv_at hl 9 rfl) ?_
        refine va_get (D := (dC, dI)) (ci := 3) (v := .ref su) (C := zR_D) (T := zT_D) (N := 3) hx hb hts (fun w h => kz_c (zi_D w h)) hown hK (hro.ob hdy.2.2 (k := 0) rfl) 0 rfl rfl 0 (by decide) (hts _ (kz_c mw_119)) (fun _ h9 => h9) rfl zd_D_mixRow_216 ?_
        refine lv_iconst (v := (nI (1))) hx hb zd_D_mixRow_219 (by decide) ?_
        refine lv_dup2_11 hx hb zd_D_mixRow_220 rfl rfl ?_
        refine va_iald hx hb hK hdy.1 0 0 rfl rfl (vp_in_nI (by omega) (by omega)) zd_D_mixRow_221 ?_
        refine lv_topi (fun x29 h9 => ?_)
        obtain rfl : x29 = f28 1 := h9.trans (by rw [nI_clamp (by omega)])
        refine lv_iload_n hx hb zd_D_mixRow_222 rfl (lv_at hl 7 rfl) ?_
        refine lv_iadd hx hb zd_D_mixRow_223 ?_
        refine va_iast hx hb hK hdy.1 hdy.2.1 hdy.2.2 0 0 rfl rfl (vp_in_nI (by omega) (by omega)) zd_D_mixRow_224 (fun H locs hP hD hS => ?_)
        rw [nI_clamp (by omega)] at hP hD
        obtain ⟨f30, ef30, hdy⟩ : ∃ f30 : Nat → Int32, f30 = upd f28 1 (((f28 1) + x25)) ∧ kz_dy (dC, dI) vwCl A s.heap H locs [(su, .inl (cI, 8, .inl f30)), (ro, .inl (cI, 64, .inl f1))] := ⟨_, rfl, hP, hD, hS⟩
        refine lv_aload_n hx hb zd_D_mixRow_225 rfl (lv_at hl 9 rfl) ?_
        refine va_get (D := (dC, dI)) (ci := 3) (v := .ref su) (C := zR_D) (T := zT_D) (N := 3) hx hb hts (fun w h => kz_c (zi_D w h)) hown hK (hro.ob hdy.2.2 (k := 0) rfl) 0 rfl rfl 0 (by decide) (hts _ (kz_c mw_119)) (fun _ h9 => h9) rfl zd_D_mixRow_226 ?_
        refine lv_iconst (v := (nI (2))) hx hb zd_D_mixRow_229 (by decide) ?_
        refine lv_dup2_11 hx hb zd_D_mixRow_230 rfl rfl ?_
        refine va_iald hx hb hK hdy.1 0 0 rfl rfl (vp_in_nI (by omega) (by omega)) zd_D_mixRow_231 ?_
        refine lv_topi (fun x31 h9 => ?_)
        obtain rfl : x31 = f30 2 := h9.trans (by rw [nI_clamp (by omega)])
        refine lv_iload_n hx hb zd_D_mixRow_232 rfl (lv_at hl 6 rfl) ?_
        refine lv_iadd hx hb zd_D_mixRow_233 ?_
        refine va_iast hx hb hK hdy.1 hdy.2.1 hdy.2.2 0 0 rfl rfl (vp_in_nI (by omega) (by omega)) zd_D_mixRow_234 (fun H locs hP hD hS => ?_)
        rw [nI_clamp (by omega)] at hP hD
        obtain ⟨f32, ef32, hdy⟩ : ∃ f32 : Nat → Int32, f32 = upd f30 2 (((f30 2) + x24)) ∧ kz_dy (dC, dI) vwCl A s.heap H locs [(su, .inl (cI, 8, .inl f32)), (ro, .inl (cI, 64, .inl f1))] := ⟨_, rfl, hP, hD, hS⟩
        refine lv_aload_n hx hb zd_D_mixRow_235 rfl (lv_at hl 9 rfl) ?_
        refine va_get (D := (dC, dI)) (ci := 3) (v := .ref su) (C := zR_D) (T := zT_D) (N := 3) hx hb hts (fun w h => kz_c (zi_D w h)) hown hK (hro.ob hdy.2.2 (k := 0) rfl) 0 rfl rfl 0 (by decide) (hts _ (kz_c mw_119)) (fun _ h9 => h9) rfl zd_D_mixRow_236 ?_
        refine lv_iconst (v := (nI (3))) hx hb zd_D_mixRow_239 (by decide) ?_
        refine lv_dup2_11 hx hb zd_D_mixRow_240 rfl rfl ?_
        refine va_iald hx hb hK hdy.1 0 0 rfl rfl (vp_in_nI (by omega) (by omega)) zd_D_mixRow_241 ?_
        refine lv_topi (fun x33 h9 => ?_)
        obtain rfl : x33 = f32 3 := h9.trans (by rw [nI_clamp (by omega)])
        refine lv_iload hx hb zd_D_mixRow_242 (lv_at hl 5 rfl) ?_
        refine lv_iadd hx hb zd_D_mixRow_244 ?_
        refine va_iast hx hb hK hdy.1 hdy.2.1 hdy.2.2 0 0 rfl rfl (vp_in_nI (by omega) (by omega)) zd_D_mixRow_245 (fun H locs hP hD hS => ?_)
        rw [nI_clamp (by omega)] at hP hD
        obtain ⟨f34, ef34, hdy⟩ : ∃ f34 : Nat → Int32, f34 = upd f32 3 (((f32 3) + x23)) ∧ kz_dy (dC, dI) vwCl A s.heap H locs [(su, .inl (cI, 8, .inl f34)), (ro, .inl (cI, 64, .inl f1))] := ⟨_, rfl, hP, hD, hS⟩
        refine lv_aload_n hx hb zd_D_mixRow_246 rfl (lv_at hl 9 rfl) ?_
        refine va_get (D := (dC, dI)) (ci := 3) (v := .ref su) (C := zR_D) (T := zT_D) (N := 3) hx hb hts (fun w h => kz_c (zi_D w h)) hown hK (hro.ob hdy.2.2 (k := 0) rfl) 0 rfl rfl 0 (by decide) (hts _ (kz_c mw_119)) (fun _ h9 => h9) rfl zd_D_mixRow_247 ?_
        refine lv_iconst (v := (nI (4))) hx hb zd_D_mixRow_250 (by decide) ?_
        refine lv_dup2_11 hx hb zd_D_mixRow_251 rfl rfl ?_
        refine va_iald hx hb hK hdy.1 0 0 rfl rfl (vp_in_nI (by omega) (by omega)) zd_D_mixRow_252 ?_
        refine lv_topi (fun x35 h9 => ?_)
        obtain rfl : x35 = f34 4 := h9.trans (by rw [nI_clamp (by omega)])
        refine lv_iload hx hb zd_D_mixRow_253 (lv_at hl 4 rfl) ?_
        refine lv_iadd hx hb zd_D_mixRow_255 ?_
        refine va_iast hx hb hK hdy.1 hdy.2.1 hdy.2.2 0 0 rfl rfl (vp_in_nI (by omega) (by omega)) zd_D_mixRow_256 (fun H locs hP hD hS => ?_)
        rw [nI_clamp (by omega)] at hP hD
        obtain ⟨f36, ef36, hdy⟩ : ∃ f36 : Nat → Int32, f36 = upd f34 4 (((f34 4) + x22)) ∧ kz_dy (dC, dI) vwCl A s.heap H locs [(su, .inl (cI, 8, .inl f36)), (ro, .inl (cI, 64, .inl f1))] := ⟨_, rfl, hP, hD, hS⟩
        refine lv_aload_n hx hb zd_D_mixRow_257 rfl (lv_at hl 9 rfl) ?_
        refine va_get (D := (dC, dI)) (ci := 3) (v := .ref su) (C := zR_D) (T := zT_D) (N := 3) hx hb hts (fun w h => kz_c (zi_D w h)) hown hK (hro.ob hdy.2.2 (k := 0) rfl) 0 rfl rfl 0 (by decide) (hts _ (kz_c mw_119)) (fun _ h9 => h9) rfl zd_D_mixRow_258 ?_
        refine lv_iconst (v := (nI (5))) hx hb zd_D_mixRow_261 (by decide) ?_
        refine lv_dup2_11 hx hb zd_D_mixRow_262 rfl rfl ?_
        refine va_iald hx hb hK hdy.1 0 0 rfl rfl (vp_in_nI (by omega) (by omega)) zd_D_mixRow_263 ?_
        refine lv_topi (fun x37 h9 => ?_)
        obtain rfl : x37 = f36 5 := h9.trans (by rw [nI_clamp (by omega)])
        refine lv_iload hx hb zd_D_mixRow_264 (lv_at hl 3 rfl) ?_
        refine lv_iadd hx hb zd_D_mixRow_266 ?_
        refine va_iast hx hb hK hdy.1 hdy.2.1 hdy.2.2 0 0 rfl rfl (vp_in_nI (by omega) (by omega)) zd_D_mixRow_267 (fun H locs hP hD hS => ?_)
        rw [nI_clamp (by omega)] at hP hD
        obtain ⟨f38, ef38, hdy⟩ : ∃ f38 : Nat → Int32, f38 = upd f36 5 (((f36 5) + x21)) ∧ kz_dy (dC, dI) vwCl A s.heap H locs [(su, .inl (cI, 8, .inl f38)), (ro, .inl (cI, 64, .inl f1))] := ⟨_, rfl, hP, hD, hS⟩
        refine lv_aload_n hx hb zd_D_mixRow_268 rfl (lv_at hl 9 rfl) ?_
        refine va_get (D := (dC, dI)) (ci := 3) (v := .ref su) (C := zR_D) (T := zT_D) (N := 3) hx hb hts (fun w h => kz_c (zi_D w h)) hown hK (hro.ob hdy.2.2 (k := 0) rfl) 0 rfl rfl 0 (by decide) (hts _ (kz_c mw_119)) (fun _ h9 => h9) rfl zd_D_mixRow_269 ?_
        refine lv_bipush (v := (nI (6))) hx hb zd_D_mixRow_272 (by decide) ?_
        refine lv_dup2_11 hx hb zd_D_mixRow_274 rfl rfl ?_
        refine va_iald hx hb hK hdy.1 0 0 rfl rfl (vp_in_nI (by omega) (by omega)) zd_D_mixRow_275 ?_
        refine lv_topi (fun x39 h9 => ?_)
        obtain rfl : x39 = f38 6 := h9.trans (by rw [nI_clamp (by omega)])
        refine lv_iload hx hb zd_D_mixRow_276 (lv_at hl 2 rfl) ?_
        refine lv_iadd hx hb zd_D_mixRow_278 ?_
        refine va_iast hx hb hK hdy.1 hdy.2.1 hdy.2.2 0 0 rfl rfl (vp_in_nI (by omega) (by omega)) zd_D_mixRow_279 (fun H locs hP hD hS => ?_)
        rw [nI_clamp (by omega)] at hP hD
        obtain ⟨f40, ef40, hdy⟩ : ∃ f40 : Nat → Int32, f40 = upd f38 6 (((f38 6) + x20)) ∧ kz_dy (dC, dI) vwCl A s.heap H locs [(su, .inl (cI, 8, .inl f40)), (ro, .inl (cI, 64, .inl f1))] := ⟨_, rfl, hP, hD, hS⟩
        refine lv_aload_n hx hb zd_D_mixRow_280 rfl (lv_at hl 9 rfl) ?_
        refine va_get (D := (dC, dI)) (ci := 3) (v := .ref su) (C := zR_D) (T := zT_D) (N := 3) hx hb hts (fun w h => kz_c (zi_D w h)) hown hK (hro.ob hdy.2.2 (k := 0) rfl) 0 rfl rfl 0 (by decide) (hts _ (kz_c mw_119)) (fun _ h9 => h9) rfl zd_D_mixRow_281 ?_
        refine lv_bipush (v := (nI (7))) hx hb zd_D_mixRow_284 (by decide) ?_
        refine lv_dup2_11 hx hb zd_D_mixRow_286 rfl rfl ?_
        refine va_iald hx hb hK hdy.1 0 0 rfl rfl (vp_in_nI (by omega) (by omega)) zd_D_mixRow_287 ?_
        refine lv_topi (fun x41 h9 => ?_)
        obtain rfl : x41 = f40 7 := h9.trans (by rw [nI_clamp (by omega)])
        refine lv_iload hx hb zd_D_mixRow_288 (lv_at hl 1 rfl) ?_
        refine lv_iadd hx hb zd_D_mixRow_290 ?_
        refine va_iast hx hb hK hdy.1 hdy.2.1 hdy.2.2 0 0 rfl rfl (vp_in_nI (by omega) (by omega)) zd_D_mixRow_291 (fun H locs hP hD hS => ?_)
        rw [nI_clamp (by omega)] at hP hD
        obtain ⟨f42, ef42, hdy⟩ : ∃ f42 : Nat → Int32, f42 = upd f40 7 (((f40 7) + x19)) ∧ kz_dy (dC, dI) vwCl A s.heap H locs [(su, .inl (cI, 8, .inl f42)), (ro, .inl (cI, 64, .inl f1))] := ⟨_, rfl, hP, hD, hS⟩
        exact kz_vret F (f42, f1) hdy (⟨by exact (kd_add8_of hr ef28 ef30 ef32 ef34 ef36 ef38 ef40 ef42).trans (by rw [q2]; rfl), by exact q2, trivial⟩) zd_D_mixRow_292
      · have hc74 : ¬ 64 ≤ k70 := fun h9 => hc74 ((nI_leI (by omega) (by omega)).mpr h9)
        refine lv_iload hx hb zd_D_mixRow_77 (lv_at hl 1 rfl) ?_
        refine lv_iload hx hb zd_D_mixRow_79 (lv_at hl 4 rfl) ?_
        refine lv_bipush (v := (nI (6))) hx hb zd_D_mixRow_81 (by decide) ?_
        refine kz_calli (wk := [(su, .inl (cI, 8, .inl gsu)), (ro, .inl (cI, 64, .inl f1))]) (va_runS (As := [.int x22, .int (nI (6))]) (rest := [.int x19]) ⟨hx, hb, hml, hown, hts⟩ (c_S_turn l dC dI cI cAA cB cL (x22) ((nI (6))) _) (va_cwS 2 hts (kz_g (kz_mc mw_322 (kz_mc mw_323 (kz_mc mw_42 kz_mn))) mw_324) rfl rfl rfl (by decide +kernel) ⟨Nat.le_of_ble_eq_true rfl, Nat.le_of_ble_eq_true rfl⟩) (kz_preS hdy hA hK hro hZ hN [] (by decide) rfl [] rfl (by decide) [0, 1, 2, 3] rfl (fun _ h => by cases h) (fun _ h => by cases h) rfl) rfl rfl hl.1 rfl (lv_room (Nat.le_of_ble_eq_true rfl)) zd_D_mixRow_83 ⟨Nat.le_of_ble_eq_true rfl, Nat.le_of_ble_eq_true rfl⟩) hdy hA [] [0, 1] rfl rfl (by decide) (by decide) (fun r u H locs hw hdy => ?_)
        obtain ⟨r43, rfl⟩ : ∃ z, z = r := ⟨_, rfl⟩
        try dsimp only at hw
        obtain ⟨q44, -⟩ := hw
        have hdy : kz_dy (dC, dI) vwCl A s.heap H locs [(su, .inl (cI, 8, .inl gsu)), (ro, .inl (cI, 64, .inl f1))] := hdy.sub [0, 1] (by decide) rfl
        refine lv_iload hx hb zd_D_mixRow_86 (lv_at hl 4 rfl) ?_
        refine lv_bipush (v := (nI (11))) hx hb zd_D_mixRow_88 (by decide) ?_
        refine kz_calli (wk := [(su, .inl (cI, 8, .inl gsu)), (ro, .inl (cI, 64, .inl f1))]) (va_runS (As := [.int x22, .int (nI (11))]) (rest := [.int r43, .int x19]) ⟨hx, hb, hml, hown, hts⟩ (c_S_turn l dC dI cI cAA cB cL (x22) ((nI (11))) _) (va_cwS 2 hts (kz_g (kz_mc mw_322 (kz_mc mw_323 (kz_mc mw_42 kz_mn))) mw_324) rfl rfl rfl (by decide +kernel) ⟨Nat.le_of_ble_eq_true rfl, Nat.le_of_ble_eq_true rfl⟩) (kz_preS hdy hA hK hro hZ hN [] (by decide) rfl [] rfl (by decide) [0, 1, 2, 3] rfl (fun _ h => by cases h) (fun _ h => by cases h) rfl) rfl rfl hl.1 rfl (lv_room (Nat.le_of_ble_eq_true rfl)) zd_D_mixRow_90 ⟨Nat.le_of_ble_eq_true rfl, Nat.le_of_ble_eq_true rfl⟩) hdy hA [] [0, 1] rfl rfl (by decide) (by decide) (fun r u H locs hw hdy => ?_)
        obtain ⟨r45, rfl⟩ : ∃ z, z = r := ⟨_, rfl⟩
        try dsimp only at hw
        obtain ⟨q46, -⟩ := hw
        have hdy : kz_dy (dC, dI) vwCl A s.heap H locs [(su, .inl (cI, 8, .inl gsu)), (ro, .inl (cI, 64, .inl f1))] := hdy.sub [0, 1] (by decide) rfl
        refine lv_ixor hx hb zd_D_mixRow_93 ?_
        refine lv_iload hx hb zd_D_mixRow_94 (lv_at hl 4 rfl) ?_
        refine lv_bipush (v := (nI (25))) hx hb zd_D_mixRow_96 (by decide) ?_
        refine kz_calli (wk := [(su, .inl (cI, 8, .inl gsu)), (ro, .inl (cI, 64, .inl f1))]) (va_runS (As := [.int x22, .int (nI (25))]) (rest := [.int (r43 ^^^ r45), .int x19]) ⟨hx, hb, hml, hown, hts⟩ (c_S_turn l dC dI cI cAA cB cL (x22) ((nI (25))) _) (va_cwS 2 hts (kz_g (kz_mc mw_322 (kz_mc mw_323 (kz_mc mw_42 kz_mn))) mw_324) rfl rfl rfl (by decide +kernel) ⟨Nat.le_of_ble_eq_true rfl, Nat.le_of_ble_eq_true rfl⟩) (kz_preS hdy hA hK hro hZ hN [] (by decide) rfl [] rfl (by decide) [0, 1, 2, 3] rfl (fun _ h => by cases h) (fun _ h => by cases h) rfl) rfl rfl hl.1 rfl (lv_room (Nat.le_of_ble_eq_true rfl)) zd_D_mixRow_98 ⟨Nat.le_of_ble_eq_true rfl, Nat.le_of_ble_eq_true rfl⟩) hdy hA [] [0, 1] rfl rfl (by decide) (by decide) (fun r u H locs hw hdy => ?_)
        obtain ⟨r47, rfl⟩ : ∃ z, z = r := ⟨_, rfl⟩
        try dsimp only at hw
        obtain ⟨q48, -⟩ := hw
        have hdy : kz_dy (dC, dI) vwCl A s.heap H locs [(su, .inl (cI, 8, .inl gsu)), (ro, .inl (cI, 64, .inl f1))] := hdy.sub [0, 1] (by decide) rfl
        refine lv_ixor hx hb zd_D_mixRow_101 ?_
        refine lv_iadd hx hb zd_D_mixRow_102 ?_
        refine lv_iload hx hb zd_D_mixRow_103 (lv_at hl 4 rfl) ?_
        refine lv_iload hx hb zd_D_mixRow_105 (lv_at hl 3 rfl) ?_
        refine lv_iand hx hb zd_D_mixRow_107 ?_
        refine lv_iload hx hb zd_D_mixRow_108 (lv_at hl 4 rfl) ?_
        refine lv_iconst (v := (-1)) hx hb zd_D_mixRow_110 (by decide) ?_
        refine lv_ixor hx hb zd_D_mixRow_111 ?_
        refine lv_iload hx hb zd_D_mixRow_112 (lv_at hl 2 rfl) ?_
        refine lv_iand hx hb zd_D_mixRow_114 ?_
        refine lv_ixor hx hb zd_D_mixRow_115 ?_
        refine lv_iadd hx hb zd_D_mixRow_116 ?_
        refine va_gets hx hb (hZ _ (List.mem_of_getElem? (i := 0) rfl)) hdy.2.2 hown (hts _ (kz_c mw_325)) (fun _ h9 => h9) zd_D_mixRow_117 ?_
        refine lv_iload hx hb zd_D_mixRow_120 (lv_at hl 0 rfl) ?_
        refine kz_riald hx hb hK hro hdy.2.2 1 0 rfl rfl (vp_in_nI (by omega) (by omega)) zd_D_mixRow_122 ?_
        refine lv_topi (fun x49 h9 => ?_)
        obtain rfl : x49 = groots k70 := h9.trans (by rw [nI_clamp (by omega)])
        refine lv_iadd hx hb zd_D_mixRow_123 ?_
        refine lv_aload_n hx hb zd_D_mixRow_124 rfl (lv_at hl 9 rfl) ?_
        refine va_get (D := (dC, dI)) (ci := 3) (v := .ref ro) (C := zR_D) (T := zT_D) (N := 3) hx hb hts (fun w h => kz_c (zi_D w h)) hown hK (hro.ob hdy.2.2 (k := 0) rfl) 0 rfl rfl 1 (by decide) (hts _ (kz_c mw_120)) (fun _ h9 => h9) rfl zd_D_mixRow_125 ?_
        refine lv_iload hx hb zd_D_mixRow_128 (lv_at hl 0 rfl) ?_
        refine va_iald hx hb hK hdy.1 1 0 rfl rfl (vp_in_nI (by omega) (by omega)) zd_D_mixRow_130 ?_
        refine lv_topi (fun x50 h9 => ?_)
        obtain rfl : x50 = f1 k70 := h9.trans (by rw [nI_clamp (by omega)])
        refine lv_iadd hx hb zd_D_mixRow_131 ?_
        refine lv_topi (fun x51 ex51 => ?_)
        refine lv_istore (lv' := [(10, .int x51), (9, .int (nI (k70))), (8, .int x19), (7, .int x20), (6, .int x21), (5, .int x22), (4, .int x23), (3, .int x24), (2, .int x25), (1, .int x26), (0, .ref h)]) hx hb zd_D_mixRow_132 hl (by decide) rfl (fun ls hl => ?_)
        refine lv_iload_n hx hb zd_D_mixRow_134 rfl (lv_at hl 9 rfl) ?_
        refine lv_iconst (v := (nI (2))) hx hb zd_D_mixRow_135 (by decide) ?_
        refine kz_calli (wk := [(su, .inl (cI, 8, .inl gsu)), (ro, .inl (cI, 64, .inl f1))]) (va_runS (As := [.int x26, .int (nI (2))]) (rest := []) ⟨hx, hb, hml, hown, hts⟩ (c_S_turn l dC dI cI cAA cB cL (x26) ((nI (2))) _) (va_cwS 2 hts (kz_g (kz_mc mw_322 (kz_mc mw_323 (kz_mc mw_42 kz_mn))) mw_324) rfl rfl rfl (by decide +kernel) ⟨Nat.le_of_ble_eq_true rfl, Nat.le_of_ble_eq_true rfl⟩) (kz_preS hdy hA hK hro hZ hN [] (by decide) rfl [] rfl (by decide) [0, 1, 2, 3] rfl (fun _ h => by cases h) (fun _ h => by cases h) rfl) rfl rfl hl.1 rfl (lv_room (Nat.le_of_ble_eq_true rfl)) zd_D_mixRow_136 ⟨Nat.le_of_ble_eq_true rfl, Nat.le_of_ble_eq_true rfl⟩) hdy hA [] [0, 1] rfl rfl (by decide) (by decide) (fun r u H locs hw hdy => ?_)
        obtain ⟨r52, rfl⟩ : ∃ z, z = r := ⟨_, rfl⟩
        try dsimp only at hw
        obtain ⟨q53, -⟩ := hw
        have hdy : kz_dy (dC, dI) vwCl A s.heap H locs [(su, .inl (cI, 8, .inl gsu)), (ro, .inl (cI, 64, .inl f1))] := hdy.sub [0, 1] (by decide) rfl
        refine lv_iload_n hx hb zd_D_mixRow_139 rfl (lv_at hl 9 rfl) ?_
        refine lv_bipush (v := (nI (13))) hx hb zd_D_mixRow_140 (by decide) ?_
        refine kz_calli (wk := [(su, .inl (cI, 8, .inl gsu)), (ro, .inl (cI, 64, .inl f1))]) (va_runS (As := [.int x26, .int (nI (13))]) (rest := [.int r52]) ⟨hx, hb, hml, hown, hts⟩ (c_S_turn l dC dI cI cAA cB cL (x26) ((nI (13))) _) (va_cwS 2 hts (kz_g (kz_mc mw_322 (kz_mc mw_323 (kz_mc mw_42 kz_mn))) mw_324) rfl rfl rfl (by decide +kernel) ⟨Nat.le_of_ble_eq_true rfl, Nat.le_of_ble_eq_true rfl⟩) (kz_preS hdy hA hK hro hZ hN [] (by decide) rfl [] rfl (by decide) [0, 1, 2, 3] rfl (fun _ h => by cases h) (fun _ h => by cases h) rfl) rfl rfl hl.1 rfl (lv_room (Nat.le_of_ble_eq_true rfl)) zd_D_mixRow_142 ⟨Nat.le_of_ble_eq_true rfl, Nat.le_of_ble_eq_true rfl⟩) hdy hA [] [0, 1] rfl rfl (by decide) (by decide) (fun r u H locs hw hdy => ?_)
        obtain ⟨r54, rfl⟩ : ∃ z, z = r := ⟨_, rfl⟩
        try dsimp only at hw
        obtain ⟨q55, -⟩ := hw
        have hdy : kz_dy (dC, dI) vwCl A s.heap H locs [(su, .inl (cI, 8, .inl gsu)), (ro, .inl (cI, 64, .inl f1))] := hdy.sub [0, 1] (by decide) rfl
        refine lv_ixor hx hb zd_D_mixRow_145 ?_
        refine lv_iload_n hx hb zd_D_mixRow_146 rfl (lv_at hl 9 rfl) ?_
        refine lv_bipush (v := (nI (22))) hx hb zd_D_mixRow_147 (by decide) ?_
        refine kz_calli (wk := [(su, .inl (cI, 8, .inl gsu)), (ro, .inl (cI, 64, .inl f1))]) (va_runS (As := [.int x26, .int (nI (22))]) (rest := [.int (r52 ^^^ r54)]) ⟨hx, hb, hml, hown, hts⟩ (c_S_turn l dC dI cI cAA cB cL (x26) ((nI (22))) _) (va_cwS 2 hts (kz_g (kz_mc mw_322 (kz_mc mw_323 (kz_mc mw_42 kz_mn))) mw_324) rfl rfl rfl (by decide +kernel) ⟨Nat.le_of_ble_eq_true rfl, Nat.le_of_ble_eq_true rfl⟩) (kz_preS hdy hA hK hro hZ hN [] (by decide) rfl [] rfl (by decide) [0, 1, 2, 3] rfl (fun _ h => by cases h) (fun _ h => by cases h) rfl) rfl rfl hl.1 rfl (lv_room (Nat.le_of_ble_eq_true rfl)) zd_D_mixRow_149 ⟨Nat.le_of_ble_eq_true rfl, Nat.le_of_ble_eq_true rfl⟩) hdy hA [] [0, 1] rfl rfl (by decide) (by decide) (fun r u H locs hw hdy => ?_)
        obtain ⟨r56, rfl⟩ : ∃ z, z = r := ⟨_, rfl⟩
        try dsimp only at hw
        obtain ⟨q57, -⟩ := hw
        have hdy : kz_dy (dC, dI) vwCl A s.heap H locs [(su, .inl (cI, 8, .inl gsu)), (ro, .inl (cI, 64, .inl f1))] := hdy.sub [0, 1] (by decide) rfl
        refine lv_ixor hx hb zd_D_mixRow_152 ?_
        refine lv_iload_n hx hb zd_D_mixRow_153 rfl (lv_at hl 9 rfl) ?_
        refine lv_iload_n hx hb zd_D_mixRow_154 rfl (lv_at hl 8 rfl) ?_
        refine lv_iand hx hb zd_D_mixRow_155 ?_
        refine lv_iload_n hx hb zd_D_mixRow_156 rfl (lv_at hl 9 rfl) ?_
        refine lv_iload_n hx hb zd_D_mixRow_157 rfl (lv_at hl 7 rfl) ?_
        refine lv_iand hx hb zd_D_mixRow_158 ?_
        refine lv_ixor hx hb zd_D_mixRow_159 ?_
        refine lv_iload_n hx hb zd_D_mixRow_160 rfl (lv_at hl 8 rfl) ?_
        refine lv_iload_n hx hb zd_D_mixRow_161 rfl (lv_at hl 7 rfl) ?_
        refine lv_iand hx hb zd_D_mixRow_162 ?_
        refine lv_ixor hx hb zd_D_mixRow_163 ?_
        refine lv_iadd hx hb zd_D_mixRow_164 ?_
        refine lv_topi (fun x58 ex58 => ?_)
        refine lv_istore (lv' := [(11, .int x58), (10, .int x51), (9, .int (nI (k70))), (8, .int x19), (7, .int x20), (6, .int x21), (5, .int x22), (4, .int x23), (3, .int x24), (2, .int x25), (1, .int x26), (0, .ref h)]) hx hb zd_D_mixRow_165 hl (by decide) rfl (fun ls hl => ?_)
        refine lv_iload hx hb zd_D_mixRow_167 (lv_at hl 4 rfl) ?_
        refine lv_istore (lv' := [(8, .int x20), (11, .int x58), (10, .int x51), (9, .int (nI (k70))), (7, .int x20), (6, .int x21), (5, .int x22), (4, .int x23), (3, .int x24), (2, .int x25), (1, .int x26), (0, .ref h)]) hx hb zd_D_mixRow_169 hl (by decide) rfl (fun ls hl => ?_)
        refine lv_iload hx hb zd_D_mixRow_171 (lv_at hl 5 rfl) ?_
        refine lv_istore (lv' := [(7, .int x21), (8, .int x20), (11, .int x58), (10, .int x51), (9, .int (nI (k70))), (6, .int x21), (5, .int x22), (4, .int x23), (3, .int x24), (2, .int x25), (1, .int x26), (0, .ref h)]) hx hb zd_D_mixRow_173 hl (by decide) rfl (fun ls hl => ?_)
        refine lv_iload hx hb zd_D_mixRow_175 (lv_at hl 6 rfl) ?_
        refine lv_istore (lv' := [(6, .int x22), (7, .int x21), (8, .int x20), (11, .int x58), (10, .int x51), (9, .int (nI (k70))), (5, .int x22), (4, .int x23), (3, .int x24), (2, .int x25), (1, .int x26), (0, .ref h)]) hx hb zd_D_mixRow_177 hl (by decide) rfl (fun ls hl => ?_)
        refine lv_iload hx hb zd_D_mixRow_179 (lv_at hl 7 rfl) ?_
        refine lv_iload hx hb zd_D_mixRow_181 (lv_at hl 4 rfl) ?_
        refine lv_iadd hx hb zd_D_mixRow_183 ?_
        refine lv_topi (fun x59 ex59 => ?_)
        refine lv_istore (lv' := [(5, .int x59), (6, .int x22), (7, .int x21), (8, .int x20), (11, .int x58), (10, .int x51), (9, .int (nI (k70))), (4, .int x23), (3, .int x24), (2, .int x25), (1, .int x26), (0, .ref h)]) hx hb zd_D_mixRow_184 hl (by decide) rfl (fun ls hl => ?_)
        refine lv_iload_n hx hb zd_D_mixRow_186 rfl (lv_at hl 8 rfl) ?_
        refine lv_istore (lv' := [(4, .int x24), (5, .int x59), (6, .int x22), (7, .int x21), (8, .int x20), (11, .int x58), (10, .int x51), (9, .int (nI (k70))), (3, .int x24), (2, .int x25), (1, .int x26), (0, .ref h)]) hx hb zd_D_mixRow_187 hl (by decide) rfl (fun ls hl => ?_)
        refine lv_iload_n hx hb zd_D_mixRow_189 rfl (lv_at hl 9 rfl) ?_
        refine lv_istore_n (lv' := [(3, .int x25), (4, .int x24), (5, .int x59), (6, .int x22), (7, .int x21), (8, .int x20), (11, .int x58), (10, .int x51), (9, .int (nI (k70))), (2, .int x25), (1, .int x26), (0, .ref h)]) hx hb zd_D_mixRow_190 rfl hl (by decide) rfl (fun ls hl => ?_)
        refine lv_iload_n hx hb zd_D_mixRow_191 rfl (lv_at hl 10 rfl) ?_
        refine lv_istore_n (lv' := [(2, .int x26), (3, .int x25), (4, .int x24), (5, .int x59), (6, .int x22), (7, .int x21), (8, .int x20), (11, .int x58), (10, .int x51), (9, .int (nI (k70))), (1, .int x26), (0, .ref h)]) hx hb zd_D_mixRow_192 rfl hl (by decide) rfl (fun ls hl => ?_)
        refine lv_iload hx hb zd_D_mixRow_193 (lv_at hl 8 rfl) ?_
        refine lv_iload hx hb zd_D_mixRow_195 (lv_at hl 7 rfl) ?_
        refine lv_iadd hx hb zd_D_mixRow_197 ?_
        refine lv_topi (fun x60 ex60 => ?_)
        refine lv_istore_n (lv' := [(1, .int x60), (2, .int x26), (3, .int x25), (4, .int x24), (5, .int x59), (6, .int x22), (7, .int x21), (8, .int x20), (11, .int x58), (10, .int x51), (9, .int (nI (k70))), (0, .ref h)]) hx hb zd_D_mixRow_198 rfl hl (by decide) rfl (fun ls hl => ?_)
        refine lv_iinc (v := (nI (k70 + 1))) (lv' := [(9, .int (nI (k70 + 1))), (1, .int x60), (2, .int x26), (3, .int x25), (4, .int x24), (5, .int x59), (6, .int x22), (7, .int x21), (8, .int x20), (11, .int x58), (10, .int x51), (0, .ref h)]) hx hb zd_D_mixRow_199 hl (k := 10) rfl (nI_1 _) (by decide) rfl (fun ls hl => ?_)
        refine lv_goto (tgt := 70) hx hb zd_D_mixRow_202 (by decide) ?_
        have hi9_hr61 : kd_is (kd_rn groots f1 gsu (k70 + 1)) x60 x26 x25 x24 x59 x22 x21 x20 := by subst ex4 ex6 ex8 ex10 ex12 ex14 ex16 ex18 q44 q46 q48 ex51 q53 q55 q57 ex58 ex59 ex60; exact kd_isStep hr rfl rfl
        exact ih70 (k70 + 1) (x20) (x21) (x22) (x59) (x24) (x25) (x26) (x60) _ _ _ (by omega) (by omega) hi9_hr61 hdy (lv_sub hl [0, 8, 7, 6, 5, 4, 3, 2, 1, 11] rfl)
  have hi9_hr62 : kd_is (kd_rn groots f1 gsu (0)) x4 x6 x8 x10 x12 x14 x16 x18 := by subst ex4 ex6 ex8 ex10 ex12 ex14 ex16 ex18; exact ⟨rfl, rfl, rfl, rfl, rfl, rfl, rfl, rfl⟩
  exact lp70 (64 - 0 + 1) 0 (x18) (x16) (x14) (x12) (x10) (x8) (x6) (x4) _ _ _ (by omega) (by omega) hi9_hr62 hdy (lv_sub hl [0, 1, 2, 3, 4, 5, 6, 7, 8, 9] rfl)

set_option maxHeartbeats 4000000 in
set_option maxRecDepth 100000 in
/-- KeyMeeting$Digest.putWord(I)V -/
theorem c_S_putWord (l : Launch) (dC : Nat → ClassId) (dI : Nat → Nat → Nat) (cI cAA cB cL : ClassId) (h su ro roots : Nat) (ct : Nat) (gsu : Nat → Int32) (gro : Nat → Int32) (groots : Nat → Int32) (v : Int32) (sz : Nat) (hct : ct < 1000) : Met l zy_D_putWord zw_D_putWord { frames := 3, cells := 0, slots := 0, locals := 77 } (kz_Pc (dC, dI) vwCl [(cI, .int), (cAA, .array .int), (cB, .byte), (cL, .long)] [("KeyMeeting$Digest", "ROOTS", "[I", .ref roots)] [] [.ref h, .int v] [(h, .inr (3, [.ref su, .ref ro, .int (nI (ct))])), (su, .inl (cI, 8, .inl gsu)), (ro, .inl (cI, 64, .inl gro))] [(roots, .inl (cI, 64, .inl groots))] sz) (va_Qv (fun (u : Nat × (Nat → Int32) × (Nat → Int32)) => (u.1 = ct + 1) ∧ ((u.2.1, u.2.2) = (kd_pS groots gsu gro ct v, kd_pR gro ct v)) ∧ True) (kz_B (dC, dI) vwCl (va_A [(h, .inr (3, [.ref su, .ref ro, .int (nI (ct))])), (su, .inl (cI, 8, .inl gsu)), (ro, .inl (cI, 64, .inl gro))] sz) (fun u : Nat × (Nat → Int32) × (Nat → Int32) => [(h, .inr (3, [.ref su, .ref ro, .int (nI (u.1))])), (su, .inl (cI, 8, .inl u.2.1)), (ro, .inl (cI, 64, .inl u.2.2))])) (va_A [(h, .inr (3, [.ref su, .ref ro, .int (nI (ct))])), (su, .inl (cI, 8, .inl gsu)), (ro, .inl (cI, 64, .inl gro))] sz)) 0 0 (va_A [(h, .inr (3, [.ref su, .ref ro, .int (nI (ct))])), (su, .inl (cI, 8, .inl gsu)), (ro, .inl (cI, 64, .inl gro))] sz) := by
  refine kz_met (y := zy_D_putWord) (ws := zw_D_putWord) (av := [.ref h, .int v]) (sz := sz) (Qc := fun A => va_Qv (fun (u : Nat × (Nat → Int32) × (Nat → Int32)) => (u.1 = ct + 1) ∧ ((u.2.1, u.2.2) = (kd_pS groots gsu gro ct v, kd_pR gro ct v)) ∧ True) (kz_B (dC, dI) vwCl A (fun u : Nat × (Nat → Int32) × (Nat → Int32) => [(h, .inr (3, [.ref su, .ref ro, .int (nI (u.1))])), (su, .inl (cI, 8, .inl u.2.1)), (ro, .inl (cI, 64, .inl u.2.2))])) A) (cc := zc_D_putWord) (maxL := 2) (ret := none) (by decide) rfl (Nat.le_of_ble_eq_true rfl) ?_
  intro p e s m below meth c A ls F hA hdy hK hro hZ hN hl
  obtain ⟨hx, hb, hml, hr, hown, hlocks, hts, hnm⟩ := id F
  have hl : lv_has ls 2 [(0, .ref h), (1, .int v)] := hl
  refine lv_aload_n hx hb zd_D_putWord_0 rfl (lv_at hl 0 rfl) ?_
  refine va_get (D := (dC, dI)) (ci := 3) (v := .ref ro) (C := zR_D) (T := zT_D) (N := 3) hx hb hts (fun w h => kz_c (zi_D w h)) hown hK hdy.1 0 rfl rfl 1 (by decide) (hts _ (kz_c mw_120)) (fun _ h9 => h9) rfl zd_D_putWord_1 ?_
  refine lv_aload_n hx hb zd_D_putWord_4 rfl (lv_at hl 0 rfl) ?_
  refine va_get (D := (dC, dI)) (ci := 3) (v := .int (nI (ct))) (C := zR_D) (T := zT_D) (N := 3) hx hb hts (fun w h => kz_c (zi_D w h)) hown hK hdy.1 0 rfl rfl 2 (by decide) (hts _ (kz_c mw_121)) (fun _ h9 => h9) rfl zd_D_putWord_5 ?_
  refine lv_bipush (v := (nI (16))) hx hb zd_D_putWord_8 (by decide) ?_
  refine kz_irem hx hb zd_D_putWord_10 (by decide) (pk_rem (by omega) (by omega) (by omega)) ?_
  refine lv_iload_n hx hb zd_D_putWord_11 rfl (lv_at hl 1 rfl) ?_
  refine va_iast hx hb hK hdy.1 hdy.2.1 hdy.2.2 2 0 rfl rfl (vp_in_nI (by omega) (by omega)) zd_D_putWord_12 (fun H locs hP hD hS => ?_)
  rw [nI_clamp (by omega)] at hP hD
  obtain ⟨f1, ef1, hdy⟩ : ∃ f1 : Nat → Int32, f1 = upd gro (ct % 16) (v) ∧ kz_dy (dC, dI) vwCl A s.heap H locs [(h, .inr (3, [.ref su, .ref ro, .int (nI (ct))])), (su, .inl (cI, 8, .inl gsu)), (ro, .inl (cI, 64, .inl f1))] := ⟨_, rfl, hP, hD, hS⟩
  refine lv_aload_n hx hb zd_D_putWord_13 rfl (lv_at hl 0 rfl) ?_
  refine lv_dup hx hb zd_D_putWord_14 rfl ?_
  refine va_get (D := (dC, dI)) (ci := 3) (v := .int (nI (ct))) (C := zR_D) (T := zT_D) (N := 3) hx hb hts (fun w h => kz_c (zi_D w h)) hown hK hdy.1 0 rfl rfl 2 (by decide) (hts _ (kz_c mw_121)) (fun _ h9 => h9) rfl zd_D_putWord_15 ?_
  refine lv_iconst (v := (nI (1))) hx hb zd_D_putWord_18 (by decide) ?_
  refine kz_iadd hx hb zd_D_putWord_19 (nI_add _ _) ?_
  refine va_put (D := (dC, dI)) (ci := 3) (v := .int (nI (ct + 1))) (ty := .int) (C := zR_D) (T := zT_D) (N := 3) hx hb hts (fun w h => kz_c (zi_D w h)) zt_D zo_D zn_D hown hK hdy.1 hdy.2.1 hdy.2.2 0 rfl rfl 2 (by decide) (hts _ (kz_c mw_121)) (fun _ h9 => h9) rfl (by decide +kernel) rfl rfl (Nat.le_of_ble_eq_true rfl) zd_D_putWord_20 (fun H locs hP hD hS => ?_)
  have hdy : kz_dy (dC, dI) vwCl A s.heap H locs [(h, .inr (3, [.ref su, .ref ro, .int (nI (ct + 1))])), (su, .inl (cI, 8, .inl gsu)), (ro, .inl (cI, 64, .inl f1))] := ⟨hP, hD, hS⟩
  refine lv_aload_n hx hb zd_D_putWord_23 rfl (lv_at hl 0 rfl) ?_
  refine va_get (D := (dC, dI)) (ci := 3) (v := .int (nI (ct + 1))) (C := zR_D) (T := zT_D) (N := 3) hx hb hts (fun w h => kz_c (zi_D w h)) hown hK hdy.1 0 rfl rfl 2 (by decide) (hts _ (kz_c mw_121)) (fun _ h9 => h9) rfl zd_D_putWord_24 ?_
  refine lv_bipush (v := (nI (16))) hx hb zd_D_putWord_27 (by decide) ?_
  refine kz_irem hx hb zd_D_putWord_29 (by decide) (pk_rem (by omega) (by omega) (by omega)) ?_
  refine lv_if_ne (tgt := 37) hx hb zd_D_putWord_30 (by decide) (fun hc30 => ?_) (fun hc30 => ?_)
  · have hc30 : ¬ ((ct + 1) % 16) = 0 := fun h9 => hc30 (by have h8 := (nI_eq (by omega) (by omega)).mpr h9; rw [nI_0] at h8; exact h8)
    exact kz_vret F (ct + 1, gsu, f1) hdy (⟨by first | assumption | rfl | omega, by rw [ef1]; unfold kd_pS kd_pR; rw [if_neg hc30, if_neg hc30], trivial⟩) zd_D_putWord_37
  · have hc30 : ((ct + 1) % 16) = 0 := (nI_eq (by omega) (by omega)).mp (by rw [nI_0]; exact hc30)
    refine lv_aload_n hx hb zd_D_putWord_33 rfl (lv_at hl 0 rfl) ?_
    refine kz_callv (wk := [(h, .inr (3, [.ref su, .ref ro, .int (nI (ct + 1))]))]) (va_runV (As := []) (rest := []) ⟨hx, hb, hml, hown, hts⟩ (c_S_mixRow l dC dI cI cAA cB cL su ro h roots gsu f1 (ct + 1) groots _) (cwV 0 hts (kz_g (kz_mc mw_314 (kz_mc mw_316 (kz_mc mw_14 (kz_mc mw_42 kz_mn)))) mw_317) rfl rfl rfl (by decide +kernel) ⟨Nat.le_of_ble_eq_true rfl, Nat.le_of_ble_eq_true rfl⟩) (kz_preV hdy hA hK hro hZ hN [1, 2] (by decide) rfl [(false, 0), (true, 0)] rfl (by decide) [0, 1, 2, 3] rfl (fun _ h => h) (fun _ h => by cases h) rfl (ci := 3) (q0 := 0) rfl rfl rfl) rfl rfl hl.1 rfl (lv_room (Nat.le_of_ble_eq_true rfl)) zd_D_putWord_34 ⟨Nat.le_of_ble_eq_true rfl, Nat.le_of_ble_eq_true rfl⟩) hdy hA [1, 2] [0] rfl rfl (by decide) (by decide) (fun u H locs hw hdy => ?_)
    obtain ⟨f2, f3⟩ := u
    try dsimp only at hw
    obtain ⟨q4, q5, -⟩ := hw
    have hdy : kz_dy (dC, dI) vwCl A s.heap H locs [(h, .inr (3, [.ref su, .ref ro, .int (nI (ct + 1))])), (su, .inl (cI, 8, .inl f2)), (ro, .inl (cI, 64, .inl f3))] := hdy.sub [0, 1, 2] (by decide) rfl
    exact kz_vret F (ct + 1, f2, f3) hdy (⟨by first | assumption | rfl | omega, by rw [q4, q5, ef1]; unfold kd_pS kd_pR; rw [if_pos hc30, if_pos hc30], trivial⟩) zd_D_putWord_37

set_option maxHeartbeats 4000000 in
set_option maxRecDepth 100000 in
/-- KeyMeeting$Words.copy([I[I)V -/
theorem c_S_copy (l : Launch) (dC : Nat → ClassId) (dI : Nat → Nat → Nat) (cI cAA cB cL : ClassId) (o a : Nat) (go : Nat → Int32) (ga : Nat → Int32) (sz : Nat) : Met l zy_W_copy zw_W_copy { frames := 1, cells := 0, slots := 0, locals := 40 } (kz_Pc (dC, dI) vwCl [(cI, .int), (cAA, .array .int), (cB, .byte), (cL, .long)] [] [] [.ref a, .ref o] [(o, .inl (cI, 8, .inl go))] [(a, .inl (cI, 8, .inl ga))] sz) (va_Qv (fun (u : (Nat → Int32)) => (u = va_cpy ga go 0 0 8) ∧ True) (kz_B (dC, dI) vwCl (va_A [(o, .inl (cI, 8, .inl go))] sz) (fun u : (Nat → Int32) => [(o, .inl (cI, 8, .inl u))])) (va_A [(o, .inl (cI, 8, .inl go))] sz)) 0 0 (va_A [(o, .inl (cI, 8, .inl go))] sz) := by
  refine kz_met (y := zy_W_copy) (ws := zw_W_copy) (av := [.ref a, .ref o]) (sz := sz) (Qc := fun A => va_Qv (fun (u : (Nat → Int32)) => (u = va_cpy ga go 0 0 8) ∧ True) (kz_B (dC, dI) vwCl A (fun u : (Nat → Int32) => [(o, .inl (cI, 8, .inl u))])) A) (cc := zc_W_copy) (maxL := 2) (ret := none) (by decide) rfl (Nat.le_of_ble_eq_true rfl) ?_
  intro p e s m below meth c A ls F hA hdy hK hro hZ hN hl
  obtain ⟨hx, hb, hml, hr, hown, hlocks, hts, hnm⟩ := id F
  have hl : lv_has ls 2 [(0, .ref a), (1, .ref o)] := hl
  refine lv_aload_n hx hb zd_W_copy_0 rfl (lv_at hl 0 rfl) ?_
  refine lv_iconst (v := (nI (0))) hx hb zd_W_copy_1 (by decide) ?_
  refine lv_aload_n hx hb zd_W_copy_2 rfl (lv_at hl 1 rfl) ?_
  refine lv_iconst (v := (nI (0))) hx hb zd_W_copy_3 (by decide) ?_
  refine lv_bipush (v := (nI (8))) hx hb zd_W_copy_4 (by decide) ?_
  refine kz_copyr hx hb (hml.trans hl.1.symm) hown (hts _ (kz_c mw_285)) (hts _ (kz_c mw_214)) (hts _ (kz_c mw_213)) (hts _ (kz_c mw_51)) hK hdy.1 hdy.2.1 hdy.2.2 hro 0 0 0 0 rfl rfl rfl rfl rfl (nI_pos (by omega)) (nI_pos (by omega)) (nI_pos (by omega)) (by (repeat rw [nI_clamp (by omega)]) <;> omega) (by (repeat rw [nI_clamp (by omega)]) <;> omega) (fun _ _ => rfl) (Nat.le_of_ble_eq_true rfl) (Nat.le_of_ble_eq_true rfl) zd_W_copy_6 (fun H locs hP hD hS => ?_)
  rw [show (nI (0)).toNatClampNeg = 0 from nI_clamp (by omega), show (nI (8)).toNatClampNeg = 8 from nI_clamp (by omega)] at hP hD
  obtain ⟨f1, ef1, hdy⟩ : ∃ f1 : Nat → Int32, f1 = va_cpy ga go 0 0 8 ∧ kz_dy (dC, dI) vwCl A s.heap H locs [(o, .inl (cI, 8, .inl f1))] := ⟨_, rfl, hP, hD, hS⟩
  exact kz_vret F (f1) hdy (⟨by exact ef1, trivial⟩) zd_W_copy_9

set_option maxHeartbeats 4000000 in
set_option maxRecDepth 100000 in
/-- KeyMeeting$Digest.clear()V -/
theorem c_S_clear (l : Launch) (dC : Nat → ClassId) (dI : Nat → Nat → Nat) (cI cAA cB cL : ClassId) (h su ro start : Nat) (ct : Nat) (gsu : Nat → Int32) (gstart : Nat → Int32) (sz : Nat) : Met l zy_D_clear zw_D_clear { frames := 2, cells := 0, slots := 0, locals := 61 } (kz_Pc (dC, dI) vwCl [(cI, .int), (cAA, .array .int), (cB, .byte), (cL, .long)] [("KeyMeeting$Digest", "START", "[I", .ref start)] [] [.ref h] [(h, .inr (3, [.ref su, .ref ro, .int (nI (ct))])), (su, .inl (cI, 8, .inl gsu))] [(start, .inl (cI, 8, .inl gstart))] sz) (va_Qv (fun (u : Nat × (Nat → Int32)) => (u.1 = 0) ∧ (∀ j, j < 8 → u.2 j = gstart j) ∧ True) (kz_B (dC, dI) vwCl (va_A [(h, .inr (3, [.ref su, .ref ro, .int (nI (ct))])), (su, .inl (cI, 8, .inl gsu))] sz) (fun u : Nat × (Nat → Int32) => [(h, .inr (3, [.ref su, .ref ro, .int (nI (u.1))])), (su, .inl (cI, 8, .inl u.2))])) (va_A [(h, .inr (3, [.ref su, .ref ro, .int (nI (ct))])), (su, .inl (cI, 8, .inl gsu))] sz)) 0 0 (va_A [(h, .inr (3, [.ref su, .ref ro, .int (nI (ct))])), (su, .inl (cI, 8, .inl gsu))] sz) := by
  refine kz_met (y := zy_D_clear) (ws := zw_D_clear) (av := [.ref h]) (sz := sz) (Qc := fun A => va_Qv (fun (u : Nat × (Nat → Int32)) => (u.1 = 0) ∧ (∀ j, j < 8 → u.2 j = gstart j) ∧ True) (kz_B (dC, dI) vwCl A (fun u : Nat × (Nat → Int32) => [(h, .inr (3, [.ref su, .ref ro, .int (nI (u.1))])), (su, .inl (cI, 8, .inl u.2))])) A) (cc := zc_D_clear) (maxL := 1) (ret := none) (by decide) rfl (Nat.le_of_ble_eq_true rfl) ?_
  intro p e s m below meth c A ls F hA hdy hK hro hZ hN hl
  obtain ⟨hx, hb, hml, hr, hown, hlocks, hts, hnm⟩ := id F
  have hl : lv_has ls 1 [(0, .ref h)] := hl
  refine va_gets hx hb (hZ _ (List.mem_of_getElem? (i := 0) rfl)) hdy.2.2 hown (hts _ (kz_c mw_303)) (fun _ h9 => h9) zd_D_clear_0 ?_
  refine lv_aload_n hx hb zd_D_clear_3 rfl (lv_at hl 0 rfl) ?_
  refine va_get (D := (dC, dI)) (ci := 3) (v := .ref su) (C := zR_D) (T := zT_D) (N := 3) hx hb hts (fun w h => kz_c (zi_D w h)) hown hK hdy.1 0 rfl rfl 0 (by decide) (hts _ (kz_c mw_119)) (fun _ h9 => h9) rfl zd_D_clear_4 ?_
  refine kz_callv (wk := [(h, .inr (3, [.ref su, .ref ro, .int (nI (ct))]))]) (va_runS (As := [.ref start, .ref su]) (rest := []) ⟨hx, hb, hml, hown, hts⟩ (c_S_copy l dC dI cI cAA cB cL su start gsu gstart _) (va_cwS 2 hts (kz_g (kz_mc mw_305 (kz_mc mw_283 (kz_mc mw_50 kz_mn))) mw_284) rfl rfl rfl (by decide +kernel) ⟨Nat.le_of_ble_eq_true rfl, Nat.le_of_ble_eq_true rfl⟩) (kz_preS hdy hA hK hro hZ hN [1] (by decide) rfl [(true, 0)] rfl (by decide) [0, 1, 2, 3] rfl (fun _ h => by cases h) (fun _ h => by cases h) rfl) rfl rfl hl.1 rfl (lv_room (Nat.le_of_ble_eq_true rfl)) zd_D_clear_7 ⟨Nat.le_of_ble_eq_true rfl, Nat.le_of_ble_eq_true rfl⟩) hdy hA [1] [0] rfl rfl (by decide) (by decide) (fun u H locs hw hdy => ?_)
  obtain ⟨f1, rfl⟩ : ∃ z, z = u := ⟨_, rfl⟩
  try dsimp only at hw
  obtain ⟨q2, -⟩ := hw
  have hdy : kz_dy (dC, dI) vwCl A s.heap H locs [(h, .inr (3, [.ref su, .ref ro, .int (nI (ct))])), (su, .inl (cI, 8, .inl f1))] := hdy.sub [0, 1] (by decide) rfl
  refine lv_aload_n hx hb zd_D_clear_10 rfl (lv_at hl 0 rfl) ?_
  refine lv_iconst (v := (nI (0))) hx hb zd_D_clear_11 (by decide) ?_
  refine va_put (D := (dC, dI)) (ci := 3) (v := .int (nI (0))) (ty := .int) (C := zR_D) (T := zT_D) (N := 3) hx hb hts (fun w h => kz_c (zi_D w h)) zt_D zo_D zn_D hown hK hdy.1 hdy.2.1 hdy.2.2 0 rfl rfl 2 (by decide) (hts _ (kz_c mw_121)) (fun _ h9 => h9) rfl (by decide +kernel) rfl rfl (Nat.le_of_ble_eq_true rfl) zd_D_clear_12 (fun H locs hP hD hS => ?_)
  have hdy : kz_dy (dC, dI) vwCl A s.heap H locs [(h, .inr (3, [.ref su, .ref ro, .int (nI (0))])), (su, .inl (cI, 8, .inl f1))] := ⟨hP, hD, hS⟩
  exact kz_vret F (0, f1) hdy (⟨by first | assumption | rfl | omega, by intro j hj; show f1 j = _; rw [q2, pk_cpy_in (by omega) (by omega), Nat.zero_add, Nat.sub_zero], trivial⟩) zd_D_clear_15

set_option maxHeartbeats 4000000 in
set_option maxRecDepth 100000 in
/-- KeyMeeting$Digest.put([I)V -/
theorem c_S_put (l : Launch) (dC : Nat → ClassId) (dI : Nat → Nat → Nat) (cI cAA cB cL : ClassId) (h su ro a roots : Nat) (ct : Nat) (gsu : Nat → Int32) (gro : Nat → Int32) (ga : Nat → Int32) (groots : Nat → Int32) (sz : Nat) (hct : ct < 900) : Met l zy_D_put zw_D_put { frames := 4, cells := 0, slots := 0, locals := 98 } (kz_Pc (dC, dI) vwCl [(cI, .int), (cAA, .array .int), (cB, .byte), (cL, .long)] [("KeyMeeting$Digest", "ROOTS", "[I", .ref roots)] [] [.ref h, .ref a] [(h, .inr (3, [.ref su, .ref ro, .int (nI (ct))])), (su, .inl (cI, 8, .inl gsu)), (ro, .inl (cI, 64, .inl gro))] [(a, .inl (cI, 8, .inl ga)), (roots, .inl (cI, 64, .inl groots))] sz) (va_Qv (fun (u : Nat × (Nat → Int32) × (Nat → Int32)) => (u.1 = ct + 8) ∧ ((u.2.1, u.2.2) = kd_n groots gsu gro ct ga 8) ∧ True) (kz_B (dC, dI) vwCl (va_A [(h, .inr (3, [.ref su, .ref ro, .int (nI (ct))])), (su, .inl (cI, 8, .inl gsu)), (ro, .inl (cI, 64, .inl gro))] sz) (fun u : Nat × (Nat → Int32) × (Nat → Int32) => [(h, .inr (3, [.ref su, .ref ro, .int (nI (u.1))])), (su, .inl (cI, 8, .inl u.2.1)), (ro, .inl (cI, 64, .inl u.2.2))])) (va_A [(h, .inr (3, [.ref su, .ref ro, .int (nI (ct))])), (su, .inl (cI, 8, .inl gsu)), (ro, .inl (cI, 64, .inl gro))] sz)) 0 0 (va_A [(h, .inr (3, [.ref su, .ref ro, .int (nI (ct))])), (su, .inl (cI, 8, .inl gsu)), (ro, .inl (cI, 64, .inl gro))] sz) := by
  refine kz_met (y := zy_D_put) (ws := zw_D_put) (av := [.ref h, .ref a]) (sz := sz) (Qc := fun A => va_Qv (fun (u : Nat × (Nat → Int32) × (Nat → Int32)) => (u.1 = ct + 8) ∧ ((u.2.1, u.2.2) = kd_n groots gsu gro ct ga 8) ∧ True) (kz_B (dC, dI) vwCl A (fun u : Nat × (Nat → Int32) × (Nat → Int32) => [(h, .inr (3, [.ref su, .ref ro, .int (nI (u.1))])), (su, .inl (cI, 8, .inl u.2.1)), (ro, .inl (cI, 64, .inl u.2.2))])) A) (cc := zc_D_put) (maxL := 3) (ret := none) (by decide) rfl (Nat.le_of_ble_eq_true rfl) ?_
  intro p e s m below meth c A ls F hA hdy hK hro hZ hN hl
  obtain ⟨hx, hb, hml, hr, hown, hlocks, hts, hnm⟩ := id F
  have hl : lv_has ls 3 [(0, .ref h), (1, .ref a)] := hl
  refine lv_iconst (v := (nI (0))) hx hb zd_D_put_0 (by decide) ?_
  refine lv_istore_n (lv' := [(2, .int (nI (0))), (0, .ref h), (1, .ref a)]) hx hb zd_D_put_1 rfl hl (by decide) rfl (fun ls hl => ?_)
  have lp2 : ∀ (n2 k2 : Nat) (c1 : Nat) (f2 : Nat → Int32) (f3 : Nat → Int32) (H : Heap) (locs : List Loc) (ls : Array Slot), k2 ≤ 8 → 8 - k2 < n2 → c1 = ct + k2 → ((f2, f3) = kd_n groots gsu gro ct ga (k2)) → kz_dy (dC, dI) vwCl A s.heap H locs [(h, .inr (3, [.ref su, .ref ro, .int (nI (c1))])), (su, .inl (cI, 8, .inl f2)), (ro, .inl (cI, 64, .inl f3))] → lv_has ls 3 [(2, .int (nI (k2))), (0, .ref h), (1, .ref a)] → W p l e { frames := 4, cells := 0, slots := 0, locals := 98 } s m ([.ref h, .ref a] : List Value).toArray below meth c H locs 0 0 (MQ below (va_Qv (fun (u : Nat × (Nat → Int32) × (Nat → Int32)) => (u.1 = ct + 8) ∧ ((u.2.1, u.2.2) = kd_n groots gsu gro ct ga 8) ∧ True) (kz_B (dC, dI) vwCl A (fun u : Nat × (Nat → Int32) × (Nat → Int32) => [(h, .inr (3, [.ref su, .ref ro, .int (nI (u.1))])), (su, .inl (cI, 8, .inl u.2.1)), (ro, .inl (cI, 64, .inl u.2.2))])) A) ([.ref h, .ref a] : List Value).toArray s 0 0 A) (F0 m 2 ls []) := by
    intro n2
    induction n2 with
    | zero => intro k2; intros; omega
    | succ n2 ih2 =>
      intro k2 c1 f2 f3 H locs ls hi2 hn2 hbc1 hn hdy hl
      refine lv_iload_n hx hb zd_D_put_2 rfl (lv_at hl 0 rfl) ?_
      refine lv_bipush (v := (nI (8))) hx hb zd_D_put_3 (by decide) ?_
      refine lv_icmp_ge (tgt := 21) hx hb zd_D_put_5 (by decide) (fun hc5 => ?_) (fun hc5 => ?_)
      · have hc5 : 8 ≤ k2 := (nI_leI (by omega) (by omega)).mp hc5
        exact kz_vret F (c1, f2, f3) hdy (⟨by first | assumption | rfl | omega, by have h8 : k2 = 8 := (by omega); subst h8; exact hn, trivial⟩) zd_D_put_21
      · have hc5 : ¬ 8 ≤ k2 := fun h9 => hc5 ((nI_leI (by omega) (by omega)).mpr h9)
        refine lv_aload_n hx hb zd_D_put_8 rfl (lv_at hl 1 rfl) ?_
        refine lv_aload_n hx hb zd_D_put_9 rfl (lv_at hl 2 rfl) ?_
        refine lv_iload_n hx hb zd_D_put_10 rfl (lv_at hl 0 rfl) ?_
        refine kz_riald hx hb hK hro hdy.2.2 0 0 rfl rfl (vp_in_nI (by omega) (by omega)) zd_D_put_11 ?_
        refine lv_topi (fun x4 h9 => ?_)
        obtain rfl : x4 = ga k2 := h9.trans (by rw [nI_clamp (by omega)])
        refine kz_callv (wk := []) (va_runV (As := [.int (ga k2)]) (rest := []) ⟨hx, hb, hml, hown, hts⟩ (c_S_putWord l dC dI cI cAA cB cL h su ro roots c1 f2 f3 groots ((ga k2)) _ (by first | omega | assumption)) (cwV 1 hts (kz_g (kz_mc mw_310 (kz_mc mw_312 (kz_mc mw_13 (kz_mc mw_42 kz_mn)))) mw_313) rfl rfl rfl (by decide +kernel) ⟨Nat.le_of_ble_eq_true rfl, Nat.le_of_ble_eq_true rfl⟩) (kz_preV hdy hA hK hro hZ hN [0, 1, 2] (by decide) rfl [(true, 1)] rfl (by decide) [0, 1, 2, 3] rfl (fun _ h => h) (fun _ h => by cases h) rfl (ci := 3) (q0 := 0) rfl rfl rfl) rfl rfl hl.1 rfl (lv_room (Nat.le_of_ble_eq_true rfl)) zd_D_put_12 ⟨Nat.le_of_ble_eq_true rfl, Nat.le_of_ble_eq_true rfl⟩) hdy hA [0, 1, 2] [] rfl rfl (by decide) (by decide) (fun u H locs hw hdy => ?_)
        obtain ⟨c5, f6, f7⟩ := u
        try dsimp only at hw
        obtain ⟨q8, q9, -⟩ := hw
        have hdy : kz_dy (dC, dI) vwCl A s.heap H locs [(h, .inr (3, [.ref su, .ref ro, .int (nI (c5))])), (su, .inl (cI, 8, .inl f6)), (ro, .inl (cI, 64, .inl f7))] := hdy.sub [0, 1, 2] (by decide) rfl
        refine lv_iinc (v := (nI (k2 + 1))) (lv' := [(2, .int (nI (k2 + 1))), (0, .ref h), (1, .ref a)]) hx hb zd_D_put_15 hl (k := 0) rfl (nI_1 _) (by decide) rfl (fun ls hl => ?_)
        refine lv_goto (tgt := 2) hx hb zd_D_put_18 (by decide) ?_
        have hi9_hn10 : (f6, f7) = kd_n groots gsu gro ct ga (k2 + 1) := by exact q9.trans (kd_nStep hn (by omega) rfl)
        exact ih2 (k2 + 1) c5 f6 f7 _ _ _ (by omega) (by omega) (by omega) hi9_hn10 hdy (lv_sub hl [0, 1, 2] rfl)
  have hi9_hn11 : (gsu, gro) = kd_n groots gsu gro ct ga (0) := by rfl
  exact lp2 (8 - 0 + 1) 0 ct gsu gro _ _ _ (by omega) (by omega) (by omega) hi9_hn11 hdy (lv_sub hl [0, 1, 2] rfl)

set_option maxHeartbeats 4000000 in
set_option maxRecDepth 100000 in
/-- KeyMeeting$Digest.end(II[II)V -/
theorem c_S_endH (l : Launch) (dC : Nat → ClassId) (dI : Nat → Nat → Nat) (cI cAA cB cL : ClassId) (h su ro o roots : Nat) (ct : Nat) (gsu : Nat → Int32) (gro : Nat → Int32) (go : Nat → Int32) (groots : Nat → Int32) (sz : Nat) (hct : ct = 48) : Met l zy_D_end zw_D_end { frames := 4, cells := 0, slots := 0, locals := 98 } (kz_Pc (dC, dI) vwCl [(cI, .int), (cAA, .array .int), (cB, .byte), (cL, .long)] [("KeyMeeting$Digest", "ROOTS", "[I", .ref roots)] [] [.ref h, .int (nI (0)), .int (nI (0)), .ref o, .int (nI (0))] [(h, .inr (3, [.ref su, .ref ro, .int (nI (ct))])), (su, .inl (cI, 8, .inl gsu)), (ro, .inl (cI, 64, .inl gro)), (o, .inl (cI, 8, .inl go))] [(roots, .inl (cI, 64, .inl groots))] sz) (va_Qv (fun (u : Nat × (Nat → Int32) × (Nat → Int32) × (Nat → Int32)) => ((u.2.1, u.2.2.1) = kd_n groots gsu gro ct kd_wh 16) ∧ (u.2.2.2 = va_cpy u.2.1 go 0 0 8) ∧ True) (kz_B (dC, dI) vwCl (va_A [(h, .inr (3, [.ref su, .ref ro, .int (nI (ct))])), (su, .inl (cI, 8, .inl gsu)), (ro, .inl (cI, 64, .inl gro)), (o, .inl (cI, 8, .inl go))] sz) (fun u : Nat × (Nat → Int32) × (Nat → Int32) × (Nat → Int32) => [(h, .inr (3, [.ref su, .ref ro, .int (nI (u.1))])), (su, .inl (cI, 8, .inl u.2.1)), (ro, .inl (cI, 64, .inl u.2.2.1)), (o, .inl (cI, 8, .inl u.2.2.2))])) (va_A [(h, .inr (3, [.ref su, .ref ro, .int (nI (ct))])), (su, .inl (cI, 8, .inl gsu)), (ro, .inl (cI, 64, .inl gro)), (o, .inl (cI, 8, .inl go))] sz)) 0 0 (va_A [(h, .inr (3, [.ref su, .ref ro, .int (nI (ct))])), (su, .inl (cI, 8, .inl gsu)), (ro, .inl (cI, 64, .inl gro)), (o, .inl (cI, 8, .inl go))] sz) := by
  refine kz_met (y := zy_D_end) (ws := zw_D_end) (av := [.ref h, .int (nI (0)), .int (nI (0)), .ref o, .int (nI (0))]) (sz := sz) (Qc := fun A => va_Qv (fun (u : Nat × (Nat → Int32) × (Nat → Int32) × (Nat → Int32)) => ((u.2.1, u.2.2.1) = kd_n groots gsu gro ct kd_wh 16) ∧ (u.2.2.2 = va_cpy u.2.1 go 0 0 8) ∧ True) (kz_B (dC, dI) vwCl A (fun u : Nat × (Nat → Int32) × (Nat → Int32) × (Nat → Int32) => [(h, .inr (3, [.ref su, .ref ro, .int (nI (u.1))])), (su, .inl (cI, 8, .inl u.2.1)), (ro, .inl (cI, 64, .inl u.2.2.1)), (o, .inl (cI, 8, .inl u.2.2.2))])) A) (cc := zc_D_end) (maxL := 8) (ret := none) (by decide) rfl (Nat.le_of_ble_eq_true rfl) ?_
  intro p e s m below meth c A ls F hA hdy hK hro hZ hN hl
  obtain ⟨hx, hb, hml, hr, hown, hlocks, hts, hnm⟩ := id F
  have hl : lv_has ls 8 [(0, .ref h), (1, .int (nI (0))), (2, .int (nI (0))), (3, .ref o), (4, .int (nI (0)))] := hl
  refine lv_ldc2 (v := (32)) hx hb hown (hts _ (kz_c mw_331)) zd_D_end_0 ?_
  refine lv_topl (fun yl1 h9 => ?_)
  obtain rfl : yl1 = kz_lz (32) := h9.trans (kz_lz_c32)
  refine lv_aload_n hx hb zd_D_end_3 rfl (lv_at hl 0 rfl) ?_
  refine va_get (D := (dC, dI)) (ci := 3) (v := .int (nI (ct))) (C := zR_D) (T := zT_D) (N := 3) hx hb hts (fun w h => kz_c (zi_D w h)) hown hK hdy.1 0 rfl rfl 2 (by decide) (hts _ (kz_c mw_121)) (fun _ h9 => h9) rfl zd_D_end_4 ?_
  refine lv_i2l hx hb zd_D_end_7 (kz_lz_i (n := ct) (by omega)) ?_
  refine lv_lmul hx hb zd_D_end_8 ?_
  refine lv_topl (fun yl2 h9 => ?_)
  obtain rfl : yl2 = kz_lz (32 * (((ct : Nat) : Int))) := h9.trans (kz_lz_mul _ _)
  refine lv_iload_n hx hb zd_D_end_9 rfl (lv_at hl 2 rfl) ?_
  refine lv_i2l hx hb zd_D_end_10 (kz_lz_i (n := 0) (by omega)) ?_
  refine lv_ladd hx hb zd_D_end_11 ?_
  refine lv_topl (fun yl3 h9 => ?_)
  obtain rfl : yl3 = kz_lz ((32 * (((ct : Nat) : Int))) + (((0 : Nat) : Int))) := h9.trans (kz_lz_add _ _)
  refine lv_topl (fun yl5 h9 => ?_)
  obtain ⟨n4, en4, rfl⟩ := kz_toN (e := (32 * (((ct : Nat) : Int))) + (((0 : Nat) : Int))) h9 (by omega)
  refine lv_lstore (lv' := [(5, .long (kz_lz (((n4 : Nat) : Int)))), (0, .ref h), (1, .int (nI (0))), (2, .int (nI (0))), (3, .ref o), (4, .int (nI (0)))]) hx hb zd_D_end_12 hl (by decide) rfl (fun ls hl => ?_)
  refine lv_aload_n hx hb zd_D_end_14 rfl (lv_at hl 1 rfl) ?_
  refine lv_iload_n hx hb zd_D_end_15 rfl (lv_at hl 2 rfl) ?_
  refine lv_ldc (v := (-2147483648)) hx hb hown (hts _ (kz_c mw_332)) zd_D_end_16 ?_
  refine lv_iload_n hx hb zd_D_end_18 rfl (lv_at hl 3 rfl) ?_
  refine lv_iushr (v := kd_us (-2147483648) (nI (0))) hx hb zd_D_end_19 rfl ?_
  refine lv_ior hx hb zd_D_end_20 ?_
  refine kz_callv (wk := [(o, .inl (cI, 8, .inl go))]) (va_runV (As := [.int ((nI (0)) ||| (kd_us (-2147483648) (nI (0))))]) (rest := []) ⟨hx, hb, hml, hown, hts⟩ (c_S_putWord l dC dI cI cAA cB cL h su ro roots ct gsu gro groots (((nI (0)) ||| (kd_us (-2147483648) (nI (0))))) _ (by first | omega | assumption)) (cwV 1 hts (kz_g (kz_mc mw_310 (kz_mc mw_312 (kz_mc mw_13 (kz_mc mw_42 kz_mn)))) mw_313) rfl rfl rfl (by decide +kernel) ⟨Nat.le_of_ble_eq_true rfl, Nat.le_of_ble_eq_true rfl⟩) (kz_preV hdy hA hK hro hZ hN [0, 1, 2] (by decide) rfl [(true, 0)] rfl (by decide) [0, 1, 2, 3] rfl (fun _ h => h) (fun _ h => by cases h) rfl (ci := 3) (q0 := 0) rfl rfl rfl) rfl rfl hl.1 rfl (lv_room (Nat.le_of_ble_eq_true rfl)) zd_D_end_21 ⟨Nat.le_of_ble_eq_true rfl, Nat.le_of_ble_eq_true rfl⟩) hdy hA [0, 1, 2] [3] rfl rfl (by decide) (by decide) (fun u H locs hw hdy => ?_)
  obtain ⟨c6, f7, f8⟩ := u
  try dsimp only at hw
  obtain ⟨q9, q10, -⟩ := hw
  have hdy : kz_dy (dC, dI) vwCl A s.heap H locs [(h, .inr (3, [.ref su, .ref ro, .int (nI (c6))])), (su, .inl (cI, 8, .inl f7)), (ro, .inl (cI, 64, .inl f8)), (o, .inl (cI, 8, .inl go))] := hdy.sub [1, 2, 3, 0] (by decide) rfl
  refine lv_iconst (v := (nI (0))) hx hb zd_D_end_24 (by decide) ?_
  refine lv_istore (lv' := [(7, .int (nI (0))), (5, .long (kz_lz (((n4 : Nat) : Int)))), (0, .ref h), (1, .int (nI (0))), (2, .int (nI (0))), (3, .ref o), (4, .int (nI (0)))]) hx hb zd_D_end_25 hl (by decide) rfl (fun ls hl => ?_)
  have lp27 : ∀ (n27 k27 : Nat) (c11 : Nat) (f12 : Nat → Int32) (f13 : Nat → Int32) (H : Heap) (locs : List Loc) (ls : Array Slot), k27 ≤ 16 → 16 - k27 < n27 → c11 = ct + 1 + k27 → (k27 ≤ 13) → ((f12, f13) = kd_n groots gsu gro ct kd_wh (1 + (k27))) → kz_dy (dC, dI) vwCl A s.heap H locs [(h, .inr (3, [.ref su, .ref ro, .int (nI (c11))])), (su, .inl (cI, 8, .inl f12)), (ro, .inl (cI, 64, .inl f13)), (o, .inl (cI, 8, .inl go))] → lv_has ls 8 [(7, .int (nI (k27))), (5, .long (kz_lz (((n4 : Nat) : Int)))), (0, .ref h), (1, .int (nI (0))), (2, .int (nI (0))), (3, .ref o), (4, .int (nI (0)))] → W p l e { frames := 4, cells := 0, slots := 0, locals := 98 } s m ([.ref h, .int (nI (0)), .int (nI (0)), .ref o, .int (nI (0))] : List Value).toArray below meth c H locs 0 0 (MQ below (va_Qv (fun (u : Nat × (Nat → Int32) × (Nat → Int32) × (Nat → Int32)) => ((u.2.1, u.2.2.1) = kd_n groots gsu gro ct kd_wh 16) ∧ (u.2.2.2 = va_cpy u.2.1 go 0 0 8) ∧ True) (kz_B (dC, dI) vwCl A (fun u : Nat × (Nat → Int32) × (Nat → Int32) × (Nat → Int32) => [(h, .inr (3, [.ref su, .ref ro, .int (nI (u.1))])), (su, .inl (cI, 8, .inl u.2.1)), (ro, .inl (cI, 64, .inl u.2.2.1)), (o, .inl (cI, 8, .inl u.2.2.2))])) A) ([.ref h, .int (nI (0)), .int (nI (0)), .ref o, .int (nI (0))] : List Value).toArray s 0 0 A) (F0 m 27 ls []) := by
    intro n27
    induction n27 with
    | zero => intro k27; intros; omega
    | succ n27 ih27 =>
      intro k27 c11 f12 f13 H locs ls hi27 hn27 hbc11 hk13 hn hdy hl
      refine lv_iload hx hb zd_D_end_27 (lv_at hl 0 rfl) ?_
      refine lv_bipush (v := (nI (16))) hx hb zd_D_end_29 (by decide) ?_
      refine lv_icmp_ge (tgt := 57) hx hb zd_D_end_31 (by decide) (fun hc31 => ?_) (fun hc31 => ?_)
      · have hc31 : 16 ≤ k27 := (nI_leI (by omega) (by omega)).mp hc31
        have h13 : k27 = 13 := (by omega)
        rw [h13] at hn
        refine lv_aload_n hx hb zd_D_end_57 rfl (lv_at hl 2 rfl) ?_
        refine lv_lload hx hb zd_D_end_58 (lv_at hl 1 rfl) ?_
        refine lv_bipush (v := (nI (32))) hx hb zd_D_end_60 (by decide) ?_
        refine lv_lushr hx hb zd_D_end_62 (kz_lz_ushr32 (z := (((n4 : Nat) : Int))) (by omega) (by omega)) ?_
        refine lv_l2i hx hb zd_D_end_63 (kz_lz_i32 ((((n4 : Nat) : Int)) / 4294967296)) ?_
        refine kz_callv (wk := [(o, .inl (cI, 8, .inl go))]) (va_runV (As := [.int (nI ((((((n4 : Nat) : Int)) / 4294967296) % 4294967296).toNat))]) (rest := []) ⟨hx, hb, hml, hown, hts⟩ (c_S_putWord l dC dI cI cAA cB cL h su ro roots c11 f12 f13 groots ((nI ((((((n4 : Nat) : Int)) / 4294967296) % 4294967296).toNat))) _ (by first | omega | assumption)) (cwV 1 hts (kz_g (kz_mc mw_310 (kz_mc mw_312 (kz_mc mw_13 (kz_mc mw_42 kz_mn)))) mw_313) rfl rfl rfl (by decide +kernel) ⟨Nat.le_of_ble_eq_true rfl, Nat.le_of_ble_eq_true rfl⟩) (kz_preV hdy hA hK hro hZ hN [0, 1, 2] (by decide) rfl [(true, 0)] rfl (by decide) [0, 1, 2, 3] rfl (fun _ h => h) (fun _ h => by cases h) rfl (ci := 3) (q0 := 0) rfl rfl rfl) rfl rfl hl.1 rfl (lv_room (Nat.le_of_ble_eq_true rfl)) zd_D_end_64 ⟨Nat.le_of_ble_eq_true rfl, Nat.le_of_ble_eq_true rfl⟩) hdy hA [0, 1, 2] [3] rfl rfl (by decide) (by decide) (fun u H locs hw hdy => ?_)
        obtain ⟨c14, f15, f16⟩ := u
        try dsimp only at hw
        obtain ⟨q17, q18, -⟩ := hw
        have hdy : kz_dy (dC, dI) vwCl A s.heap H locs [(h, .inr (3, [.ref su, .ref ro, .int (nI (c14))])), (su, .inl (cI, 8, .inl f15)), (ro, .inl (cI, 64, .inl f16)), (o, .inl (cI, 8, .inl go))] := hdy.sub [1, 2, 3, 0] (by decide) rfl
        have hn2 := q18.trans (kd_nStep (n := 14) hn (by omega) (by have h7 : (((((n4 : Nat) : Int)) / 4294967296) % 4294967296).toNat = 0 := (by omega); rw [h7]; rfl))
        refine lv_aload_n hx hb zd_D_end_67 rfl (lv_at hl 2 rfl) ?_
        refine lv_lload hx hb zd_D_end_68 (lv_at hl 1 rfl) ?_
        refine lv_l2i hx hb zd_D_end_70 (kz_lz_i32 (((n4 : Nat) : Int))) ?_
        refine kz_callv (wk := [(o, .inl (cI, 8, .inl go))]) (va_runV (As := [.int (nI (((((n4 : Nat) : Int)) % 4294967296).toNat))]) (rest := []) ⟨hx, hb, hml, hown, hts⟩ (c_S_putWord l dC dI cI cAA cB cL h su ro roots c14 f15 f16 groots ((nI (((((n4 : Nat) : Int)) % 4294967296).toNat))) _ (by first | omega | assumption)) (cwV 1 hts (kz_g (kz_mc mw_310 (kz_mc mw_312 (kz_mc mw_13 (kz_mc mw_42 kz_mn)))) mw_313) rfl rfl rfl (by decide +kernel) ⟨Nat.le_of_ble_eq_true rfl, Nat.le_of_ble_eq_true rfl⟩) (kz_preV hdy hA hK hro hZ hN [0, 1, 2] (by decide) rfl [(true, 0)] rfl (by decide) [0, 1, 2, 3] rfl (fun _ h => h) (fun _ h => by cases h) rfl (ci := 3) (q0 := 0) rfl rfl rfl) rfl rfl hl.1 rfl (lv_room (Nat.le_of_ble_eq_true rfl)) zd_D_end_71 ⟨Nat.le_of_ble_eq_true rfl, Nat.le_of_ble_eq_true rfl⟩) hdy hA [0, 1, 2] [3] rfl rfl (by decide) (by decide) (fun u H locs hw hdy => ?_)
        obtain ⟨c19, f20, f21⟩ := u
        try dsimp only at hw
        obtain ⟨q22, q23, -⟩ := hw
        have hdy : kz_dy (dC, dI) vwCl A s.heap H locs [(h, .inr (3, [.ref su, .ref ro, .int (nI (c19))])), (su, .inl (cI, 8, .inl f20)), (ro, .inl (cI, 64, .inl f21)), (o, .inl (cI, 8, .inl go))] := hdy.sub [1, 2, 3, 0] (by decide) rfl
        have hn3 := q23.trans (kd_nStep (n := 15) hn2 (by omega) (by have h7 : ((((n4 : Nat) : Int)) % 4294967296).toNat = 1536 := (by omega); rw [h7]; rfl))
        refine lv_aload_n hx hb zd_D_end_74 rfl (lv_at hl 2 rfl) ?_
        refine va_get (D := (dC, dI)) (ci := 3) (v := .ref su) (C := zR_D) (T := zT_D) (N := 3) hx hb hts (fun w h => kz_c (zi_D w h)) hown hK hdy.1 0 rfl rfl 0 (by decide) (hts _ (kz_c mw_119)) (fun _ h9 => h9) rfl zd_D_end_75 ?_
        refine lv_iconst (v := (nI (0))) hx hb zd_D_end_78 (by decide) ?_
        refine lv_aload_n hx hb zd_D_end_79 rfl (lv_at hl 5 rfl) ?_
        refine lv_iload hx hb zd_D_end_80 (lv_at hl 6 rfl) ?_
        refine lv_bipush (v := (nI (8))) hx hb zd_D_end_82 (by decide) ?_
        refine va_copyi hx hb (hml.trans hl.1.symm) hown (hts _ (kz_c mw_333)) (hts _ (kz_c mw_214)) (hts _ (kz_c mw_213)) (hts _ (kz_c mw_51)) hK hdy.1 hdy.2.1 hdy.2.2 1 3 0 0 rfl rfl rfl rfl rfl (nI_pos (by omega)) (nI_pos (by omega)) (nI_pos (by omega)) (by (repeat rw [nI_clamp (by omega)]) <;> omega) (by (repeat rw [nI_clamp (by omega)]) <;> omega) (fun _ _ => rfl) (Nat.le_of_ble_eq_true rfl) (Nat.le_of_ble_eq_true rfl) zd_D_end_84 (fun H locs hP hD hS => ?_)
        rw [show (nI (0)).toNatClampNeg = 0 from nI_clamp (by omega), show (nI (8)).toNatClampNeg = 8 from nI_clamp (by omega)] at hP hD
        obtain ⟨f24, ef24, hdy⟩ : ∃ f24 : Nat → Int32, f24 = va_cpy f20 go 0 0 8 ∧ kz_dy (dC, dI) vwCl A s.heap H locs [(h, .inr (3, [.ref su, .ref ro, .int (nI (c19))])), (su, .inl (cI, 8, .inl f20)), (ro, .inl (cI, 64, .inl f21)), (o, .inl (cI, 8, .inl f24))] := ⟨_, rfl, hP, hD, hS⟩
        exact kz_vret F (c19, f20, f21, f24) hdy (⟨by exact hn3, by exact ef24, trivial⟩) zd_D_end_87
      · have hc31 : ¬ 16 ≤ k27 := fun h9 => hc31 ((nI_leI (by omega) (by omega)).mpr h9)
        refine lv_aload_n hx hb zd_D_end_34 rfl (lv_at hl 2 rfl) ?_
        refine va_get (D := (dC, dI)) (ci := 3) (v := .int (nI (c11))) (C := zR_D) (T := zT_D) (N := 3) hx hb hts (fun w h => kz_c (zi_D w h)) hown hK hdy.1 0 rfl rfl 2 (by decide) (hts _ (kz_c mw_121)) (fun _ h9 => h9) rfl zd_D_end_35 ?_
        refine lv_bipush (v := (nI (16))) hx hb zd_D_end_38 (by decide) ?_
        refine kz_irem hx hb zd_D_end_40 (by decide) (pk_rem (by omega) (by omega) (by omega)) ?_
        refine lv_bipush (v := (nI (14))) hx hb zd_D_end_41 (by decide) ?_
        refine lv_icmp_eq (tgt := 57) hx hb zd_D_end_43 (by decide) (fun hc43 => ?_) (fun hc43 => ?_)
        · have hc43 : (c11 % 16) = 14 := (kx_nIeq (by omega) (by omega)).mp hc43
          have h13 : k27 = 13 := (by omega)
          rw [h13] at hn
          refine lv_aload_n hx hb zd_D_end_57 rfl (lv_at hl 2 rfl) ?_
          refine lv_lload hx hb zd_D_end_58 (lv_at hl 1 rfl) ?_
          refine lv_bipush (v := (nI (32))) hx hb zd_D_end_60 (by decide) ?_
          refine lv_lushr hx hb zd_D_end_62 (kz_lz_ushr32 (z := (((n4 : Nat) : Int))) (by omega) (by omega)) ?_
          refine lv_l2i hx hb zd_D_end_63 (kz_lz_i32 ((((n4 : Nat) : Int)) / 4294967296)) ?_
          refine kz_callv (wk := [(o, .inl (cI, 8, .inl go))]) (va_runV (As := [.int (nI ((((((n4 : Nat) : Int)) / 4294967296) % 4294967296).toNat))]) (rest := []) ⟨hx, hb, hml, hown, hts⟩ (c_S_putWord l dC dI cI cAA cB cL h su ro roots c11 f12 f13 groots ((nI ((((((n4 : Nat) : Int)) / 4294967296) % 4294967296).toNat))) _ (by first | omega | assumption)) (cwV 1 hts (kz_g (kz_mc mw_310 (kz_mc mw_312 (kz_mc mw_13 (kz_mc mw_42 kz_mn)))) mw_313) rfl rfl rfl (by decide +kernel) ⟨Nat.le_of_ble_eq_true rfl, Nat.le_of_ble_eq_true rfl⟩) (kz_preV hdy hA hK hro hZ hN [0, 1, 2] (by decide) rfl [(true, 0)] rfl (by decide) [0, 1, 2, 3] rfl (fun _ h => h) (fun _ h => by cases h) rfl (ci := 3) (q0 := 0) rfl rfl rfl) rfl rfl hl.1 rfl (lv_room (Nat.le_of_ble_eq_true rfl)) zd_D_end_64 ⟨Nat.le_of_ble_eq_true rfl, Nat.le_of_ble_eq_true rfl⟩) hdy hA [0, 1, 2] [3] rfl rfl (by decide) (by decide) (fun u H locs hw hdy => ?_)
          obtain ⟨c25, f26, f27⟩ := u
          try dsimp only at hw
          obtain ⟨q28, q29, -⟩ := hw
          have hdy : kz_dy (dC, dI) vwCl A s.heap H locs [(h, .inr (3, [.ref su, .ref ro, .int (nI (c25))])), (su, .inl (cI, 8, .inl f26)), (ro, .inl (cI, 64, .inl f27)), (o, .inl (cI, 8, .inl go))] := hdy.sub [1, 2, 3, 0] (by decide) rfl
          have hn2 := q29.trans (kd_nStep (n := 14) hn (by omega) (by have h7 : (((((n4 : Nat) : Int)) / 4294967296) % 4294967296).toNat = 0 := (by omega); rw [h7]; rfl))
          refine lv_aload_n hx hb zd_D_end_67 rfl (lv_at hl 2 rfl) ?_
          refine lv_lload hx hb zd_D_end_68 (lv_at hl 1 rfl) ?_
          refine lv_l2i hx hb zd_D_end_70 (kz_lz_i32 (((n4 : Nat) : Int))) ?_
          refine kz_callv (wk := [(o, .inl (cI, 8, .inl go))]) (va_runV (As := [.int (nI (((((n4 : Nat) : Int)) % 4294967296).toNat))]) (rest := []) ⟨hx, hb, hml, hown, hts⟩ (c_S_putWord l dC dI cI cAA cB cL h su ro roots c25 f26 f27 groots ((nI (((((n4 : Nat) : Int)) % 4294967296).toNat))) _ (by first | omega | assumption)) (cwV 1 hts (kz_g (kz_mc mw_310 (kz_mc mw_312 (kz_mc mw_13 (kz_mc mw_42 kz_mn)))) mw_313) rfl rfl rfl (by decide +kernel) ⟨Nat.le_of_ble_eq_true rfl, Nat.le_of_ble_eq_true rfl⟩) (kz_preV hdy hA hK hro hZ hN [0, 1, 2] (by decide) rfl [(true, 0)] rfl (by decide) [0, 1, 2, 3] rfl (fun _ h => h) (fun _ h => by cases h) rfl (ci := 3) (q0 := 0) rfl rfl rfl) rfl rfl hl.1 rfl (lv_room (Nat.le_of_ble_eq_true rfl)) zd_D_end_71 ⟨Nat.le_of_ble_eq_true rfl, Nat.le_of_ble_eq_true rfl⟩) hdy hA [0, 1, 2] [3] rfl rfl (by decide) (by decide) (fun u H locs hw hdy => ?_)
          obtain ⟨c30, f31, f32⟩ := u
          try dsimp only at hw
          obtain ⟨q33, q34, -⟩ := hw
          have hdy : kz_dy (dC, dI) vwCl A s.heap H locs [(h, .inr (3, [.ref su, .ref ro, .int (nI (c30))])), (su, .inl (cI, 8, .inl f31)), (ro, .inl (cI, 64, .inl f32)), (o, .inl (cI, 8, .inl go))] := hdy.sub [1, 2, 3, 0] (by decide) rfl
          have hn3 := q34.trans (kd_nStep (n := 15) hn2 (by omega) (by have h7 : ((((n4 : Nat) : Int)) % 4294967296).toNat = 1536 := (by omega); rw [h7]; rfl))
          refine lv_aload_n hx hb zd_D_end_74 rfl (lv_at hl 2 rfl) ?_
          refine va_get (D := (dC, dI)) (ci := 3) (v := .ref su) (C := zR_D) (T := zT_D) (N := 3) hx hb hts (fun w h => kz_c (zi_D w h)) hown hK hdy.1 0 rfl rfl 0 (by decide) (hts _ (kz_c mw_119)) (fun _ h9 => h9) rfl zd_D_end_75 ?_
          refine lv_iconst (v := (nI (0))) hx hb zd_D_end_78 (by decide) ?_
          refine lv_aload_n hx hb zd_D_end_79 rfl (lv_at hl 5 rfl) ?_
          refine lv_iload hx hb zd_D_end_80 (lv_at hl 6 rfl) ?_
          refine lv_bipush (v := (nI (8))) hx hb zd_D_end_82 (by decide) ?_
          refine va_copyi hx hb (hml.trans hl.1.symm) hown (hts _ (kz_c mw_333)) (hts _ (kz_c mw_214)) (hts _ (kz_c mw_213)) (hts _ (kz_c mw_51)) hK hdy.1 hdy.2.1 hdy.2.2 1 3 0 0 rfl rfl rfl rfl rfl (nI_pos (by omega)) (nI_pos (by omega)) (nI_pos (by omega)) (by (repeat rw [nI_clamp (by omega)]) <;> omega) (by (repeat rw [nI_clamp (by omega)]) <;> omega) (fun _ _ => rfl) (Nat.le_of_ble_eq_true rfl) (Nat.le_of_ble_eq_true rfl) zd_D_end_84 (fun H locs hP hD hS => ?_)
          rw [show (nI (0)).toNatClampNeg = 0 from nI_clamp (by omega), show (nI (8)).toNatClampNeg = 8 from nI_clamp (by omega)] at hP hD
          obtain ⟨f35, ef35, hdy⟩ : ∃ f35 : Nat → Int32, f35 = va_cpy f31 go 0 0 8 ∧ kz_dy (dC, dI) vwCl A s.heap H locs [(h, .inr (3, [.ref su, .ref ro, .int (nI (c30))])), (su, .inl (cI, 8, .inl f31)), (ro, .inl (cI, 64, .inl f32)), (o, .inl (cI, 8, .inl f35))] := ⟨_, rfl, hP, hD, hS⟩
          exact kz_vret F (c30, f31, f32, f35) hdy (⟨by exact hn3, by exact ef35, trivial⟩) zd_D_end_87
        · have hc43 : ¬ (c11 % 16) = 14 := fun h9 => hc43 ((kx_nIeq (by omega) (by omega)).mpr h9)
          refine lv_aload_n hx hb zd_D_end_46 rfl (lv_at hl 2 rfl) ?_
          refine lv_iconst (v := (nI (0))) hx hb zd_D_end_47 (by decide) ?_
          refine kz_callv (wk := [(o, .inl (cI, 8, .inl go))]) (va_runV (As := [.int (nI (0))]) (rest := []) ⟨hx, hb, hml, hown, hts⟩ (c_S_putWord l dC dI cI cAA cB cL h su ro roots c11 f12 f13 groots ((nI (0))) _ (by first | omega | assumption)) (cwV 1 hts (kz_g (kz_mc mw_310 (kz_mc mw_312 (kz_mc mw_13 (kz_mc mw_42 kz_mn)))) mw_313) rfl rfl rfl (by decide +kernel) ⟨Nat.le_of_ble_eq_true rfl, Nat.le_of_ble_eq_true rfl⟩) (kz_preV hdy hA hK hro hZ hN [0, 1, 2] (by decide) rfl [(true, 0)] rfl (by decide) [0, 1, 2, 3] rfl (fun _ h => h) (fun _ h => by cases h) rfl (ci := 3) (q0 := 0) rfl rfl rfl) rfl rfl hl.1 rfl (lv_room (Nat.le_of_ble_eq_true rfl)) zd_D_end_48 ⟨Nat.le_of_ble_eq_true rfl, Nat.le_of_ble_eq_true rfl⟩) hdy hA [0, 1, 2] [3] rfl rfl (by decide) (by decide) (fun u H locs hw hdy => ?_)
          obtain ⟨c36, f37, f38⟩ := u
          try dsimp only at hw
          obtain ⟨q39, q40, -⟩ := hw
          have hdy : kz_dy (dC, dI) vwCl A s.heap H locs [(h, .inr (3, [.ref su, .ref ro, .int (nI (c36))])), (su, .inl (cI, 8, .inl f37)), (ro, .inl (cI, 64, .inl f38)), (o, .inl (cI, 8, .inl go))] := hdy.sub [1, 2, 3, 0] (by decide) rfl
          refine lv_iinc (v := (nI (k27 + 1))) (lv' := [(7, .int (nI (k27 + 1))), (5, .long (kz_lz (((n4 : Nat) : Int)))), (0, .ref h), (1, .int (nI (0))), (2, .int (nI (0))), (3, .ref o), (4, .int (nI (0)))]) hx hb zd_D_end_51 hl (k := 0) rfl (nI_1 _) (by decide) rfl (fun ls hl => ?_)
          refine lv_goto (tgt := 27) hx hb zd_D_end_54 (by decide) ?_
          have hi9_hk1341 : k27 + 1 ≤ 13 := by omega
          have hi9_hn42 : (f37, f38) = kd_n groots gsu gro ct kd_wh (1 + (k27 + 1)) := by exact q40.trans (kd_nStep (n := 1 + k27) hn (by omega) (kd_ef0 (by omega) (by omega)))
          exact ih27 (k27 + 1) c36 f37 f38 _ _ _ (by omega) (by omega) (by omega) hi9_hk1341 hi9_hn42 hdy (lv_sub hl [0, 1, 2, 3, 4, 5, 6] rfl)
  have hi9_hk1343 : 0 ≤ 13 := by omega
  have hi9_hn44 : (f7, f8) = kd_n groots gsu gro ct kd_wh (1 + (0)) := by exact q10.trans (kd_nStep (n := 0) rfl (by omega) (by first | rfl | decide))
  exact lp27 (16 - 0 + 1) 0 c6 f7 f8 _ _ _ (by omega) (by omega) (by omega) hi9_hk1343 hi9_hn44 hdy (lv_sub hl [0, 1, 2, 3, 4, 5, 6] rfl)

set_option maxHeartbeats 4000000 in
set_option maxRecDepth 100000 in
/-- KeyMeeting$Digest.end(II[II)V -/
theorem c_S_endK (l : Launch) (dC : Nat → ClassId) (dI : Nat → Nat → Nat) (cI cAA cB cL : ClassId) (h su ro o roots : Nat) (ct : Nat) (gsu : Nat → Int32) (gro : Nat → Int32) (go : Nat → Int32) (groots : Nat → Int32) (v : Int32) (at_ : Nat) (sz : Nat) (hct : ct = 16) (hat : at_ ≤ 8) : Met l zy_D_end zw_D_end { frames := 4, cells := 0, slots := 0, locals := 98 } (kz_Pc (dC, dI) vwCl [(cI, .int), (cAA, .array .int), (cB, .byte), (cL, .long)] [("KeyMeeting$Digest", "ROOTS", "[I", .ref roots)] [] [.ref h, .int v, .int (nI (8)), .ref o, .int (nI (at_))] [(h, .inr (3, [.ref su, .ref ro, .int (nI (ct))])), (su, .inl (cI, 8, .inl gsu)), (ro, .inl (cI, 64, .inl gro)), (o, .inl (cI, 16, .inl go))] [(roots, .inl (cI, 64, .inl groots))] sz) (va_Qv (fun (u : Nat × (Nat → Int32) × (Nat → Int32) × (Nat → Int32)) => ((u.2.1, u.2.2.1) = kd_n groots gsu gro ct (kd_ef (v ||| kd_us (-2147483648) (nI 8)) (nI 0) (nI 520)) 16) ∧ (u.2.2.2 = va_cpy u.2.1 go 0 at_ 8) ∧ True) (kz_B (dC, dI) vwCl (va_A [(h, .inr (3, [.ref su, .ref ro, .int (nI (ct))])), (su, .inl (cI, 8, .inl gsu)), (ro, .inl (cI, 64, .inl gro)), (o, .inl (cI, 16, .inl go))] sz) (fun u : Nat × (Nat → Int32) × (Nat → Int32) × (Nat → Int32) => [(h, .inr (3, [.ref su, .ref ro, .int (nI (u.1))])), (su, .inl (cI, 8, .inl u.2.1)), (ro, .inl (cI, 64, .inl u.2.2.1)), (o, .inl (cI, 16, .inl u.2.2.2))])) (va_A [(h, .inr (3, [.ref su, .ref ro, .int (nI (ct))])), (su, .inl (cI, 8, .inl gsu)), (ro, .inl (cI, 64, .inl gro)), (o, .inl (cI, 16, .inl go))] sz)) 0 0 (va_A [(h, .inr (3, [.ref su, .ref ro, .int (nI (ct))])), (su, .inl (cI, 8, .inl gsu)), (ro, .inl (cI, 64, .inl gro)), (o, .inl (cI, 16, .inl go))] sz) := by
  refine kz_met (y := zy_D_end) (ws := zw_D_end) (av := [.ref h, .int v, .int (nI (8)), .ref o, .int (nI (at_))]) (sz := sz) (Qc := fun A => va_Qv (fun (u : Nat × (Nat → Int32) × (Nat → Int32) × (Nat → Int32)) => ((u.2.1, u.2.2.1) = kd_n groots gsu gro ct (kd_ef (v ||| kd_us (-2147483648) (nI 8)) (nI 0) (nI 520)) 16) ∧ (u.2.2.2 = va_cpy u.2.1 go 0 at_ 8) ∧ True) (kz_B (dC, dI) vwCl A (fun u : Nat × (Nat → Int32) × (Nat → Int32) × (Nat → Int32) => [(h, .inr (3, [.ref su, .ref ro, .int (nI (u.1))])), (su, .inl (cI, 8, .inl u.2.1)), (ro, .inl (cI, 64, .inl u.2.2.1)), (o, .inl (cI, 16, .inl u.2.2.2))])) A) (cc := zc_D_end) (maxL := 8) (ret := none) (by decide) rfl (Nat.le_of_ble_eq_true rfl) ?_
  intro p e s m below meth c A ls F hA hdy hK hro hZ hN hl
  obtain ⟨hx, hb, hml, hr, hown, hlocks, hts, hnm⟩ := id F
  have hl : lv_has ls 8 [(0, .ref h), (1, .int v), (2, .int (nI (8))), (3, .ref o), (4, .int (nI (at_)))] := hl
  refine lv_ldc2 (v := (32)) hx hb hown (hts _ (kz_c mw_331)) zd_D_end_0 ?_
  refine lv_topl (fun yl1 h9 => ?_)
  obtain rfl : yl1 = kz_lz (32) := h9.trans (kz_lz_c32)
  refine lv_aload_n hx hb zd_D_end_3 rfl (lv_at hl 0 rfl) ?_
  refine va_get (D := (dC, dI)) (ci := 3) (v := .int (nI (ct))) (C := zR_D) (T := zT_D) (N := 3) hx hb hts (fun w h => kz_c (zi_D w h)) hown hK hdy.1 0 rfl rfl 2 (by decide) (hts _ (kz_c mw_121)) (fun _ h9 => h9) rfl zd_D_end_4 ?_
  refine lv_i2l hx hb zd_D_end_7 (kz_lz_i (n := ct) (by omega)) ?_
  refine lv_lmul hx hb zd_D_end_8 ?_
  refine lv_topl (fun yl2 h9 => ?_)
  obtain rfl : yl2 = kz_lz (32 * (((ct : Nat) : Int))) := h9.trans (kz_lz_mul _ _)
  refine lv_iload_n hx hb zd_D_end_9 rfl (lv_at hl 2 rfl) ?_
  refine lv_i2l hx hb zd_D_end_10 (kz_lz_i (n := 8) (by omega)) ?_
  refine lv_ladd hx hb zd_D_end_11 ?_
  refine lv_topl (fun yl3 h9 => ?_)
  obtain rfl : yl3 = kz_lz ((32 * (((ct : Nat) : Int))) + (((8 : Nat) : Int))) := h9.trans (kz_lz_add _ _)
  refine lv_topl (fun yl5 h9 => ?_)
  obtain ⟨n4, en4, rfl⟩ := kz_toN (e := (32 * (((ct : Nat) : Int))) + (((8 : Nat) : Int))) h9 (by omega)
  refine lv_lstore (lv' := [(5, .long (kz_lz (((n4 : Nat) : Int)))), (0, .ref h), (1, .int v), (2, .int (nI (8))), (3, .ref o), (4, .int (nI (at_)))]) hx hb zd_D_end_12 hl (by decide) rfl (fun ls hl => ?_)
  refine lv_aload_n hx hb zd_D_end_14 rfl (lv_at hl 1 rfl) ?_
  refine lv_iload_n hx hb zd_D_end_15 rfl (lv_at hl 2 rfl) ?_
  refine lv_ldc (v := (-2147483648)) hx hb hown (hts _ (kz_c mw_332)) zd_D_end_16 ?_
  refine lv_iload_n hx hb zd_D_end_18 rfl (lv_at hl 3 rfl) ?_
  refine lv_iushr (v := kd_us (-2147483648) (nI (8))) hx hb zd_D_end_19 rfl ?_
  refine lv_ior hx hb zd_D_end_20 ?_
  refine kz_callv (wk := [(o, .inl (cI, 16, .inl go))]) (va_runV (As := [.int (v ||| (kd_us (-2147483648) (nI (8))))]) (rest := []) ⟨hx, hb, hml, hown, hts⟩ (c_S_putWord l dC dI cI cAA cB cL h su ro roots ct gsu gro groots ((v ||| (kd_us (-2147483648) (nI (8))))) _ (by first | omega | assumption)) (cwV 1 hts (kz_g (kz_mc mw_310 (kz_mc mw_312 (kz_mc mw_13 (kz_mc mw_42 kz_mn)))) mw_313) rfl rfl rfl (by decide +kernel) ⟨Nat.le_of_ble_eq_true rfl, Nat.le_of_ble_eq_true rfl⟩) (kz_preV hdy hA hK hro hZ hN [0, 1, 2] (by decide) rfl [(true, 0)] rfl (by decide) [0, 1, 2, 3] rfl (fun _ h => h) (fun _ h => by cases h) rfl (ci := 3) (q0 := 0) rfl rfl rfl) rfl rfl hl.1 rfl (lv_room (Nat.le_of_ble_eq_true rfl)) zd_D_end_21 ⟨Nat.le_of_ble_eq_true rfl, Nat.le_of_ble_eq_true rfl⟩) hdy hA [0, 1, 2] [3] rfl rfl (by decide) (by decide) (fun u H locs hw hdy => ?_)
  obtain ⟨c6, f7, f8⟩ := u
  try dsimp only at hw
  obtain ⟨q9, q10, -⟩ := hw
  have hdy : kz_dy (dC, dI) vwCl A s.heap H locs [(h, .inr (3, [.ref su, .ref ro, .int (nI (c6))])), (su, .inl (cI, 8, .inl f7)), (ro, .inl (cI, 64, .inl f8)), (o, .inl (cI, 16, .inl go))] := hdy.sub [1, 2, 3, 0] (by decide) rfl
  refine lv_iconst (v := (nI (0))) hx hb zd_D_end_24 (by decide) ?_
  refine lv_istore (lv' := [(7, .int (nI (0))), (5, .long (kz_lz (((n4 : Nat) : Int)))), (0, .ref h), (1, .int v), (2, .int (nI (8))), (3, .ref o), (4, .int (nI (at_)))]) hx hb zd_D_end_25 hl (by decide) rfl (fun ls hl => ?_)
  have lp27 : ∀ (n27 k27 : Nat) (c11 : Nat) (f12 : Nat → Int32) (f13 : Nat → Int32) (H : Heap) (locs : List Loc) (ls : Array Slot), k27 ≤ 16 → 16 - k27 < n27 → c11 = ct + 1 + k27 → (k27 ≤ 13) → ((f12, f13) = kd_n groots gsu gro ct (kd_ef (v ||| kd_us (-2147483648) (nI 8)) (nI 0) (nI 520)) (1 + (k27))) → kz_dy (dC, dI) vwCl A s.heap H locs [(h, .inr (3, [.ref su, .ref ro, .int (nI (c11))])), (su, .inl (cI, 8, .inl f12)), (ro, .inl (cI, 64, .inl f13)), (o, .inl (cI, 16, .inl go))] → lv_has ls 8 [(7, .int (nI (k27))), (5, .long (kz_lz (((n4 : Nat) : Int)))), (0, .ref h), (1, .int v), (2, .int (nI (8))), (3, .ref o), (4, .int (nI (at_)))] → W p l e { frames := 4, cells := 0, slots := 0, locals := 98 } s m ([.ref h, .int v, .int (nI (8)), .ref o, .int (nI (at_))] : List Value).toArray below meth c H locs 0 0 (MQ below (va_Qv (fun (u : Nat × (Nat → Int32) × (Nat → Int32) × (Nat → Int32)) => ((u.2.1, u.2.2.1) = kd_n groots gsu gro ct (kd_ef (v ||| kd_us (-2147483648) (nI 8)) (nI 0) (nI 520)) 16) ∧ (u.2.2.2 = va_cpy u.2.1 go 0 at_ 8) ∧ True) (kz_B (dC, dI) vwCl A (fun u : Nat × (Nat → Int32) × (Nat → Int32) × (Nat → Int32) => [(h, .inr (3, [.ref su, .ref ro, .int (nI (u.1))])), (su, .inl (cI, 8, .inl u.2.1)), (ro, .inl (cI, 64, .inl u.2.2.1)), (o, .inl (cI, 16, .inl u.2.2.2))])) A) ([.ref h, .int v, .int (nI (8)), .ref o, .int (nI (at_))] : List Value).toArray s 0 0 A) (F0 m 27 ls []) := by
    intro n27
    induction n27 with
    | zero => intro k27; intros; omega
    | succ n27 ih27 =>
      intro k27 c11 f12 f13 H locs ls hi27 hn27 hbc11 hk13 hn hdy hl
      refine lv_iload hx hb zd_D_end_27 (lv_at hl 0 rfl) ?_
      refine lv_bipush (v := (nI (16))) hx hb zd_D_end_29 (by decide) ?_
      refine lv_icmp_ge (tgt := 57) hx hb zd_D_end_31 (by decide) (fun hc31 => ?_) (fun hc31 => ?_)
      · have hc31 : 16 ≤ k27 := (nI_leI (by omega) (by omega)).mp hc31
        have h13 : k27 = 13 := (by omega)
        rw [h13] at hn
        refine lv_aload_n hx hb zd_D_end_57 rfl (lv_at hl 2 rfl) ?_
        refine lv_lload hx hb zd_D_end_58 (lv_at hl 1 rfl) ?_
        refine lv_bipush (v := (nI (32))) hx hb zd_D_end_60 (by decide) ?_
        refine lv_lushr hx hb zd_D_end_62 (kz_lz_ushr32 (z := (((n4 : Nat) : Int))) (by omega) (by omega)) ?_
        refine lv_l2i hx hb zd_D_end_63 (kz_lz_i32 ((((n4 : Nat) : Int)) / 4294967296)) ?_
        refine kz_callv (wk := [(o, .inl (cI, 16, .inl go))]) (va_runV (As := [.int (nI ((((((n4 : Nat) : Int)) / 4294967296) % 4294967296).toNat))]) (rest := []) ⟨hx, hb, hml, hown, hts⟩ (c_S_putWord l dC dI cI cAA cB cL h su ro roots c11 f12 f13 groots ((nI ((((((n4 : Nat) : Int)) / 4294967296) % 4294967296).toNat))) _ (by first | omega | assumption)) (cwV 1 hts (kz_g (kz_mc mw_310 (kz_mc mw_312 (kz_mc mw_13 (kz_mc mw_42 kz_mn)))) mw_313) rfl rfl rfl (by decide +kernel) ⟨Nat.le_of_ble_eq_true rfl, Nat.le_of_ble_eq_true rfl⟩) (kz_preV hdy hA hK hro hZ hN [0, 1, 2] (by decide) rfl [(true, 0)] rfl (by decide) [0, 1, 2, 3] rfl (fun _ h => h) (fun _ h => by cases h) rfl (ci := 3) (q0 := 0) rfl rfl rfl) rfl rfl hl.1 rfl (lv_room (Nat.le_of_ble_eq_true rfl)) zd_D_end_64 ⟨Nat.le_of_ble_eq_true rfl, Nat.le_of_ble_eq_true rfl⟩) hdy hA [0, 1, 2] [3] rfl rfl (by decide) (by decide) (fun u H locs hw hdy => ?_)
        obtain ⟨c14, f15, f16⟩ := u
        try dsimp only at hw
        obtain ⟨q17, q18, -⟩ := hw
        have hdy : kz_dy (dC, dI) vwCl A s.heap H locs [(h, .inr (3, [.ref su, .ref ro, .int (nI (c14))])), (su, .inl (cI, 8, .inl f15)), (ro, .inl (cI, 64, .inl f16)), (o, .inl (cI, 16, .inl go))] := hdy.sub [1, 2, 3, 0] (by decide) rfl
        have hn2 := q18.trans (kd_nStep (n := 14) hn (by omega) (by have h7 : (((((n4 : Nat) : Int)) / 4294967296) % 4294967296).toNat = 0 := (by omega); rw [h7]; rfl))
        refine lv_aload_n hx hb zd_D_end_67 rfl (lv_at hl 2 rfl) ?_
        refine lv_lload hx hb zd_D_end_68 (lv_at hl 1 rfl) ?_
        refine lv_l2i hx hb zd_D_end_70 (kz_lz_i32 (((n4 : Nat) : Int))) ?_
        refine kz_callv (wk := [(o, .inl (cI, 16, .inl go))]) (va_runV (As := [.int (nI (((((n4 : Nat) : Int)) % 4294967296).toNat))]) (rest := []) ⟨hx, hb, hml, hown, hts⟩ (c_S_putWord l dC dI cI cAA cB cL h su ro roots c14 f15 f16 groots ((nI (((((n4 : Nat) : Int)) % 4294967296).toNat))) _ (by first | omega | assumption)) (cwV 1 hts (kz_g (kz_mc mw_310 (kz_mc mw_312 (kz_mc mw_13 (kz_mc mw_42 kz_mn)))) mw_313) rfl rfl rfl (by decide +kernel) ⟨Nat.le_of_ble_eq_true rfl, Nat.le_of_ble_eq_true rfl⟩) (kz_preV hdy hA hK hro hZ hN [0, 1, 2] (by decide) rfl [(true, 0)] rfl (by decide) [0, 1, 2, 3] rfl (fun _ h => h) (fun _ h => by cases h) rfl (ci := 3) (q0 := 0) rfl rfl rfl) rfl rfl hl.1 rfl (lv_room (Nat.le_of_ble_eq_true rfl)) zd_D_end_71 ⟨Nat.le_of_ble_eq_true rfl, Nat.le_of_ble_eq_true rfl⟩) hdy hA [0, 1, 2] [3] rfl rfl (by decide) (by decide) (fun u H locs hw hdy => ?_)
        obtain ⟨c19, f20, f21⟩ := u
        try dsimp only at hw
        obtain ⟨q22, q23, -⟩ := hw
        have hdy : kz_dy (dC, dI) vwCl A s.heap H locs [(h, .inr (3, [.ref su, .ref ro, .int (nI (c19))])), (su, .inl (cI, 8, .inl f20)), (ro, .inl (cI, 64, .inl f21)), (o, .inl (cI, 16, .inl go))] := hdy.sub [1, 2, 3, 0] (by decide) rfl
        have hn3 := q23.trans (kd_nStep (n := 15) hn2 (by omega) (by have h7 : ((((n4 : Nat) : Int)) % 4294967296).toNat = 520 := (by omega); rw [h7]; rfl))
        refine lv_aload_n hx hb zd_D_end_74 rfl (lv_at hl 2 rfl) ?_
        refine va_get (D := (dC, dI)) (ci := 3) (v := .ref su) (C := zR_D) (T := zT_D) (N := 3) hx hb hts (fun w h => kz_c (zi_D w h)) hown hK hdy.1 0 rfl rfl 0 (by decide) (hts _ (kz_c mw_119)) (fun _ h9 => h9) rfl zd_D_end_75 ?_
        refine lv_iconst (v := (nI (0))) hx hb zd_D_end_78 (by decide) ?_
        refine lv_aload_n hx hb zd_D_end_79 rfl (lv_at hl 5 rfl) ?_
        refine lv_iload hx hb zd_D_end_80 (lv_at hl 6 rfl) ?_
        refine lv_bipush (v := (nI (8))) hx hb zd_D_end_82 (by decide) ?_
        refine va_copyi hx hb (hml.trans hl.1.symm) hown (hts _ (kz_c mw_333)) (hts _ (kz_c mw_214)) (hts _ (kz_c mw_213)) (hts _ (kz_c mw_51)) hK hdy.1 hdy.2.1 hdy.2.2 1 3 0 0 rfl rfl rfl rfl rfl (nI_pos (by omega)) (nI_pos (by omega)) (nI_pos (by omega)) (by (repeat rw [nI_clamp (by omega)]) <;> omega) (by (repeat rw [nI_clamp (by omega)]) <;> omega) (fun _ _ => rfl) (Nat.le_of_ble_eq_true rfl) (Nat.le_of_ble_eq_true rfl) zd_D_end_84 (fun H locs hP hD hS => ?_)
        rw [show (nI (0)).toNatClampNeg = 0 from nI_clamp (by omega), show (nI (at_)).toNatClampNeg = at_ from nI_clamp (by omega), show (nI (8)).toNatClampNeg = 8 from nI_clamp (by omega)] at hP hD
        obtain ⟨f24, ef24, hdy⟩ : ∃ f24 : Nat → Int32, f24 = va_cpy f20 go 0 at_ 8 ∧ kz_dy (dC, dI) vwCl A s.heap H locs [(h, .inr (3, [.ref su, .ref ro, .int (nI (c19))])), (su, .inl (cI, 8, .inl f20)), (ro, .inl (cI, 64, .inl f21)), (o, .inl (cI, 16, .inl f24))] := ⟨_, rfl, hP, hD, hS⟩
        exact kz_vret F (c19, f20, f21, f24) hdy (⟨by exact hn3, by exact ef24, trivial⟩) zd_D_end_87
      · have hc31 : ¬ 16 ≤ k27 := fun h9 => hc31 ((nI_leI (by omega) (by omega)).mpr h9)
        refine lv_aload_n hx hb zd_D_end_34 rfl (lv_at hl 2 rfl) ?_
        refine va_get (D := (dC, dI)) (ci := 3) (v := .int (nI (c11))) (C := zR_D) (T := zT_D) (N := 3) hx hb hts (fun w h => kz_c (zi_D w h)) hown hK hdy.1 0 rfl rfl 2 (by decide) (hts _ (kz_c mw_121)) (fun _ h9 => h9) rfl zd_D_end_35 ?_
        refine lv_bipush (v := (nI (16))) hx hb zd_D_end_38 (by decide) ?_
        refine kz_irem hx hb zd_D_end_40 (by decide) (pk_rem (by omega) (by omega) (by omega)) ?_
        refine lv_bipush (v := (nI (14))) hx hb zd_D_end_41 (by decide) ?_
        refine lv_icmp_eq (tgt := 57) hx hb zd_D_end_43 (by decide) (fun hc43 => ?_) (fun hc43 => ?_)
        · have hc43 : (c11 % 16) = 14 := (kx_nIeq (by omega) (by omega)).mp hc43
          have h13 : k27 = 13 := (by omega)
          rw [h13] at hn
          refine lv_aload_n hx hb zd_D_end_57 rfl (lv_at hl 2 rfl) ?_
          refine lv_lload hx hb zd_D_end_58 (lv_at hl 1 rfl) ?_
          refine lv_bipush (v := (nI (32))) hx hb zd_D_end_60 (by decide) ?_
          refine lv_lushr hx hb zd_D_end_62 (kz_lz_ushr32 (z := (((n4 : Nat) : Int))) (by omega) (by omega)) ?_
          refine lv_l2i hx hb zd_D_end_63 (kz_lz_i32 ((((n4 : Nat) : Int)) / 4294967296)) ?_
          refine kz_callv (wk := [(o, .inl (cI, 16, .inl go))]) (va_runV (As := [.int (nI ((((((n4 : Nat) : Int)) / 4294967296) % 4294967296).toNat))]) (rest := []) ⟨hx, hb, hml, hown, hts⟩ (c_S_putWord l dC dI cI cAA cB cL h su ro roots c11 f12 f13 groots ((nI ((((((n4 : Nat) : Int)) / 4294967296) % 4294967296).toNat))) _ (by first | omega | assumption)) (cwV 1 hts (kz_g (kz_mc mw_310 (kz_mc mw_312 (kz_mc mw_13 (kz_mc mw_42 kz_mn)))) mw_313) rfl rfl rfl (by decide +kernel) ⟨Nat.le_of_ble_eq_true rfl, Nat.le_of_ble_eq_true rfl⟩) (kz_preV hdy hA hK hro hZ hN [0, 1, 2] (by decide) rfl [(true, 0)] rfl (by decide) [0, 1, 2, 3] rfl (fun _ h => h) (fun _ h => by cases h) rfl (ci := 3) (q0 := 0) rfl rfl rfl) rfl rfl hl.1 rfl (lv_room (Nat.le_of_ble_eq_true rfl)) zd_D_end_64 ⟨Nat.le_of_ble_eq_true rfl, Nat.le_of_ble_eq_true rfl⟩) hdy hA [0, 1, 2] [3] rfl rfl (by decide) (by decide) (fun u H locs hw hdy => ?_)
          obtain ⟨c25, f26, f27⟩ := u
          try dsimp only at hw
          obtain ⟨q28, q29, -⟩ := hw
          have hdy : kz_dy (dC, dI) vwCl A s.heap H locs [(h, .inr (3, [.ref su, .ref ro, .int (nI (c25))])), (su, .inl (cI, 8, .inl f26)), (ro, .inl (cI, 64, .inl f27)), (o, .inl (cI, 16, .inl go))] := hdy.sub [1, 2, 3, 0] (by decide) rfl
          have hn2 := q29.trans (kd_nStep (n := 14) hn (by omega) (by have h7 : (((((n4 : Nat) : Int)) / 4294967296) % 4294967296).toNat = 0 := (by omega); rw [h7]; rfl))
          refine lv_aload_n hx hb zd_D_end_67 rfl (lv_at hl 2 rfl) ?_
          refine lv_lload hx hb zd_D_end_68 (lv_at hl 1 rfl) ?_
          refine lv_l2i hx hb zd_D_end_70 (kz_lz_i32 (((n4 : Nat) : Int))) ?_
          refine kz_callv (wk := [(o, .inl (cI, 16, .inl go))]) (va_runV (As := [.int (nI (((((n4 : Nat) : Int)) % 4294967296).toNat))]) (rest := []) ⟨hx, hb, hml, hown, hts⟩ (c_S_putWord l dC dI cI cAA cB cL h su ro roots c25 f26 f27 groots ((nI (((((n4 : Nat) : Int)) % 4294967296).toNat))) _ (by first | omega | assumption)) (cwV 1 hts (kz_g (kz_mc mw_310 (kz_mc mw_312 (kz_mc mw_13 (kz_mc mw_42 kz_mn)))) mw_313) rfl rfl rfl (by decide +kernel) ⟨Nat.le_of_ble_eq_true rfl, Nat.le_of_ble_eq_true rfl⟩) (kz_preV hdy hA hK hro hZ hN [0, 1, 2] (by decide) rfl [(true, 0)] rfl (by decide) [0, 1, 2, 3] rfl (fun _ h => h) (fun _ h => by cases h) rfl (ci := 3) (q0 := 0) rfl rfl rfl) rfl rfl hl.1 rfl (lv_room (Nat.le_of_ble_eq_true rfl)) zd_D_end_71 ⟨Nat.le_of_ble_eq_true rfl, Nat.le_of_ble_eq_true rfl⟩) hdy hA [0, 1, 2] [3] rfl rfl (by decide) (by decide) (fun u H locs hw hdy => ?_)
          obtain ⟨c30, f31, f32⟩ := u
          try dsimp only at hw
          obtain ⟨q33, q34, -⟩ := hw
          have hdy : kz_dy (dC, dI) vwCl A s.heap H locs [(h, .inr (3, [.ref su, .ref ro, .int (nI (c30))])), (su, .inl (cI, 8, .inl f31)), (ro, .inl (cI, 64, .inl f32)), (o, .inl (cI, 16, .inl go))] := hdy.sub [1, 2, 3, 0] (by decide) rfl
          have hn3 := q34.trans (kd_nStep (n := 15) hn2 (by omega) (by have h7 : ((((n4 : Nat) : Int)) % 4294967296).toNat = 520 := (by omega); rw [h7]; rfl))
          refine lv_aload_n hx hb zd_D_end_74 rfl (lv_at hl 2 rfl) ?_
          refine va_get (D := (dC, dI)) (ci := 3) (v := .ref su) (C := zR_D) (T := zT_D) (N := 3) hx hb hts (fun w h => kz_c (zi_D w h)) hown hK hdy.1 0 rfl rfl 0 (by decide) (hts _ (kz_c mw_119)) (fun _ h9 => h9) rfl zd_D_end_75 ?_
          refine lv_iconst (v := (nI (0))) hx hb zd_D_end_78 (by decide) ?_
          refine lv_aload_n hx hb zd_D_end_79 rfl (lv_at hl 5 rfl) ?_
          refine lv_iload hx hb zd_D_end_80 (lv_at hl 6 rfl) ?_
          refine lv_bipush (v := (nI (8))) hx hb zd_D_end_82 (by decide) ?_
          refine va_copyi hx hb (hml.trans hl.1.symm) hown (hts _ (kz_c mw_333)) (hts _ (kz_c mw_214)) (hts _ (kz_c mw_213)) (hts _ (kz_c mw_51)) hK hdy.1 hdy.2.1 hdy.2.2 1 3 0 0 rfl rfl rfl rfl rfl (nI_pos (by omega)) (nI_pos (by omega)) (nI_pos (by omega)) (by (repeat rw [nI_clamp (by omega)]) <;> omega) (by (repeat rw [nI_clamp (by omega)]) <;> omega) (fun _ _ => rfl) (Nat.le_of_ble_eq_true rfl) (Nat.le_of_ble_eq_true rfl) zd_D_end_84 (fun H locs hP hD hS => ?_)
          rw [show (nI (0)).toNatClampNeg = 0 from nI_clamp (by omega), show (nI (at_)).toNatClampNeg = at_ from nI_clamp (by omega), show (nI (8)).toNatClampNeg = 8 from nI_clamp (by omega)] at hP hD
          obtain ⟨f35, ef35, hdy⟩ : ∃ f35 : Nat → Int32, f35 = va_cpy f31 go 0 at_ 8 ∧ kz_dy (dC, dI) vwCl A s.heap H locs [(h, .inr (3, [.ref su, .ref ro, .int (nI (c30))])), (su, .inl (cI, 8, .inl f31)), (ro, .inl (cI, 64, .inl f32)), (o, .inl (cI, 16, .inl f35))] := ⟨_, rfl, hP, hD, hS⟩
          exact kz_vret F (c30, f31, f32, f35) hdy (⟨by exact hn3, by exact ef35, trivial⟩) zd_D_end_87
        · have hc43 : ¬ (c11 % 16) = 14 := fun h9 => hc43 ((kx_nIeq (by omega) (by omega)).mpr h9)
          refine lv_aload_n hx hb zd_D_end_46 rfl (lv_at hl 2 rfl) ?_
          refine lv_iconst (v := (nI (0))) hx hb zd_D_end_47 (by decide) ?_
          refine kz_callv (wk := [(o, .inl (cI, 16, .inl go))]) (va_runV (As := [.int (nI (0))]) (rest := []) ⟨hx, hb, hml, hown, hts⟩ (c_S_putWord l dC dI cI cAA cB cL h su ro roots c11 f12 f13 groots ((nI (0))) _ (by first | omega | assumption)) (cwV 1 hts (kz_g (kz_mc mw_310 (kz_mc mw_312 (kz_mc mw_13 (kz_mc mw_42 kz_mn)))) mw_313) rfl rfl rfl (by decide +kernel) ⟨Nat.le_of_ble_eq_true rfl, Nat.le_of_ble_eq_true rfl⟩) (kz_preV hdy hA hK hro hZ hN [0, 1, 2] (by decide) rfl [(true, 0)] rfl (by decide) [0, 1, 2, 3] rfl (fun _ h => h) (fun _ h => by cases h) rfl (ci := 3) (q0 := 0) rfl rfl rfl) rfl rfl hl.1 rfl (lv_room (Nat.le_of_ble_eq_true rfl)) zd_D_end_48 ⟨Nat.le_of_ble_eq_true rfl, Nat.le_of_ble_eq_true rfl⟩) hdy hA [0, 1, 2] [3] rfl rfl (by decide) (by decide) (fun u H locs hw hdy => ?_)
          obtain ⟨c36, f37, f38⟩ := u
          try dsimp only at hw
          obtain ⟨q39, q40, -⟩ := hw
          have hdy : kz_dy (dC, dI) vwCl A s.heap H locs [(h, .inr (3, [.ref su, .ref ro, .int (nI (c36))])), (su, .inl (cI, 8, .inl f37)), (ro, .inl (cI, 64, .inl f38)), (o, .inl (cI, 16, .inl go))] := hdy.sub [1, 2, 3, 0] (by decide) rfl
          refine lv_iinc (v := (nI (k27 + 1))) (lv' := [(7, .int (nI (k27 + 1))), (5, .long (kz_lz (((n4 : Nat) : Int)))), (0, .ref h), (1, .int v), (2, .int (nI (8))), (3, .ref o), (4, .int (nI (at_)))]) hx hb zd_D_end_51 hl (k := 0) rfl (nI_1 _) (by decide) rfl (fun ls hl => ?_)
          refine lv_goto (tgt := 27) hx hb zd_D_end_54 (by decide) ?_
          have hi9_hk1341 : k27 + 1 ≤ 13 := by omega
          have hi9_hn42 : (f37, f38) = kd_n groots gsu gro ct (kd_ef (v ||| kd_us (-2147483648) (nI 8)) (nI 0) (nI 520)) (1 + (k27 + 1)) := by exact q40.trans (kd_nStep (n := 1 + k27) hn (by omega) (kd_ef0 (by omega) (by omega)))
          exact ih27 (k27 + 1) c36 f37 f38 _ _ _ (by omega) (by omega) (by omega) hi9_hk1341 hi9_hn42 hdy (lv_sub hl [0, 1, 2, 3, 4, 5, 6] rfl)
  have hi9_hk1343 : 0 ≤ 13 := by omega
  have hi9_hn44 : (f7, f8) = kd_n groots gsu gro ct (kd_ef (v ||| kd_us (-2147483648) (nI 8)) (nI 0) (nI 520)) (1 + (0)) := by exact q10.trans (kd_nStep (n := 0) rfl (by omega) (by first | rfl | decide))
  exact lp27 (16 - 0 + 1) 0 c6 f7 f8 _ _ _ (by omega) (by omega) (by omega) hi9_hk1343 hi9_hn44 hdy (lv_sub hl [0, 1, 2, 3, 4, 5, 6] rfl)

