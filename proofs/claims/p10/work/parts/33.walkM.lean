set_option maxHeartbeats 4000000 in
set_option maxRecDepth 100000 in
/-- KeyMeeting$Modulus.take([I)V -/
theorem c_E_modTake (l : Launch) (dC : Nat → ClassId) (dI : Nat → Nat → Nat) (cI cAA cB cL : ClassId) (h qs qf qw ql qr a : Nat) (sh : Nat) (gqs : Nat → Nat) (ga : Nat → Nat) (sz : Nat) (hd_gqs : ∀ j, gqs j < 4294967296) (hd_ga : ∀ j, ga j < 4294967296) (h0 : 0 < kx_V 8 ga) : Met l zy_M_take zw_M_take { frames := 2, cells := 0, slots := 0, locals := 47 } (kz_Pc (dC, dI) vwCl [(cI, .int), (cAA, .array .int), (cB, .byte), (cL, .long)] [] [] [.ref h, .ref a] [(h, .inr (1, [.ref qs, .ref qf, .ref qw, .ref ql, .ref qr, .int (nI (sh))])), (qs, .inl (cI, 8, .inl (kz_dg gqs)))] [(a, .inl (cI, 8, .inl (kz_dg ga)))] sz) (va_Qv (fun (u : Nat × (Nat → Nat)) => (∀ j, u.2 j < 4294967296) ∧ (kx_isM u.2 u.1) ∧ (kx_md u.2 u.1 = kx_V 8 ga) ∧ True) (kz_B (dC, dI) vwCl (va_A [(h, .inr (1, [.ref qs, .ref qf, .ref qw, .ref ql, .ref qr, .int (nI (sh))])), (qs, .inl (cI, 8, .inl (kz_dg gqs)))] sz) (fun u : Nat × (Nat → Nat) => [(h, .inr (1, [.ref qs, .ref qf, .ref qw, .ref ql, .ref qr, .int (nI (u.1))])), (qs, .inl (cI, 8, .inl (kz_dg u.2)))])) (va_A [(h, .inr (1, [.ref qs, .ref qf, .ref qw, .ref ql, .ref qr, .int (nI (sh))])), (qs, .inl (cI, 8, .inl (kz_dg gqs)))] sz)) 0 0 (va_A [(h, .inr (1, [.ref qs, .ref qf, .ref qw, .ref ql, .ref qr, .int (nI (sh))])), (qs, .inl (cI, 8, .inl (kz_dg gqs)))] sz) := by
  refine kz_met (y := zy_M_take) (ws := zw_M_take) (av := [.ref h, .ref a]) (sz := sz) (Qc := fun A => va_Qv (fun (u : Nat × (Nat → Nat)) => (∀ j, u.2 j < 4294967296) ∧ (kx_isM u.2 u.1) ∧ (kx_md u.2 u.1 = kx_V 8 ga) ∧ True) (kz_B (dC, dI) vwCl A (fun u : Nat × (Nat → Nat) => [(h, .inr (1, [.ref qs, .ref qf, .ref qw, .ref ql, .ref qr, .int (nI (u.1))])), (qs, .inl (cI, 8, .inl (kz_dg u.2)))])) A) (cc := zc_M_take) (maxL := 2) (ret := none) (by decide) rfl (Nat.le_of_ble_eq_true rfl) ?_
  intro p e s m below meth c A ls F hA hdy hK hro hZ hN hl
  obtain ⟨hx, hb, hml, hr, hown, hlocks, hts, hnm⟩ := id F
  have hl : lv_has ls 2 [(0, .ref h), (1, .ref a)] := hl
  refine lv_aload_n hx hb zd_M_take_0 rfl (lv_at hl 0 rfl) ?_
  refine lv_aload_n hx hb zd_M_take_1 rfl (lv_at hl 1 rfl) ?_
  refine kz_calli (wk := [(h, .inr (1, [.ref qs, .ref qf, .ref qw, .ref ql, .ref qr, .int (nI (sh))])), (qs, .inl (cI, 8, .inl (kz_dg gqs)))]) (va_runS (As := [.ref a]) (rest := [.ref h]) ⟨hx, hb, hml, hown, hts⟩ (c_E_leadingZeros l dC dI cI cAA cB cL a ga _ hd_ga) (va_cwS 1 hts (kz_g (kz_mc mw_237 (kz_mc mw_238 (kz_mc mw_50 kz_mn))) mw_239) rfl rfl rfl (by decide +kernel) ⟨Nat.le_of_ble_eq_true rfl, Nat.le_of_ble_eq_true rfl⟩) (kz_preS hdy hA hK hro hZ hN [] (by decide) rfl [(true, 0)] rfl (by decide) [0, 1, 2, 3] rfl (fun _ h => by cases h) (fun _ h => by cases h) rfl) rfl rfl hl.1 rfl (lv_room (Nat.le_of_ble_eq_true rfl)) zd_M_take_2 ⟨Nat.le_of_ble_eq_true rfl, Nat.le_of_ble_eq_true rfl⟩) hdy hA [] [0, 1] rfl rfl (by decide) (by decide) (fun r u H locs hw hdy => ?_)
  try dsimp only at hw
  obtain ⟨⟨b1, hb1, rfl⟩, -⟩ := hw
  have hdy : kz_dy (dC, dI) vwCl A s.heap H locs [(h, .inr (1, [.ref qs, .ref qf, .ref qw, .ref ql, .ref qr, .int (nI (sh))])), (qs, .inl (cI, 8, .inl (kz_dg gqs)))] := hdy.sub [0, 1] (by decide) rfl
  refine va_put (D := (dC, dI)) (ci := 1) (v := .int (nI (b1))) (ty := .int) (C := zR_M) (T := zT_M) (N := 6) hx hb hts (fun w h => kz_c (zi_M w h)) zt_M zo_M zn_M hown hK hdy.1 hdy.2.1 hdy.2.2 0 rfl rfl 5 (by decide) (hts _ (kz_c mw_99)) (fun _ h9 => h9) rfl (by decide +kernel) rfl rfl (Nat.le_of_ble_eq_true rfl) zd_M_take_5 (fun H locs hP hD hS => ?_)
  have hdy : kz_dy (dC, dI) vwCl A s.heap H locs [(h, .inr (1, [.ref qs, .ref qf, .ref qw, .ref ql, .ref qr, .int (nI (b1))])), (qs, .inl (cI, 8, .inl (kz_dg gqs)))] := ⟨hP, hD, hS⟩
  refine lv_aload_n hx hb zd_M_take_8 rfl (lv_at hl 1 rfl) ?_
  refine lv_aload_n hx hb zd_M_take_9 rfl (lv_at hl 0 rfl) ?_
  refine va_get (D := (dC, dI)) (ci := 1) (v := .int (nI (b1))) (C := zR_M) (T := zT_M) (N := 6) hx hb hts (fun w h => kz_c (zi_M w h)) hown hK hdy.1 0 rfl rfl 5 (by decide) (hts _ (kz_c mw_99)) (fun _ h9 => h9) rfl zd_M_take_10 ?_
  refine lv_aload_n hx hb zd_M_take_13 rfl (lv_at hl 0 rfl) ?_
  refine va_get (D := (dC, dI)) (ci := 1) (v := .ref qs) (C := zR_M) (T := zT_M) (N := 6) hx hb hts (fun w h => kz_c (zi_M w h)) hown hK hdy.1 0 rfl rfl 0 (by decide) (hts _ (kz_c mw_94)) (fun _ h9 => h9) rfl zd_M_take_14 ?_
  have hlt := kx_lzPos hb1 h0
  refine kz_callv (wk := [(h, .inr (1, [.ref qs, .ref qf, .ref qw, .ref ql, .ref qr, .int (nI (b1))]))]) (va_runS (As := [.ref a, .int (nI (b1)), .ref qs]) (rest := []) ⟨hx, hb, hml, hown, hts⟩ (c_E_shiftLeft l dC dI cI cAA cB cL qs a gqs ga b1 _ hd_gqs hd_ga (by first | omega | assumption)) (va_cwS 3 hts (kz_g (kz_mc mw_243 (kz_mc mw_244 (kz_mc mw_50 kz_mn))) mw_245) rfl rfl rfl (by decide +kernel) ⟨Nat.le_of_ble_eq_true rfl, Nat.le_of_ble_eq_true rfl⟩) (kz_preS hdy hA hK hro hZ hN [1] (by decide) rfl [(true, 0)] rfl (by decide) [0, 1, 2, 3] rfl (fun _ h => by cases h) (fun _ h => by cases h) rfl) rfl rfl hl.1 rfl (lv_room (Nat.le_of_ble_eq_true rfl)) zd_M_take_17 ⟨Nat.le_of_ble_eq_true rfl, Nat.le_of_ble_eq_true rfl⟩) hdy hA [1] [0] rfl rfl (by decide) (by decide) (fun u H locs hw hdy => ?_)
  obtain ⟨d2, rfl⟩ : ∃ z, z = u := ⟨_, rfl⟩
  try dsimp only at hw
  obtain ⟨hd_d2, q3, -⟩ := hw
  have hdy : kz_dy (dC, dI) vwCl A s.heap H locs [(h, .inr (1, [.ref qs, .ref qf, .ref qw, .ref ql, .ref qr, .int (nI (b1))])), (qs, .inl (cI, 8, .inl (kz_dg d2)))] := hdy.sub [0, 1] (by decide) rfl
  exact kz_vret F (b1, d2) hdy (⟨hd_d2, by exact (kx_isMof hd_d2 (by rw [kx_p2]; exact kx_shlV hd_ga (by omega) (by omega) q3 (by rw [← kx_p2]; exact kx_shlOk hb1 h0)) hb1 h0).1, by exact (kx_isMof hd_d2 (by rw [kx_p2]; exact kx_shlV hd_ga (by omega) (by omega) q3 (by rw [← kx_p2]; exact kx_shlOk hb1 h0)) hb1 h0).2, trivial⟩) zd_M_take_20

set_option maxHeartbeats 4000000 in
set_option maxRecDepth 100000 in
/-- KeyMeeting$Modulus.giveBack(I)J -/
theorem c_E_giveBack (l : Launch) (dC : Nat → ClassId) (dI : Nat → Nat → Nat) (cI cAA cB cL : ClassId) (qw h qs qf ql qr : Nat) (gqw : Nat → Nat) (sh : Nat) (gqs : Nat → Nat) (at_ : Nat) (sz : Nat) (hd_gqw : ∀ j, gqw j < 4294967296) (hd_gqs : ∀ j, gqs j < 4294967296) (hat : at_ < 8) : Met l zy_M_giveBack zw_M_giveBack { frames := 0, cells := 0, slots := 0, locals := 0 } (kz_Pc (dC, dI) vwCl [(cI, .int), (cAA, .array .int), (cB, .byte), (cL, .long)] [] [] [.ref h, .int (nI (at_))] [(qw, .inl (cI, 16, .inl (kz_dg gqw)))] [(h, .inr (1, [.ref qs, .ref qf, .ref qw, .ref ql, .ref qr, .int (nI (sh))])), (qs, .inl (cI, 8, .inl (kz_dg gqs)))] sz) (va_Ql (fun (r : Int64) (u : (Nat → Nat)) => (∀ j, u j < 4294967296) ∧ (∃ b : Nat, (b ≤ 1 ∧ kx_val (kx_w9 u at_) 8 + b * 4294967296 ^ 8 = kx_val (kx_w9 gqw at_) 8 + kx_V 8 gqs) ∧ r = kz_lz ((b : Nat) : Int)) ∧ (∀ j, (j ≤ at_ ∨ at_ + 9 ≤ j) → u j = gqw j) ∧ True) (kz_B (dC, dI) vwCl (va_A [(qw, .inl (cI, 16, .inl (kz_dg gqw)))] sz) (fun u : (Nat → Nat) => [(qw, .inl (cI, 16, .inl (kz_dg u)))])) (va_A [(qw, .inl (cI, 16, .inl (kz_dg gqw)))] sz)) 0 0 (va_A [(qw, .inl (cI, 16, .inl (kz_dg gqw)))] sz) := by
  refine kz_met (y := zy_M_giveBack) (ws := zw_M_giveBack) (av := [.ref h, .int (nI (at_))]) (sz := sz) (Qc := fun A => va_Ql (fun (r : Int64) (u : (Nat → Nat)) => (∀ j, u j < 4294967296) ∧ (∃ b : Nat, (b ≤ 1 ∧ kx_val (kx_w9 u at_) 8 + b * 4294967296 ^ 8 = kx_val (kx_w9 gqw at_) 8 + kx_V 8 gqs) ∧ r = kz_lz ((b : Nat) : Int)) ∧ (∀ j, (j ≤ at_ ∨ at_ + 9 ≤ j) → u j = gqw j) ∧ True) (kz_B (dC, dI) vwCl A (fun u : (Nat → Nat) => [(qw, .inl (cI, 16, .inl (kz_dg u)))])) A) (cc := zc_M_giveBack) (maxL := 7) (ret := some .long) (by decide) rfl (Nat.le_of_ble_eq_true rfl) ?_
  intro p e s m below meth c A ls F hA hdy hK hro hZ hN hl
  obtain ⟨hx, hb, hml, hr, hown, hlocks, hts, hnm⟩ := id F
  have hl : lv_has ls 7 [(0, .ref h), (1, .int (nI (at_)))] := hl
  refine lv_lconst (v := 0) hx hb zd_M_giveBack_0 (by decide) ?_
  refine lv_topl (fun yl1 h9 => ?_)
  obtain rfl : yl1 = kz_lz (0) := h9.trans (kz_lz_c0)
  refine lv_topl (fun yl3 h9 => ?_)
  obtain ⟨n2, en2, rfl⟩ := kz_toN (e := 0) h9 (by omega)
  refine lv_lstore_n (lv' := [(2, .long (kz_lz (((n2 : Nat) : Int)))), (0, .ref h), (1, .int (nI (at_)))]) hx hb zd_M_giveBack_1 rfl hl (by decide) rfl (fun ls hl => ?_)
  refine lv_bipush (v := (nI (7))) hx hb zd_M_giveBack_2 (by decide) ?_
  refine lv_istore (lv' := [(4, .int (nI (7))), (2, .long (kz_lz (((n2 : Nat) : Int)))), (0, .ref h), (1, .int (nI (at_)))]) hx hb zd_M_giveBack_4 hl (by decide) rfl (fun ls hl => ?_)
  have lp6 : ∀ (k6 : Nat) (c4 : Nat) (d5 : Nat → Nat) (H : Heap) (locs : List Loc) (ls : Array Slot), k6 ≤ 8 → (∀ j, d5 j < 4294967296) → (c4 ≤ 1) → (kx_val (kx_w9 d5 at_) (8 - (k6)) + c4 * 4294967296 ^ (8 - (k6)) = kx_val (kx_w9 gqw at_) (8 - (k6)) + kx_val (kx_rv 8 gqs) (8 - (k6))) → (∀ j, (j < at_ + 1 + (k6) ∨ at_ + 9 ≤ j) → d5 j = gqw j) → kz_dy (dC, dI) vwCl A s.heap H locs [(qw, .inl (cI, 16, .inl (kz_dg d5)))] → lv_has ls 7 [(4, .int (nI k6 - 1)), (2, .long (kz_lz (((c4 : Nat) : Int)))), (0, .ref h), (1, .int (nI (at_)))] → W p l e { frames := 0, cells := 0, slots := 0, locals := 0 } s m ([.ref h, .int (nI (at_))] : List Value).toArray below meth c H locs 0 0 (MQ below (va_Ql (fun (r : Int64) (u : (Nat → Nat)) => (∀ j, u j < 4294967296) ∧ (∃ b : Nat, (b ≤ 1 ∧ kx_val (kx_w9 u at_) 8 + b * 4294967296 ^ 8 = kx_val (kx_w9 gqw at_) 8 + kx_V 8 gqs) ∧ r = kz_lz ((b : Nat) : Int)) ∧ (∀ j, (j ≤ at_ ∨ at_ + 9 ≤ j) → u j = gqw j) ∧ True) (kz_B (dC, dI) vwCl A (fun u : (Nat → Nat) => [(qw, .inl (cI, 16, .inl (kz_dg u)))])) A) ([.ref h, .int (nI (at_))] : List Value).toArray s 0 0 A) (F0 m 6 ls []) := by
    intro k6
    induction k6 with
    | zero =>
      intro c4 d5 H locs ls hi6 hd_d5 hc hI hk hdy hl
      refine lv_iload hx hb zd_M_giveBack_6 (lv_at hl 0 rfl) ?_
      refine lv_if_lt (tgt := 70) hx hb zd_M_giveBack_8 (by decide) (fun hc8 => ?_) (fun hc8 => ?_)
      · refine lv_lload_n hx hb zd_M_giveBack_70 rfl (lv_at hl 1 rfl) ?_
        exact kz_lret F (d5) hdy (⟨hd_d5, ⟨_, by rw [Nat.sub_zero] at hI; exact ⟨hc, hI⟩, rfl⟩, by exact fun j hj => hk j (by omega), trivial⟩) zd_M_giveBack_71
      · exact absurd (by decide) hc8
    | succ k6 ih6 =>
      intro c4 d5 H locs ls hi6 hd_d5 hc hI hk hdy hl
      rw [nI_pred] at hl
      refine lv_iload hx hb zd_M_giveBack_6 (lv_at hl 0 rfl) ?_
      refine lv_if_lt (tgt := 70) hx hb zd_M_giveBack_8 (by decide) (fun hc8 => ?_) (fun hc8 => ?_)
      · exact absurd hc8 (nI_pos (by omega))
      · refine lv_aload_n hx hb zd_M_giveBack_11 rfl (lv_at hl 2 rfl) ?_
        refine va_get (D := (dC, dI)) (ci := 1) (v := .ref qw) (C := zR_M) (T := zT_M) (N := 6) hx hb hts (fun w h => kz_c (zi_M w h)) hown hK (hro.ob hdy.2.2 (k := 0) rfl) 0 rfl rfl 2 (by decide) (hts _ (kz_c mw_96)) (fun _ h9 => h9) rfl zd_M_giveBack_12 ?_
        refine lv_iload_n hx hb zd_M_giveBack_15 rfl (lv_at hl 3 rfl) ?_
        refine lv_iconst (v := (nI (1))) hx hb zd_M_giveBack_16 (by decide) ?_
        refine kz_iadd hx hb zd_M_giveBack_17 (nI_add _ _) ?_
        refine lv_iload hx hb zd_M_giveBack_18 (lv_at hl 0 rfl) ?_
        refine kz_iadd hx hb zd_M_giveBack_20 (nI_add _ _) ?_
        refine va_iald hx hb hK hdy.1 0 0 rfl rfl (vp_in_nI (by omega) (by omega)) zd_M_giveBack_21 ?_
        refine lv_topi (fun x6 h9 => ?_)
        obtain rfl : x6 = nI (d5 (at_ + 1 + k6)) := h9.trans (kz_dgl d5 (by omega))
        have hbx6 := hd_d5 (at_ + 1 + k6)
        refine lv_i2l hx hb zd_M_giveBack_22 rfl ?_
        refine lv_ldc2 (v := (4294967295)) hx hb hown (hts _ (kz_c mw_268)) zd_M_giveBack_23 ?_
        refine lv_topl (fun yl7 h9 => ?_)
        obtain rfl : yl7 = kz_lz (4294967295) := h9.trans (kz_lz_c4294967295)
        refine lv_land hx hb zd_M_giveBack_26 ?_
        refine lv_topl (fun yl8 h9 => ?_)
        obtain rfl : yl8 = kz_lz (((d5 (at_ + 1 + k6) : Nat) : Int)) := h9.trans (kz_maskS (by omega))
        refine lv_aload_n hx hb zd_M_giveBack_27 rfl (lv_at hl 2 rfl) ?_
        refine va_get (D := (dC, dI)) (ci := 1) (v := .ref qs) (C := zR_M) (T := zT_M) (N := 6) hx hb hts (fun w h => kz_c (zi_M w h)) hown hK (hro.ob hdy.2.2 (k := 0) rfl) 0 rfl rfl 0 (by decide) (hts _ (kz_c mw_94)) (fun _ h9 => h9) rfl zd_M_giveBack_28 ?_
        refine lv_iload hx hb zd_M_giveBack_31 (lv_at hl 0 rfl) ?_
        refine kz_riald hx hb hK hro hdy.2.2 1 0 rfl rfl (vp_in_nI (by omega) (by omega)) zd_M_giveBack_33 ?_
        refine lv_topi (fun x9 h9 => ?_)
        obtain rfl : x9 = nI (gqs k6) := h9.trans (kz_dgl gqs (by omega))
        have hbx9 := hd_gqs k6
        refine lv_i2l hx hb zd_M_giveBack_34 rfl ?_
        refine lv_ldc2 (v := (4294967295)) hx hb hown (hts _ (kz_c mw_268)) zd_M_giveBack_35 ?_
        refine lv_topl (fun yl10 h9 => ?_)
        obtain rfl : yl10 = kz_lz (4294967295) := h9.trans (kz_lz_c4294967295)
        refine lv_land hx hb zd_M_giveBack_38 ?_
        refine lv_topl (fun yl11 h9 => ?_)
        obtain rfl : yl11 = kz_lz (((gqs k6 : Nat) : Int)) := h9.trans (kz_maskS (by omega))
        refine lv_ladd hx hb zd_M_giveBack_39 ?_
        refine lv_topl (fun yl12 h9 => ?_)
        obtain rfl : yl12 = kz_lz ((((d5 (at_ + 1 + k6) : Nat) : Int)) + (((gqs k6 : Nat) : Int))) := h9.trans (kz_lz_add _ _)
        refine lv_lload_n hx hb zd_M_giveBack_40 rfl (lv_at hl 1 rfl) ?_
        refine lv_ladd hx hb zd_M_giveBack_41 ?_
        refine lv_topl (fun yl13 h9 => ?_)
        obtain rfl : yl13 = kz_lz (((((d5 (at_ + 1 + k6) : Nat) : Int)) + (((gqs k6 : Nat) : Int))) + (((c4 : Nat) : Int))) := h9.trans (kz_lz_add _ _)
        refine lv_topl (fun yl15 h9 => ?_)
        obtain ⟨n14, en14, rfl⟩ := kz_toN (e := ((((d5 (at_ + 1 + k6) : Nat) : Int)) + (((gqs k6 : Nat) : Int))) + (((c4 : Nat) : Int))) h9 (by omega)
        refine lv_lstore (lv' := [(5, .long (kz_lz (((n14 : Nat) : Int)))), (4, .int (nI (k6))), (2, .long (kz_lz (((c4 : Nat) : Int)))), (0, .ref h), (1, .int (nI (at_)))]) hx hb zd_M_giveBack_42 hl (by decide) rfl (fun ls hl => ?_)
        refine lv_aload_n hx hb zd_M_giveBack_44 rfl (lv_at hl 3 rfl) ?_
        refine va_get (D := (dC, dI)) (ci := 1) (v := .ref qw) (C := zR_M) (T := zT_M) (N := 6) hx hb hts (fun w h => kz_c (zi_M w h)) hown hK (hro.ob hdy.2.2 (k := 0) rfl) 0 rfl rfl 2 (by decide) (hts _ (kz_c mw_96)) (fun _ h9 => h9) rfl zd_M_giveBack_45 ?_
        refine lv_iload_n hx hb zd_M_giveBack_48 rfl (lv_at hl 4 rfl) ?_
        refine lv_iconst (v := (nI (1))) hx hb zd_M_giveBack_49 (by decide) ?_
        refine kz_iadd hx hb zd_M_giveBack_50 (nI_add _ _) ?_
        refine lv_iload hx hb zd_M_giveBack_51 (lv_at hl 1 rfl) ?_
        refine kz_iadd hx hb zd_M_giveBack_53 (nI_add _ _) ?_
        refine lv_lload hx hb zd_M_giveBack_54 (lv_at hl 0 rfl) ?_
        refine lv_l2i hx hb zd_M_giveBack_56 (kz_lz_i32 (((n14 : Nat) : Int))) ?_
        refine va_iast hx hb hK hdy.1 hdy.2.1 hdy.2.2 0 0 rfl rfl (vp_in_nI (by omega) (by omega)) zd_M_giveBack_57 (fun H locs hP hD hS => ?_)
        have h9 := kz_dgu d5 (k := (at_ + 1 + k6)) (((((n14 : Nat) : Int)) % 4294967296).toNat) (by omega)
        rw [h9] at hP hD
        obtain ⟨f16, ef16, hd_f16, hdy⟩ : ∃ f16 : Nat → Nat, f16 = kv_up d5 (at_ + 1 + k6) (((((n14 : Nat) : Int)) % 4294967296).toNat) ∧ (∀ j, f16 j < 4294967296) ∧ kz_dy (dC, dI) vwCl A s.heap H locs [(qw, .inl (cI, 16, .inl (kz_dg f16)))] := ⟨_, rfl, kx_up_lt hd_d5 (by omega), hP, hD, hS⟩
        refine lv_lload hx hb zd_M_giveBack_58 (lv_at hl 0 rfl) ?_
        refine lv_bipush (v := (nI (32))) hx hb zd_M_giveBack_60 (by decide) ?_
        refine lv_lushr hx hb zd_M_giveBack_62 (kz_lz_ushr32 (z := (((n14 : Nat) : Int))) (by omega) (by omega)) ?_
        refine lv_topl (fun yl18 h9 => ?_)
        obtain ⟨n17, en17, rfl⟩ := kz_toN (e := (((n14 : Nat) : Int)) / 4294967296) h9 (by omega)
        refine lv_lstore_n (lv' := [(2, .long (kz_lz (((n17 : Nat) : Int)))), (5, .long (kz_lz (((n14 : Nat) : Int)))), (4, .int (nI (k6))), (0, .ref h), (1, .int (nI (at_)))]) hx hb zd_M_giveBack_63 rfl hl (by decide) rfl (fun ls hl => ?_)
        refine lv_iinc (v := (nI (k6) - 1)) (lv' := [(4, .int (nI (k6) - 1)), (2, .long (kz_lz (((n17 : Nat) : Int)))), (5, .long (kz_lz (((n14 : Nat) : Int)))), (0, .ref h), (1, .int (nI (at_)))]) hx hb zd_M_giveBack_64 hl (k := 2) rfl (kz_m1 _) (by decide) rfl (fun ls hl => ?_)
        refine lv_goto (tgt := 6) hx hb zd_M_giveBack_67 (by decide) ?_
        have hi9_hc19 : n17 ≤ 1 := by omega
        have hi9_hI20 : kx_val (kx_w9 f16 at_) (8 - (k6)) + n17 * 4294967296 ^ (8 - (k6)) = kx_val (kx_w9 gqw at_) (8 - (k6)) + kx_val (kx_rv 8 gqs) (8 - (k6)) := by rw [ef16]; have h7 : (((n14 : Nat) : Int) % 4294967296).toNat = n14 % 4294967296 := (by omega); have h6 : n17 = n14 / 4294967296 := (by omega); rw [h7, h6]; exact kx_gbStep (by omega) (by have h8 := hk (at_ + 1 + k6) (by omega); omega) hI
        have hi9_hk21 : ∀ j, (j < at_ + 1 + (k6) ∨ at_ + 9 ≤ j) → f16 j = gqw j := by intro j hj; rw [ef16, kv_up_ne _ _ (by omega)]; exact hk j (by omega)
        exact ih6 (n17) f16 _ _ _ (by omega) hd_f16 hi9_hc19 hi9_hI20 hi9_hk21 hdy (lv_sub hl [0, 1, 3, 4] rfl)
  have hi9_hc22 : n2 ≤ 1 := by omega
  have hi9_hI23 : kx_val (kx_w9 gqw at_) (8 - (8)) + n2 * 4294967296 ^ (8 - (8)) = kx_val (kx_w9 gqw at_) (8 - (8)) + kx_val (kx_rv 8 gqs) (8 - (8)) := by have h0 : n2 = 0 := (by omega); rw [h0, Nat.sub_self]; rfl
  have hi9_hk24 : ∀ j, (j < at_ + 1 + (8) ∨ at_ + 9 ≤ j) → gqw j = gqw j := by exact fun _ _ => rfl
  exact lp6 8 (n2) gqw _ _ _ (by omega) hd_gqw hi9_hc22 hi9_hI23 hi9_hk24 hdy (lv_sub hl [0, 1, 2, 3] rfl)

set_option maxHeartbeats 4000000 in
set_option maxRecDepth 100000 in
/-- KeyMeeting$Modulus.guessDigit(I)J -/
theorem c_E_guessDigit (l : Launch) (dC : Nat → ClassId) (dI : Nat → Nat → Nat) (cI cAA cB cL : ClassId) (h qs qf qw ql qr : Nat) (sh : Nat) (gqs : Nat → Nat) (gqw : Nat → Nat) (at_ : Nat) (sz : Nat) (hd_gqs : ∀ j, gqs j < 4294967296) (hd_gqw : ∀ j, gqw j < 4294967296) (hat : at_ < 8) : Met l zy_M_guessDigit zw_M_guessDigit { frames := 0, cells := 0, slots := 0, locals := 0 } (kz_Pc (dC, dI) vwCl [(cI, .int), (cAA, .array .int), (cB, .byte), (cL, .long)] [] [] [.ref h, .int (nI (at_))] [] [(h, .inr (1, [.ref qs, .ref qf, .ref qw, .ref ql, .ref qr, .int (nI (sh))])), (qs, .inl (cI, 8, .inl (kz_dg gqs))), (qw, .inl (cI, 16, .inl (kz_dg gqw)))] sz) (va_Ql (fun (r : Int64) (u : Unit) => (∃ b : Nat, (kx_gd (gqw at_) (gqw (at_ + 1)) (gqs 0) b) ∧ r = kz_lz ((b : Nat) : Int)) ∧ True) (kz_B (dC, dI) vwCl (va_A [] sz) (fun u : Unit => [])) (va_A [] sz)) 0 0 (va_A [] sz) := by
  refine kz_met (y := zy_M_guessDigit) (ws := zw_M_guessDigit) (av := [.ref h, .int (nI (at_))]) (sz := sz) (Qc := fun A => va_Ql (fun (r : Int64) (u : Unit) => (∃ b : Nat, (kx_gd (gqw at_) (gqw (at_ + 1)) (gqs 0) b) ∧ r = kz_lz ((b : Nat) : Int)) ∧ True) (kz_B (dC, dI) vwCl A (fun u : Unit => [])) A) (cc := zc_M_guessDigit) (maxL := 10) (ret := some .long) (by decide) rfl (Nat.le_of_ble_eq_true rfl) ?_
  intro p e s m below meth c A ls F hA hdy hK hro hZ hN hl
  obtain ⟨hx, hb, hml, hr, hown, hlocks, hts, hnm⟩ := id F
  have hl : lv_has ls 10 [(0, .ref h), (1, .int (nI (at_)))] := hl
  refine lv_aload_n hx hb zd_M_guessDigit_0 rfl (lv_at hl 0 rfl) ?_
  refine va_get (D := (dC, dI)) (ci := 1) (v := .ref qw) (C := zR_M) (T := zT_M) (N := 6) hx hb hts (fun w h => kz_c (zi_M w h)) hown hK (hro.ob hdy.2.2 (k := 0) rfl) 0 rfl rfl 2 (by decide) (hts _ (kz_c mw_96)) (fun _ h9 => h9) rfl zd_M_guessDigit_1 ?_
  refine lv_iload_n hx hb zd_M_guessDigit_4 rfl (lv_at hl 1 rfl) ?_
  refine kz_riald hx hb hK hro hdy.2.2 2 0 rfl rfl (vp_in_nI (by omega) (by omega)) zd_M_guessDigit_5 ?_
  refine lv_topi (fun x1 h9 => ?_)
  obtain rfl : x1 = nI (gqw at_) := h9.trans (kz_dgl gqw (by omega))
  have hbx1 := hd_gqw at_
  refine lv_i2l hx hb zd_M_guessDigit_6 rfl ?_
  refine lv_ldc2 (v := (4294967295)) hx hb hown (hts _ (kz_c mw_268)) zd_M_guessDigit_7 ?_
  refine lv_topl (fun yl2 h9 => ?_)
  obtain rfl : yl2 = kz_lz (4294967295) := h9.trans (kz_lz_c4294967295)
  refine lv_land hx hb zd_M_guessDigit_10 ?_
  refine lv_topl (fun yl3 h9 => ?_)
  obtain rfl : yl3 = kz_lz (((gqw at_ : Nat) : Int)) := h9.trans (kz_maskS (by omega))
  refine lv_topl (fun yl5 h9 => ?_)
  obtain ⟨n4, en4, rfl⟩ := kz_toN (e := ((gqw at_ : Nat) : Int)) h9 (by omega)
  refine lv_lstore_n (lv' := [(2, .long (kz_lz (((n4 : Nat) : Int)))), (0, .ref h), (1, .int (nI (at_)))]) hx hb zd_M_guessDigit_11 rfl hl (by decide) rfl (fun ls hl => ?_)
  refine lv_aload_n hx hb zd_M_guessDigit_12 rfl (lv_at hl 1 rfl) ?_
  refine va_get (D := (dC, dI)) (ci := 1) (v := .ref qs) (C := zR_M) (T := zT_M) (N := 6) hx hb hts (fun w h => kz_c (zi_M w h)) hown hK (hro.ob hdy.2.2 (k := 0) rfl) 0 rfl rfl 0 (by decide) (hts _ (kz_c mw_94)) (fun _ h9 => h9) rfl zd_M_guessDigit_13 ?_
  refine lv_iconst (v := (nI (0))) hx hb zd_M_guessDigit_16 (by decide) ?_
  refine kz_riald hx hb hK hro hdy.2.2 1 0 rfl rfl (vp_in_nI (by omega) (by omega)) zd_M_guessDigit_17 ?_
  refine lv_topi (fun x6 h9 => ?_)
  obtain rfl : x6 = nI (gqs 0) := h9.trans (kz_dgl gqs (by omega))
  have hbx6 := hd_gqs 0
  refine lv_i2l hx hb zd_M_guessDigit_18 rfl ?_
  refine lv_ldc2 (v := (4294967295)) hx hb hown (hts _ (kz_c mw_268)) zd_M_guessDigit_19 ?_
  refine lv_topl (fun yl7 h9 => ?_)
  obtain rfl : yl7 = kz_lz (4294967295) := h9.trans (kz_lz_c4294967295)
  refine lv_land hx hb zd_M_guessDigit_22 ?_
  refine lv_topl (fun yl8 h9 => ?_)
  obtain rfl : yl8 = kz_lz (((gqs 0 : Nat) : Int)) := h9.trans (kz_maskS (by omega))
  refine lv_topl (fun yl10 h9 => ?_)
  obtain ⟨n9, en9, rfl⟩ := kz_toN (e := ((gqs 0 : Nat) : Int)) h9 (by omega)
  refine lv_lstore (lv' := [(4, .long (kz_lz (((n9 : Nat) : Int)))), (2, .long (kz_lz (((n4 : Nat) : Int)))), (0, .ref h), (1, .int (nI (at_)))]) hx hb zd_M_guessDigit_23 hl (by decide) rfl (fun ls hl => ?_)
  refine lv_lload_n hx hb zd_M_guessDigit_25 rfl (lv_at hl 1 rfl) ?_
  refine lv_lload hx hb zd_M_guessDigit_26 (lv_at hl 0 rfl) ?_
  refine kz_llt (tgt := 36) hx hb zd_M_guessDigit_28 zd_M_guessDigit_29 (by decide) (fun hc29 => ?_) (fun hc29 => ?_)
  · have hc29 : (((n4 : Nat) : Int)) < (((n9 : Nat) : Int)) := (kz_lz_lt (by omega) (by omega) (by omega) (by omega)).mp hc29
    refine lv_lload_n hx hb zd_M_guessDigit_36 rfl (lv_at hl 1 rfl) ?_
    refine lv_bipush (v := (nI (32))) hx hb zd_M_guessDigit_37 (by decide) ?_
    refine lv_lshl hx hb zd_M_guessDigit_39 (kz_lz_shl32 (((n4 : Nat) : Int))) ?_
    refine lv_aload_n hx hb zd_M_guessDigit_40 rfl (lv_at hl 2 rfl) ?_
    refine va_get (D := (dC, dI)) (ci := 1) (v := .ref qw) (C := zR_M) (T := zT_M) (N := 6) hx hb hts (fun w h => kz_c (zi_M w h)) hown hK (hro.ob hdy.2.2 (k := 0) rfl) 0 rfl rfl 2 (by decide) (hts _ (kz_c mw_96)) (fun _ h9 => h9) rfl zd_M_guessDigit_41 ?_
    refine lv_iload_n hx hb zd_M_guessDigit_44 rfl (lv_at hl 3 rfl) ?_
    refine lv_iconst (v := (nI (1))) hx hb zd_M_guessDigit_45 (by decide) ?_
    refine kz_iadd hx hb zd_M_guessDigit_46 (nI_add _ _) ?_
    refine kz_riald hx hb hK hro hdy.2.2 2 0 rfl rfl (vp_in_nI (by omega) (by omega)) zd_M_guessDigit_47 ?_
    refine lv_topi (fun x11 h9 => ?_)
    obtain rfl : x11 = nI (gqw (at_ + 1)) := h9.trans (kz_dgl gqw (by omega))
    have hbx11 := hd_gqw (at_ + 1)
    refine lv_i2l hx hb zd_M_guessDigit_48 rfl ?_
    refine lv_ldc2 (v := (4294967295)) hx hb hown (hts _ (kz_c mw_268)) zd_M_guessDigit_49 ?_
    refine lv_topl (fun yl12 h9 => ?_)
    obtain rfl : yl12 = kz_lz (4294967295) := h9.trans (kz_lz_c4294967295)
    refine lv_land hx hb zd_M_guessDigit_52 ?_
    refine lv_topl (fun yl13 h9 => ?_)
    obtain rfl : yl13 = kz_lz (((gqw (at_ + 1) : Nat) : Int)) := h9.trans (kz_maskS (by omega))
    refine lv_lor hx hb zd_M_guessDigit_53 ?_
    refine lv_topl (fun yl14 h9 => ?_)
    obtain rfl : yl14 = kz_lz ((((n4 : Nat) : Int)) * 4294967296 + (((gqw (at_ + 1) : Nat) : Int))) := h9.trans (kz_lz_or32w (by omega) (by omega) (by omega) (by omega))
    refine lv_topl (fun yl16 h9 => ?_)
    obtain ⟨n15, en15, rfl⟩ := kz_toN (e := (((n4 : Nat) : Int)) * 4294967296 + (((gqw (at_ + 1) : Nat) : Int))) h9 (by omega)
    refine lv_lstore (lv' := [(6, .long (kz_lz (((n15 : Nat) : Int)))), (4, .long (kz_lz (((n9 : Nat) : Int)))), (2, .long (kz_lz (((n4 : Nat) : Int)))), (0, .ref h), (1, .int (nI (at_)))]) hx hb zd_M_guessDigit_54 hl (by decide) rfl (fun ls hl => ?_)
    refine lv_lload hx hb zd_M_guessDigit_56 (lv_at hl 0 rfl) ?_
    refine lv_iconst (v := (nI (1))) hx hb zd_M_guessDigit_58 (by decide) ?_
    refine lv_lushr hx hb zd_M_guessDigit_59 (kz_lz_ushrK (n := n15) (k := 1) (by omega) (by omega)) ?_
    refine lv_lload hx hb zd_M_guessDigit_60 (lv_at hl 1 rfl) ?_
    refine lv_ldiv hx hb zd_M_guessDigit_62 (kz_lz_ne0 (by omega) (by omega)) ?_
    refine lv_topl (fun yl17 h9 => ?_)
    obtain rfl : yl17 = kz_lz ((((n15 / 2 : Nat) : Int)) / (((n9 : Nat) : Int))) := h9.trans (kz_lz_divz (by omega) (by omega) (by omega) (by omega))
    refine lv_iconst (v := (nI (1))) hx hb zd_M_guessDigit_63 (by decide) ?_
    refine lv_lshl hx hb zd_M_guessDigit_64 (kz_lz_shl1 ((((n15 / 2 : Nat) : Int)) / (((n9 : Nat) : Int)))) ?_
    have hqn : 0 ≤ (((n15 / 2 : Nat) : Int) / ((n9 : Nat) : Int)) := (by rw [← Int.natCast_ediv]; exact Int.natCast_nonneg _)
    refine lv_topl (fun yl19 h9 => ?_)
    obtain ⟨n18, en18, rfl⟩ := kz_toN (e := ((((n15 / 2 : Nat) : Int)) / (((n9 : Nat) : Int))) * 2) h9 (by omega)
    refine lv_lstore (lv' := [(8, .long (kz_lz (((n18 : Nat) : Int)))), (6, .long (kz_lz (((n15 : Nat) : Int)))), (4, .long (kz_lz (((n9 : Nat) : Int)))), (2, .long (kz_lz (((n4 : Nat) : Int)))), (0, .ref h), (1, .int (nI (at_)))]) hx hb zd_M_guessDigit_65 hl (by decide) rfl (fun ls hl => ?_)
    have hH := kx_gdH (n6 := n15) (n4 := n9) (n8 := n18) (by omega) (by have h9 : (((n15 / 2 : Nat) : Int) / ((n9 : Nat) : Int)) = ((n15 / 2 / n9 : Nat) : Int) := (Int.natCast_ediv _ _).symm; omega)
    obtain ⟨m9, hm7⟩ : ∃ m : Nat, m = n18 * n9 := ⟨_, rfl⟩
    rw [← hm7] at hH
    have hm8 : ((n18 : Nat) : Int) * ((n9 : Nat) : Int) = (m9 : Int) := (by rw [hm7, Int.natCast_mul])
    refine lv_lload hx hb zd_M_guessDigit_67 (lv_at hl 1 rfl) ?_
    refine lv_lload hx hb zd_M_guessDigit_69 (lv_at hl 0 rfl) ?_
    refine lv_lload hx hb zd_M_guessDigit_71 (lv_at hl 2 rfl) ?_
    refine lv_lmul hx hb zd_M_guessDigit_73 ?_
    refine lv_topl (fun yl20 h9 => ?_)
    obtain rfl : yl20 = kz_lz ((((n18 : Nat) : Int)) * (((n9 : Nat) : Int))) := h9.trans (kz_lz_mul _ _)
    refine lv_lsub hx hb zd_M_guessDigit_74 ?_
    refine lv_topl (fun yl21 h9 => ?_)
    obtain rfl : yl21 = kz_lz ((((n15 : Nat) : Int)) - ((((n18 : Nat) : Int)) * (((n9 : Nat) : Int)))) := h9.trans (kz_lz_sub _ _)
    refine lv_lload hx hb zd_M_guessDigit_75 (lv_at hl 2 rfl) ?_
    refine kz_llt (tgt := 88) hx hb zd_M_guessDigit_77 zd_M_guessDigit_78 (by decide) (fun hc78 => ?_) (fun hc78 => ?_)
    · have hc78 : ((((n15 : Nat) : Int)) - ((((n18 : Nat) : Int)) * (((n9 : Nat) : Int)))) < (((n9 : Nat) : Int)) := (kz_lz_lt (by omega) (by omega) (by omega) (by omega)).mp hc78
      refine lv_lload hx hb zd_M_guessDigit_88 (lv_at hl 0 rfl) ?_
      exact kz_lret F () hdy (⟨⟨n18, by have h4 : n9 = gqs 0 := (by omega); rw [h4] at hm7; exact kx_gdE (n6 := n15) (n8 := n18) (by omega) (hd_gqw _) (by omega) hm7 (by omega) (by omega), rfl⟩, trivial⟩) zd_M_guessDigit_90
    · have hc78 : ¬ ((((n15 : Nat) : Int)) - ((((n18 : Nat) : Int)) * (((n9 : Nat) : Int)))) < (((n9 : Nat) : Int)) := fun h9 => hc78 ((kz_lz_lt (by omega) (by omega) (by omega) (by omega)).mpr h9)
      refine lv_lload hx hb zd_M_guessDigit_81 (lv_at hl 0 rfl) ?_
      refine lv_lconst (v := 1) hx hb zd_M_guessDigit_83 (by decide) ?_
      refine lv_topl (fun yl22 h9 => ?_)
      obtain rfl : yl22 = kz_lz (1) := h9.trans (kz_lz_c1)
      refine lv_ladd hx hb zd_M_guessDigit_84 ?_
      refine lv_topl (fun yl23 h9 => ?_)
      obtain rfl : yl23 = kz_lz ((((n18 : Nat) : Int)) + 1) := h9.trans (kz_lz_add _ _)
      refine lv_goto (tgt := 90) hx hb zd_M_guessDigit_85 (by decide) ?_
      exact kz_lret F () hdy (⟨⟨n18 + 1, by have h4 : n9 = gqs 0 := (by omega); rw [h4] at hm7; exact kx_gdO (n6 := n15) (n8 := n18) (by omega) (hd_gqw _) (by omega) hm7 (by omega) (by omega), rfl⟩, trivial⟩) zd_M_guessDigit_90
  · have hc29 : ¬ (((n4 : Nat) : Int)) < (((n9 : Nat) : Int)) := fun h9 => hc29 ((kz_lz_lt (by omega) (by omega) (by omega) (by omega)).mpr h9)
    refine lv_ldc2 (v := (4294967295)) hx hb hown (hts _ (kz_c mw_268)) zd_M_guessDigit_32 ?_
    refine lv_topl (fun yl24 h9 => ?_)
    obtain rfl : yl24 = kz_lz (4294967295) := h9.trans (kz_lz_c4294967295)
    exact kz_lret F () hdy (⟨⟨4294967295, by exact kx_gd1 (by omega), rfl⟩, trivial⟩) zd_M_guessDigit_35

set_option maxHeartbeats 4000000 in
set_option maxRecDepth 100000 in
/-- KeyMeeting$Modulus.takeAway(JI)V -/
theorem c_E_takeAway (l : Launch) (dC : Nat → ClassId) (dI : Nat → Nat → Nat) (cI cAA cB cL : ClassId) (qw h qs qf ql qr : Nat) (gqw : Nat → Nat) (sh : Nat) (gqs : Nat → Nat) (dg : Nat) (at_ : Nat) (sz : Nat) (hd_gqw : ∀ j, gqw j < 4294967296) (hd_gqs : ∀ j, gqs j < 4294967296) (hat : at_ < 8) (hgs : kx_gs (kx_val (kx_w9 gqw at_) 9) (kx_V 8 gqs) dg) : Met l zy_M_takeAway zw_M_takeAway { frames := 1, cells := 0, slots := 0, locals := 26 } (kz_Pc (dC, dI) vwCl [(cI, .int), (cAA, .array .int), (cB, .byte), (cL, .long)] [] [] [.ref h, .long (kz_lz (((dg : Nat) : Int))), .int (nI (at_))] [(qw, .inl (cI, 16, .inl (kz_dg gqw)))] [(h, .inr (1, [.ref qs, .ref qf, .ref qw, .ref ql, .ref qr, .int (nI (sh))])), (qs, .inl (cI, 8, .inl (kz_dg gqs)))] sz) (va_Qv (fun (u : (Nat → Nat)) => (∀ j, u j < 4294967296) ∧ (kx_val (kx_w9 u at_) 8 = kx_val (kx_w9 gqw at_) 9 % kx_V 8 gqs) ∧ (∀ j, (j ≤ at_ ∨ at_ + 9 ≤ j) → u j = gqw j) ∧ True) (kz_B (dC, dI) vwCl (va_A [(qw, .inl (cI, 16, .inl (kz_dg gqw)))] sz) (fun u : (Nat → Nat) => [(qw, .inl (cI, 16, .inl (kz_dg u)))])) (va_A [(qw, .inl (cI, 16, .inl (kz_dg gqw)))] sz)) 0 0 (va_A [(qw, .inl (cI, 16, .inl (kz_dg gqw)))] sz) := by
  refine kz_met (y := zy_M_takeAway) (ws := zw_M_takeAway) (av := [.ref h, .long (kz_lz (((dg : Nat) : Int))), .int (nI (at_))]) (sz := sz) (Qc := fun A => va_Qv (fun (u : (Nat → Nat)) => (∀ j, u j < 4294967296) ∧ (kx_val (kx_w9 u at_) 8 = kx_val (kx_w9 gqw at_) 9 % kx_V 8 gqs) ∧ (∀ j, (j ≤ at_ ∨ at_ + 9 ≤ j) → u j = gqw j) ∧ True) (kz_B (dC, dI) vwCl A (fun u : (Nat → Nat) => [(qw, .inl (cI, 16, .inl (kz_dg u)))])) A) (cc := zc_M_takeAway) (maxL := 11) (ret := none) (by decide) rfl (Nat.le_of_ble_eq_true rfl) ?_
  intro p e s m below meth c A ls F hA hdy hK hro hZ hN hl
  obtain ⟨hx, hb, hml, hr, hown, hlocks, hts, hnm⟩ := id F
  have hl : lv_has ls 11 [(0, .ref h), (1, .long (kz_lz (((dg : Nat) : Int)))), (3, .int (nI (at_)))] := hl
  refine lv_lconst (v := 0) hx hb zd_M_takeAway_0 (by decide) ?_
  refine lv_topl (fun yl1 h9 => ?_)
  obtain rfl : yl1 = kz_lz (0) := h9.trans (kz_lz_c0)
  refine lv_topl (fun yl3 h9 => ?_)
  obtain ⟨n2, en2, rfl⟩ := kz_toN (e := 0) h9 (by omega)
  refine lv_lstore (lv' := [(4, .long (kz_lz (((n2 : Nat) : Int)))), (0, .ref h), (1, .long (kz_lz (((dg : Nat) : Int)))), (3, .int (nI (at_)))]) hx hb zd_M_takeAway_1 hl (by decide) rfl (fun ls hl => ?_)
  refine lv_bipush (v := (nI (7))) hx hb zd_M_takeAway_3 (by decide) ?_
  refine lv_istore (lv' := [(6, .int (nI (7))), (4, .long (kz_lz (((n2 : Nat) : Int)))), (0, .ref h), (1, .long (kz_lz (((dg : Nat) : Int)))), (3, .int (nI (at_)))]) hx hb zd_M_takeAway_5 hl (by decide) rfl (fun ls hl => ?_)
  have lp7 : ∀ (k7 : Nat) (c4 : Nat) (d5 : Nat → Nat) (H : Heap) (locs : List Loc) (ls : Array Slot), k7 ≤ 8 → (∀ j, d5 j < 4294967296) → (c4 < 4294967296) → (kx_val (kx_w9 d5 at_) (8 - (k7)) + dg * kx_val (kx_rv 8 gqs) (8 - (k7)) = kx_val (kx_w9 gqw at_) (8 - (k7)) + c4 * 4294967296 ^ (8 - (k7))) → (∀ j, (j < at_ + 1 + (k7) ∨ at_ + 9 ≤ j) → d5 j = gqw j) → kz_dy (dC, dI) vwCl A s.heap H locs [(qw, .inl (cI, 16, .inl (kz_dg d5)))] → lv_has ls 11 [(6, .int (nI k7 - 1)), (4, .long (kz_lz (((c4 : Nat) : Int)))), (0, .ref h), (1, .long (kz_lz (((dg : Nat) : Int)))), (3, .int (nI (at_)))] → W p l e { frames := 1, cells := 0, slots := 0, locals := 26 } s m ([.ref h, .long (kz_lz (((dg : Nat) : Int))), .int (nI (at_))] : List Value).toArray below meth c H locs 0 0 (MQ below (va_Qv (fun (u : (Nat → Nat)) => (∀ j, u j < 4294967296) ∧ (kx_val (kx_w9 u at_) 8 = kx_val (kx_w9 gqw at_) 9 % kx_V 8 gqs) ∧ (∀ j, (j ≤ at_ ∨ at_ + 9 ≤ j) → u j = gqw j) ∧ True) (kz_B (dC, dI) vwCl A (fun u : (Nat → Nat) => [(qw, .inl (cI, 16, .inl (kz_dg u)))])) A) ([.ref h, .long (kz_lz (((dg : Nat) : Int))), .int (nI (at_))] : List Value).toArray s 0 0 A) (F0 m 7 ls []) := by
    intro k7
    induction k7 with
    | zero =>
      intro c4 d5 H locs ls hi7 hd_d5 hc hI hk hdy hl
      refine lv_iload hx hb zd_M_takeAway_7 (lv_at hl 0 rfl) ?_
      refine lv_if_lt (tgt := 97) hx hb zd_M_takeAway_9 (by decide) (fun hc9 => ?_) (fun hc9 => ?_)
      · rw [Nat.sub_zero] at hI
        have hlq := kx_lt (kx_w9_lt hd_d5 at_) 8
        have hSq := Nat.le_of_lt (kx_V_lt hd_gqs 8)
        refine lv_aload_n hx hb zd_M_takeAway_97 rfl (lv_at hl 2 rfl) ?_
        refine va_get (D := (dC, dI)) (ci := 1) (v := .ref qw) (C := zR_M) (T := zT_M) (N := 6) hx hb hts (fun w h => kz_c (zi_M w h)) hown hK (hro.ob hdy.2.2 (k := 0) rfl) 0 rfl rfl 2 (by decide) (hts _ (kz_c mw_96)) (fun _ h9 => h9) rfl zd_M_takeAway_98 ?_
        refine lv_iload_n hx hb zd_M_takeAway_101 rfl (lv_at hl 4 rfl) ?_
        refine va_iald hx hb hK hdy.1 0 0 rfl rfl (vp_in_nI (by omega) (by omega)) zd_M_takeAway_102 ?_
        refine lv_topi (fun x6 h9 => ?_)
        obtain rfl : x6 = nI (d5 at_) := h9.trans (kz_dgl d5 (by omega))
        have hbx6 := hd_d5 at_
        refine lv_i2l hx hb zd_M_takeAway_103 rfl ?_
        refine lv_ldc2 (v := (4294967295)) hx hb hown (hts _ (kz_c mw_268)) zd_M_takeAway_104 ?_
        refine lv_topl (fun yl7 h9 => ?_)
        obtain rfl : yl7 = kz_lz (4294967295) := h9.trans (kz_lz_c4294967295)
        refine lv_land hx hb zd_M_takeAway_107 ?_
        refine lv_topl (fun yl8 h9 => ?_)
        obtain rfl : yl8 = kz_lz (((d5 at_ : Nat) : Int)) := h9.trans (kz_maskS (by omega))
        refine lv_lload hx hb zd_M_takeAway_108 (lv_at hl 1 rfl) ?_
        refine lv_lsub hx hb zd_M_takeAway_110 ?_
        refine lv_topl (fun yl9 h9 => ?_)
        obtain rfl : yl9 = kz_lz ((((d5 at_ : Nat) : Int)) - (((c4 : Nat) : Int))) := h9.trans (kz_lz_sub _ _)
        refine lv_topl (fun yl11 h9 => ?_)
        obtain ⟨z10, ez10, rfl⟩ : ∃ z : Int, z = (((d5 at_ : Nat) : Int)) - (((c4 : Nat) : Int)) ∧ yl11 = kz_lz z := ⟨_, rfl, h9⟩
        refine lv_lstore (lv' := [(6, .long (kz_lz (z10))), (4, .long (kz_lz (((c4 : Nat) : Int)))), (0, .ref h), (1, .long (kz_lz (((dg : Nat) : Int)))), (3, .int (nI (at_)))]) hx hb zd_M_takeAway_111 hl (by decide) rfl (fun ls hl => ?_)
        refine lv_iconst (v := (nI (0))) hx hb zd_M_takeAway_113 (by decide) ?_
        refine lv_istore (lv' := [(8, .int (nI (0))), (6, .long (kz_lz (z10))), (4, .long (kz_lz (((c4 : Nat) : Int)))), (0, .ref h), (1, .long (kz_lz (((dg : Nat) : Int)))), (3, .int (nI (at_)))]) hx hb zd_M_takeAway_114 hl (by decide) rfl (fun ls hl => ?_)
        have lp116 : ∀ (n116 k116 : Nat) (z12 : Int) (d13 : Nat → Nat) (H : Heap) (locs : List Loc) (ls : Array Slot), k116 ≤ 2 → 2 - k116 < n116 → (∀ j, d13 j < 4294967296) → (-4294967296 ≤ z12) → (z12 ≤ 4294967296 + ((k116 : Nat) : Int)) → (kx_tj (4294967296 ^ 8) (kx_val (kx_w9 gqw at_) 9) (kx_V 8 gqs) (kx_val (kx_w9 d13 at_) 8) (z12) dg (k116)) → (∀ j, (j ≤ at_ ∨ at_ + 9 ≤ j) → d13 j = gqw j) → kz_dy (dC, dI) vwCl A s.heap H locs [(qw, .inl (cI, 16, .inl (kz_dg d13)))] → lv_has ls 11 [(8, .int (nI (k116))), (6, .long (kz_lz (z12))), (4, .long (kz_lz (((c4 : Nat) : Int)))), (0, .ref h), (1, .long (kz_lz (((dg : Nat) : Int)))), (3, .int (nI (at_)))] → W p l e { frames := 1, cells := 0, slots := 0, locals := 26 } s m ([.ref h, .long (kz_lz (((dg : Nat) : Int))), .int (nI (at_))] : List Value).toArray below meth c H locs 0 0 (MQ below (va_Qv (fun (u : (Nat → Nat)) => (∀ j, u j < 4294967296) ∧ (kx_val (kx_w9 u at_) 8 = kx_val (kx_w9 gqw at_) 9 % kx_V 8 gqs) ∧ (∀ j, (j ≤ at_ ∨ at_ + 9 ≤ j) → u j = gqw j) ∧ True) (kz_B (dC, dI) vwCl A (fun u : (Nat → Nat) => [(qw, .inl (cI, 16, .inl (kz_dg u)))])) A) ([.ref h, .long (kz_lz (((dg : Nat) : Int))), .int (nI (at_))] : List Value).toArray s 0 0 A) (F0 m 116 ls []) := by
          intro n116
          induction n116 with
          | zero => intro k116; intros; omega
          | succ n116 ih116 =>
            intro k116 z12 d13 H locs ls hi116 hn116 hd_d13 ht0 ht1 hJ hk2 hdy hl
            refine lv_iload hx hb zd_M_takeAway_116 (lv_at hl 0 rfl) ?_
            refine lv_iconst (v := (nI (2))) hx hb zd_M_takeAway_118 (by decide) ?_
            refine lv_icmp_ge (tgt := 145) hx hb zd_M_takeAway_119 (by decide) (fun hc119 => ?_) (fun hc119 => ?_)
            · have hc119 : 2 ≤ k116 := (nI_leI (by omega) (by omega)).mp hc119
              exact kz_vret F (d13) hdy (⟨hd_d13, by exact kx_tjEnd hJ (kx_lt (kx_w9_lt hd_d13 at_) 8) hSq hgs (by first | exact Or.inr (by assumption) | exact Or.inl (by omega)), by exact hk2, trivial⟩) zd_M_takeAway_145
            · have hc119 : ¬ 2 ≤ k116 := fun h9 => hc119 ((nI_leI (by omega) (by omega)).mpr h9)
              refine lv_lload hx hb zd_M_takeAway_122 (lv_at hl 1 rfl) ?_
              refine lv_lconst (v := 0) hx hb zd_M_takeAway_124 (by decide) ?_
              refine lv_topl (fun yl14 h9 => ?_)
              obtain rfl : yl14 = kz_lz (0) := h9.trans (kz_lz_c0)
              refine kz_lge (tgt := 145) hx hb zd_M_takeAway_125 zd_M_takeAway_126 (by decide) (fun hc126 => ?_) (fun hc126 => ?_)
              · have hc126 : ¬ z12 < 0 := fun h9 => hc126 ((kz_lz_lt (by omega) (by omega) (by omega) (by omega)).mpr h9)
                exact kz_vret F (d13) hdy (⟨hd_d13, by exact kx_tjEnd hJ (kx_lt (kx_w9_lt hd_d13 at_) 8) hSq hgs (by first | exact Or.inr (by assumption) | exact Or.inl (by omega)), by exact hk2, trivial⟩) zd_M_takeAway_145
              · have hc126 : z12 < 0 := (kz_lz_lt (by omega) (by omega) (by omega) (by omega)).mp hc126
                refine lv_lload hx hb zd_M_takeAway_129 (lv_at hl 1 rfl) ?_
                refine lv_aload_n hx hb zd_M_takeAway_131 rfl (lv_at hl 3 rfl) ?_
                refine lv_iload_n hx hb zd_M_takeAway_132 rfl (lv_at hl 5 rfl) ?_
                refine kz_calll (wk := []) (va_runV (As := [.int (nI (at_))]) (rest := [.long (kz_lz (z12))]) ⟨hx, hb, hml, hown, hts⟩ (c_E_giveBack l dC dI cI cAA cB cL qw h qs qf ql qr d13 sh gqs at_ _ hd_d13 hd_gqs (by first | omega | assumption)) (cwV 1 hts (kz_g (kz_mc mw_273 (kz_mc mw_275 (kz_mc mw_10 (kz_mc mw_41 kz_mn)))) mw_276) rfl rfl rfl (by decide +kernel) ⟨Nat.le_of_ble_eq_true rfl, Nat.le_of_ble_eq_true rfl⟩) (kz_preVr hdy hA hK hro hZ hN [0] (by decide) rfl [(true, 0), (true, 1)] rfl (by decide) [0, 1, 2, 3] rfl (fun _ h => by cases h) (fun _ h => by cases h) rfl (ci := 1) (q0 := 0) rfl rfl rfl) rfl rfl hl.1 rfl (lv_room (Nat.le_of_ble_eq_true rfl)) zd_M_takeAway_133 ⟨Nat.le_of_ble_eq_true rfl, Nat.le_of_ble_eq_true rfl⟩) hdy hA [0] [] rfl rfl (by decide) (by decide) (fun r u H locs hw hdy => ?_)
                obtain ⟨d15, rfl⟩ : ∃ z, z = u := ⟨_, rfl⟩
                try dsimp only at hw
                obtain ⟨hd_d15, ⟨b16, hb16, rfl⟩, q17, -⟩ := hw
                have hdy : kz_dy (dC, dI) vwCl A s.heap H locs [(qw, .inl (cI, 16, .inl (kz_dg d15)))] := hdy.sub [0] (by decide) rfl
                refine lv_ladd hx hb zd_M_takeAway_136 ?_
                refine lv_topl (fun yl18 h9 => ?_)
                obtain rfl : yl18 = kz_lz (z12 + (((b16 : Nat) : Int))) := h9.trans (kz_lz_add _ _)
                refine lv_topl (fun yl20 h9 => ?_)
                obtain ⟨z19, ez19, rfl⟩ : ∃ z : Int, z = z12 + (((b16 : Nat) : Int)) ∧ yl20 = kz_lz z := ⟨_, rfl, h9⟩
                refine lv_lstore (lv' := [(6, .long (kz_lz (z19))), (8, .int (nI (k116))), (4, .long (kz_lz (((c4 : Nat) : Int)))), (0, .ref h), (1, .long (kz_lz (((dg : Nat) : Int)))), (3, .int (nI (at_)))]) hx hb zd_M_takeAway_137 hl (by decide) rfl (fun ls hl => ?_)
                refine lv_iinc (v := (nI (k116 + 1))) (lv' := [(8, .int (nI (k116 + 1))), (6, .long (kz_lz (z19))), (4, .long (kz_lz (((c4 : Nat) : Int)))), (0, .ref h), (1, .long (kz_lz (((dg : Nat) : Int)))), (3, .int (nI (at_)))]) hx hb zd_M_takeAway_139 hl (k := 1) rfl (nI_1 _) (by decide) rfl (fun ls hl => ?_)
                refine lv_goto (tgt := 116) hx hb zd_M_takeAway_142 (by decide) ?_
                have hi9_ht021 : -4294967296 ≤ z19 := by omega
                have hi9_ht122 : z19 ≤ 4294967296 + ((k116 + 1 : Nat) : Int) := by omega
                have hi9_hJ23 : kx_tj (4294967296 ^ 8) (kx_val (kx_w9 gqw at_) 9) (kx_V 8 gqs) (kx_val (kx_w9 d15 at_) 8) (z19) dg (k116 + 1) := by exact kx_tjStep hJ (kx_lt (kx_w9_lt hd_d13 at_) 8) (by assumption) hgs.2.2.2 hb16.2 (by omega)
                have hi9_hk224 : ∀ j, (j ≤ at_ ∨ at_ + 9 ≤ j) → d15 j = gqw j := by exact fun j hj => (q17 j hj).trans (hk2 j hj)
                exact ih116 (k116 + 1) (z19) d15 _ _ _ (by omega) (by omega) hd_d15 hi9_ht021 hi9_ht122 hi9_hJ23 hi9_hk224 hdy (lv_sub hl [0, 1, 2, 3, 4, 5] rfl)
        have hi9_ht025 : -4294967296 ≤ z10 := by omega
        have hi9_ht126 : z10 ≤ 4294967296 + ((0 : Nat) : Int) := by omega
        have hi9_hJ27 : kx_tj (4294967296 ^ 8) (kx_val (kx_w9 gqw at_) 9) (kx_V 8 gqs) (kx_val (kx_w9 d5 at_) 8) (z10) dg (0) := by exact kx_tj0 (kx_w9T gqw at_) hI (by have h8 := hk at_ (by omega); omega) hgs.1
        have hi9_hk228 : ∀ j, (j ≤ at_ ∨ at_ + 9 ≤ j) → d5 j = gqw j := by exact fun j hj => hk j (by omega)
        exact lp116 (2 - 0 + 1) 0 (z10) d5 _ _ _ (by omega) (by omega) hd_d5 hi9_ht025 hi9_ht126 hi9_hJ27 hi9_hk228 hdy (lv_sub hl [0, 1, 2, 3, 4, 5] rfl)
      · exact absurd (by decide) hc9
    | succ k7 ih7 =>
      intro c4 d5 H locs ls hi7 hd_d5 hc hI hk hdy hl
      rw [nI_pred] at hl
      refine lv_iload hx hb zd_M_takeAway_7 (lv_at hl 0 rfl) ?_
      refine lv_if_lt (tgt := 97) hx hb zd_M_takeAway_9 (by decide) (fun hc9 => ?_) (fun hc9 => ?_)
      · exact absurd hc9 (nI_pos (by omega))
      · refine lv_lload_n hx hb zd_M_takeAway_12 rfl (lv_at hl 3 rfl) ?_
        refine lv_aload_n hx hb zd_M_takeAway_13 rfl (lv_at hl 2 rfl) ?_
        refine va_get (D := (dC, dI)) (ci := 1) (v := .ref qs) (C := zR_M) (T := zT_M) (N := 6) hx hb hts (fun w h => kz_c (zi_M w h)) hown hK (hro.ob hdy.2.2 (k := 0) rfl) 0 rfl rfl 0 (by decide) (hts _ (kz_c mw_94)) (fun _ h9 => h9) rfl zd_M_takeAway_14 ?_
        refine lv_iload hx hb zd_M_takeAway_17 (lv_at hl 0 rfl) ?_
        refine kz_riald hx hb hK hro hdy.2.2 1 0 rfl rfl (vp_in_nI (by omega) (by omega)) zd_M_takeAway_19 ?_
        refine lv_topi (fun x29 h9 => ?_)
        obtain rfl : x29 = nI (gqs k7) := h9.trans (kz_dgl gqs (by omega))
        have hbx29 := hd_gqs k7
        refine lv_i2l hx hb zd_M_takeAway_20 rfl ?_
        refine lv_ldc2 (v := (4294967295)) hx hb hown (hts _ (kz_c mw_268)) zd_M_takeAway_21 ?_
        refine lv_topl (fun yl30 h9 => ?_)
        obtain rfl : yl30 = kz_lz (4294967295) := h9.trans (kz_lz_c4294967295)
        refine lv_land hx hb zd_M_takeAway_24 ?_
        refine lv_topl (fun yl31 h9 => ?_)
        obtain rfl : yl31 = kz_lz (((gqs k7 : Nat) : Int)) := h9.trans (kz_maskS (by omega))
        refine lv_lmul hx hb zd_M_takeAway_25 ?_
        refine lv_topl (fun yl32 h9 => ?_)
        obtain rfl : yl32 = kz_lz ((((dg : Nat) : Int)) * (((gqs k7 : Nat) : Int))) := h9.trans (kz_lz_mul _ _)
        refine lv_lload hx hb zd_M_takeAway_26 (lv_at hl 1 rfl) ?_
        refine lv_ladd hx hb zd_M_takeAway_28 ?_
        refine lv_topl (fun yl33 h9 => ?_)
        obtain rfl : yl33 = kz_lz (((((dg : Nat) : Int)) * (((gqs k7 : Nat) : Int))) + (((c4 : Nat) : Int))) := h9.trans (kz_lz_add _ _)
        have hm9 := kx_mm hgs.2.2.1 (hd_gqs k7)
        obtain ⟨m9, hm7⟩ : ∃ m : Nat, m = dg * gqs k7 := ⟨_, rfl⟩
        rw [← hm7] at hm9
        have hm8 : ((dg : Nat) : Int) * ((gqs k7 : Nat) : Int) = (m9 : Int) := by rw [hm7, Int.natCast_mul]
        refine lv_topl (fun yl35 h9 => ?_)
        obtain ⟨n34, en34, rfl⟩ := kz_toN (e := ((((dg : Nat) : Int)) * (((gqs k7 : Nat) : Int))) + (((c4 : Nat) : Int))) h9 (by omega)
        refine lv_lstore (lv' := [(7, .long (kz_lz (((n34 : Nat) : Int)))), (6, .int (nI (k7))), (4, .long (kz_lz (((c4 : Nat) : Int)))), (0, .ref h), (1, .long (kz_lz (((dg : Nat) : Int)))), (3, .int (nI (at_)))]) hx hb zd_M_takeAway_29 hl (by decide) rfl (fun ls hl => ?_)
        refine lv_aload_n hx hb zd_M_takeAway_31 rfl (lv_at hl 3 rfl) ?_
        refine va_get (D := (dC, dI)) (ci := 1) (v := .ref qw) (C := zR_M) (T := zT_M) (N := 6) hx hb hts (fun w h => kz_c (zi_M w h)) hown hK (hro.ob hdy.2.2 (k := 0) rfl) 0 rfl rfl 2 (by decide) (hts _ (kz_c mw_96)) (fun _ h9 => h9) rfl zd_M_takeAway_32 ?_
        refine lv_iload_n hx hb zd_M_takeAway_35 rfl (lv_at hl 5 rfl) ?_
        refine lv_iconst (v := (nI (1))) hx hb zd_M_takeAway_36 (by decide) ?_
        refine kz_iadd hx hb zd_M_takeAway_37 (nI_add _ _) ?_
        refine lv_iload hx hb zd_M_takeAway_38 (lv_at hl 1 rfl) ?_
        refine kz_iadd hx hb zd_M_takeAway_40 (nI_add _ _) ?_
        refine va_iald hx hb hK hdy.1 0 0 rfl rfl (vp_in_nI (by omega) (by omega)) zd_M_takeAway_41 ?_
        refine lv_topi (fun x36 h9 => ?_)
        obtain rfl : x36 = nI (d5 (at_ + 1 + k7)) := h9.trans (kz_dgl d5 (by omega))
        have hbx36 := hd_d5 (at_ + 1 + k7)
        refine lv_i2l hx hb zd_M_takeAway_42 rfl ?_
        refine lv_ldc2 (v := (4294967295)) hx hb hown (hts _ (kz_c mw_268)) zd_M_takeAway_43 ?_
        refine lv_topl (fun yl37 h9 => ?_)
        obtain rfl : yl37 = kz_lz (4294967295) := h9.trans (kz_lz_c4294967295)
        refine lv_land hx hb zd_M_takeAway_46 ?_
        refine lv_topl (fun yl38 h9 => ?_)
        obtain rfl : yl38 = kz_lz (((d5 (at_ + 1 + k7) : Nat) : Int)) := h9.trans (kz_maskS (by omega))
        refine lv_lload hx hb zd_M_takeAway_47 (lv_at hl 0 rfl) ?_
        refine lv_ldc2 (v := (4294967295)) hx hb hown (hts _ (kz_c mw_268)) zd_M_takeAway_49 ?_
        refine lv_topl (fun yl39 h9 => ?_)
        obtain rfl : yl39 = kz_lz (4294967295) := h9.trans (kz_lz_c4294967295)
        refine lv_land hx hb zd_M_takeAway_52 ?_
        refine lv_topl (fun yl40 h9 => ?_)
        obtain rfl : yl40 = kz_lz ((((n34 : Nat) : Int)) % 4294967296) := h9.trans (kz_lz_and32 _)
        refine lv_lsub hx hb zd_M_takeAway_53 ?_
        refine lv_topl (fun yl41 h9 => ?_)
        obtain rfl : yl41 = kz_lz ((((d5 (at_ + 1 + k7) : Nat) : Int)) - ((((n34 : Nat) : Int)) % 4294967296)) := h9.trans (kz_lz_sub _ _)
        refine lv_topl (fun yl43 h9 => ?_)
        obtain ⟨z42, ez42, rfl⟩ : ∃ z : Int, z = (((d5 (at_ + 1 + k7) : Nat) : Int)) - ((((n34 : Nat) : Int)) % 4294967296) ∧ yl43 = kz_lz z := ⟨_, rfl, h9⟩
        refine lv_lstore (lv' := [(9, .long (kz_lz (z42))), (7, .long (kz_lz (((n34 : Nat) : Int)))), (6, .int (nI (k7))), (4, .long (kz_lz (((c4 : Nat) : Int)))), (0, .ref h), (1, .long (kz_lz (((dg : Nat) : Int)))), (3, .int (nI (at_)))]) hx hb zd_M_takeAway_54 hl (by decide) rfl (fun ls hl => ?_)
        refine lv_aload_n hx hb zd_M_takeAway_56 rfl (lv_at hl 4 rfl) ?_
        refine va_get (D := (dC, dI)) (ci := 1) (v := .ref qw) (C := zR_M) (T := zT_M) (N := 6) hx hb hts (fun w h => kz_c (zi_M w h)) hown hK (hro.ob hdy.2.2 (k := 0) rfl) 0 rfl rfl 2 (by decide) (hts _ (kz_c mw_96)) (fun _ h9 => h9) rfl zd_M_takeAway_57 ?_
        refine lv_iload_n hx hb zd_M_takeAway_60 rfl (lv_at hl 6 rfl) ?_
        refine lv_iconst (v := (nI (1))) hx hb zd_M_takeAway_61 (by decide) ?_
        refine kz_iadd hx hb zd_M_takeAway_62 (nI_add _ _) ?_
        refine lv_iload hx hb zd_M_takeAway_63 (lv_at hl 2 rfl) ?_
        refine kz_iadd hx hb zd_M_takeAway_65 (nI_add _ _) ?_
        refine lv_lload hx hb zd_M_takeAway_66 (lv_at hl 0 rfl) ?_
        refine lv_l2i hx hb zd_M_takeAway_68 (kz_lz_i32 z42) ?_
        refine va_iast hx hb hK hdy.1 hdy.2.1 hdy.2.2 0 0 rfl rfl (vp_in_nI (by omega) (by omega)) zd_M_takeAway_69 (fun H locs hP hD hS => ?_)
        have h9 := kz_dgu d5 (k := (at_ + 1 + k7)) ((z42 % 4294967296).toNat) (by omega)
        rw [h9] at hP hD
        obtain ⟨f44, ef44, hd_f44, hdy⟩ : ∃ f44 : Nat → Nat, f44 = kv_up d5 (at_ + 1 + k7) ((z42 % 4294967296).toNat) ∧ (∀ j, f44 j < 4294967296) ∧ kz_dy (dC, dI) vwCl A s.heap H locs [(qw, .inl (cI, 16, .inl (kz_dg f44)))] := ⟨_, rfl, kx_up_lt hd_d5 (by omega), hP, hD, hS⟩
        refine lv_lload hx hb zd_M_takeAway_70 (lv_at hl 1 rfl) ?_
        refine lv_bipush (v := (nI (32))) hx hb zd_M_takeAway_72 (by decide) ?_
        refine lv_lushr hx hb zd_M_takeAway_74 (kz_lz_ushr32 (z := (((n34 : Nat) : Int))) (by omega) (by omega)) ?_
        refine lv_lload hx hb zd_M_takeAway_75 (lv_at hl 0 rfl) ?_
        refine lv_lconst (v := 0) hx hb zd_M_takeAway_77 (by decide) ?_
        refine lv_topl (fun yl45 h9 => ?_)
        obtain rfl : yl45 = kz_lz (0) := h9.trans (kz_lz_c0)
        refine kz_lge (tgt := 86) hx hb zd_M_takeAway_78 zd_M_takeAway_79 (by decide) (fun hc79 => ?_) (fun hc79 => ?_)
        · have hc79 : ¬ z42 < 0 := fun h9 => hc79 ((kz_lz_lt (by omega) (by omega) (by omega) (by omega)).mpr h9)
          refine lv_iconst (v := (nI (0))) hx hb zd_M_takeAway_86 (by decide) ?_
          refine lv_i2l hx hb zd_M_takeAway_87 (kz_lz_i (n := 0) (by omega)) ?_
          refine lv_ladd hx hb zd_M_takeAway_88 ?_
          refine lv_topl (fun yl46 h9 => ?_)
          obtain rfl : yl46 = kz_lz (((((n34 : Nat) : Int)) / 4294967296) + (((0 : Nat) : Int))) := h9.trans (kz_lz_add _ _)
          refine lv_topl (fun yl48 h9 => ?_)
          obtain ⟨n47, en47, rfl⟩ := kz_toN (e := ((((n34 : Nat) : Int)) / 4294967296) + (((0 : Nat) : Int))) h9 (by omega)
          refine lv_lstore (lv' := [(4, .long (kz_lz (((n47 : Nat) : Int)))), (9, .long (kz_lz (z42))), (7, .long (kz_lz (((n34 : Nat) : Int)))), (6, .int (nI (k7))), (0, .ref h), (1, .long (kz_lz (((dg : Nat) : Int)))), (3, .int (nI (at_)))]) hx hb zd_M_takeAway_89 hl (by decide) rfl (fun ls hl => ?_)
          refine lv_iinc (v := (nI (k7) - 1)) (lv' := [(6, .int (nI (k7) - 1)), (4, .long (kz_lz (((n47 : Nat) : Int)))), (9, .long (kz_lz (z42))), (7, .long (kz_lz (((n34 : Nat) : Int)))), (0, .ref h), (1, .long (kz_lz (((dg : Nat) : Int)))), (3, .int (nI (at_)))]) hx hb zd_M_takeAway_91 hl (k := 3) rfl (kz_m1 _) (by decide) rfl (fun ls hl => ?_)
          refine lv_goto (tgt := 7) hx hb zd_M_takeAway_94 (by decide) ?_
          have hi9_hc49 : n47 < 4294967296 := by omega
          have hi9_hI50 : kx_val (kx_w9 f44 at_) (8 - (k7)) + dg * kx_val (kx_rv 8 gqs) (8 - (k7)) = kx_val (kx_w9 gqw at_) (8 - (k7)) + n47 * 4294967296 ^ (8 - (k7)) := by rw [ef44]; have h8 := hk (at_ + 1 + k7) (by omega); have h5 := hd_gqw (at_ + 1 + k7); first | exact kx_taStep (t := n34) (b := 1) (by omega) (by rw [← hm7]; omega) (by omega) (by omega) hI | exact kx_taStep (t := n34) (b := 0) (by omega) (by rw [← hm7]; omega) (by omega) (by omega) hI
          have hi9_hk51 : ∀ j, (j < at_ + 1 + (k7) ∨ at_ + 9 ≤ j) → f44 j = gqw j := by intro j hj; rw [ef44, kv_up_ne _ _ (by omega)]; exact hk j (by omega)
          exact ih7 (n47) f44 _ _ _ (by omega) hd_f44 hi9_hc49 hi9_hI50 hi9_hk51 hdy (lv_sub hl [0, 1, 4, 5, 6] rfl)
        · have hc79 : z42 < 0 := (kz_lz_lt (by omega) (by omega) (by omega) (by omega)).mp hc79
          refine lv_iconst (v := (nI (1))) hx hb zd_M_takeAway_82 (by decide) ?_
          refine lv_goto (tgt := 87) hx hb zd_M_takeAway_83 (by decide) ?_
          refine lv_i2l hx hb zd_M_takeAway_87 (kz_lz_i (n := 1) (by omega)) ?_
          refine lv_ladd hx hb zd_M_takeAway_88 ?_
          refine lv_topl (fun yl52 h9 => ?_)
          obtain rfl : yl52 = kz_lz (((((n34 : Nat) : Int)) / 4294967296) + (((1 : Nat) : Int))) := h9.trans (kz_lz_add _ _)
          refine lv_topl (fun yl54 h9 => ?_)
          obtain ⟨n53, en53, rfl⟩ := kz_toN (e := ((((n34 : Nat) : Int)) / 4294967296) + (((1 : Nat) : Int))) h9 (by omega)
          refine lv_lstore (lv' := [(4, .long (kz_lz (((n53 : Nat) : Int)))), (9, .long (kz_lz (z42))), (7, .long (kz_lz (((n34 : Nat) : Int)))), (6, .int (nI (k7))), (0, .ref h), (1, .long (kz_lz (((dg : Nat) : Int)))), (3, .int (nI (at_)))]) hx hb zd_M_takeAway_89 hl (by decide) rfl (fun ls hl => ?_)
          refine lv_iinc (v := (nI (k7) - 1)) (lv' := [(6, .int (nI (k7) - 1)), (4, .long (kz_lz (((n53 : Nat) : Int)))), (9, .long (kz_lz (z42))), (7, .long (kz_lz (((n34 : Nat) : Int)))), (0, .ref h), (1, .long (kz_lz (((dg : Nat) : Int)))), (3, .int (nI (at_)))]) hx hb zd_M_takeAway_91 hl (k := 3) rfl (kz_m1 _) (by decide) rfl (fun ls hl => ?_)
          refine lv_goto (tgt := 7) hx hb zd_M_takeAway_94 (by decide) ?_
          have hi9_hc55 : n53 < 4294967296 := by omega
          have hi9_hI56 : kx_val (kx_w9 f44 at_) (8 - (k7)) + dg * kx_val (kx_rv 8 gqs) (8 - (k7)) = kx_val (kx_w9 gqw at_) (8 - (k7)) + n53 * 4294967296 ^ (8 - (k7)) := by rw [ef44]; have h8 := hk (at_ + 1 + k7) (by omega); have h5 := hd_gqw (at_ + 1 + k7); first | exact kx_taStep (t := n34) (b := 1) (by omega) (by rw [← hm7]; omega) (by omega) (by omega) hI | exact kx_taStep (t := n34) (b := 0) (by omega) (by rw [← hm7]; omega) (by omega) (by omega) hI
          have hi9_hk57 : ∀ j, (j < at_ + 1 + (k7) ∨ at_ + 9 ≤ j) → f44 j = gqw j := by intro j hj; rw [ef44, kv_up_ne _ _ (by omega)]; exact hk j (by omega)
          exact ih7 (n53) f44 _ _ _ (by omega) hd_f44 hi9_hc55 hi9_hI56 hi9_hk57 hdy (lv_sub hl [0, 1, 4, 5, 6] rfl)
  have hi9_hc58 : n2 < 4294967296 := by omega
  have hi9_hI59 : kx_val (kx_w9 gqw at_) (8 - (8)) + dg * kx_val (kx_rv 8 gqs) (8 - (8)) = kx_val (kx_w9 gqw at_) (8 - (8)) + n2 * 4294967296 ^ (8 - (8)) := by have h0 : n2 = 0 := (by omega); rw [h0, Nat.sub_self]; show 0 + dg * 0 = 0 + 0 * _; omega
  have hi9_hk60 : ∀ j, (j < at_ + 1 + (8) ∨ at_ + 9 ≤ j) → gqw j = gqw j := by exact fun _ _ => rfl
  exact lp7 8 (n2) gqw _ _ _ (by omega) hd_gqw hi9_hc58 hi9_hI59 hi9_hk60 hdy (lv_sub hl [0, 1, 2, 3, 4] rfl)

set_option maxHeartbeats 4000000 in
set_option maxRecDepth 100000 in
/-- KeyMeeting$Modulus.reduce()V -/
theorem c_E_reduce (l : Launch) (dC : Nat → ClassId) (dI : Nat → Nat → Nat) (cI cAA cB cL : ClassId) (qw h qs qf ql qr : Nat) (gqw : Nat → Nat) (sh : Nat) (gqs : Nat → Nat) (sz : Nat) (hd_gqw : ∀ j, gqw j < 4294967296) (hd_gqs : ∀ j, gqs j < 4294967296) (h31 : 2147483648 ≤ gqs 0) (hX : kx_V 16 gqw < kx_V 8 gqs * 4294967296 ^ 8) (hS0 : 0 < kx_V 8 gqs) : Met l zy_M_reduce zw_M_reduce { frames := 2, cells := 0, slots := 0, locals := 56 } (kz_Pc (dC, dI) vwCl [(cI, .int), (cAA, .array .int), (cB, .byte), (cL, .long)] [] [] [.ref h] [(qw, .inl (cI, 16, .inl (kz_dg gqw)))] [(h, .inr (1, [.ref qs, .ref qf, .ref qw, .ref ql, .ref qr, .int (nI (sh))])), (qs, .inl (cI, 8, .inl (kz_dg gqs)))] sz) (va_Qv (fun (u : (Nat → Nat)) => (∀ j, u j < 4294967296) ∧ (kx_val (kx_rv 16 u) 8 = kx_V 16 gqw % kx_V 8 gqs) ∧ True) (kz_B (dC, dI) vwCl (va_A [(qw, .inl (cI, 16, .inl (kz_dg gqw)))] sz) (fun u : (Nat → Nat) => [(qw, .inl (cI, 16, .inl (kz_dg u)))])) (va_A [(qw, .inl (cI, 16, .inl (kz_dg gqw)))] sz)) 0 0 (va_A [(qw, .inl (cI, 16, .inl (kz_dg gqw)))] sz) := by
  refine kz_met (y := zy_M_reduce) (ws := zw_M_reduce) (av := [.ref h]) (sz := sz) (Qc := fun A => va_Qv (fun (u : (Nat → Nat)) => (∀ j, u j < 4294967296) ∧ (kx_val (kx_rv 16 u) 8 = kx_V 16 gqw % kx_V 8 gqs) ∧ True) (kz_B (dC, dI) vwCl A (fun u : (Nat → Nat) => [(qw, .inl (cI, 16, .inl (kz_dg u)))])) A) (cc := zc_M_reduce) (maxL := 4) (ret := none) (by decide) rfl (Nat.le_of_ble_eq_true rfl) ?_
  intro p e s m below meth c A ls F hA hdy hK hro hZ hN hl
  obtain ⟨hx, hb, hml, hr, hown, hlocks, hts, hnm⟩ := id F
  have hl : lv_has ls 4 [(0, .ref h)] := hl
  refine lv_iconst (v := (nI (0))) hx hb zd_M_reduce_0 (by decide) ?_
  refine lv_istore_n (lv' := [(1, .int (nI (0))), (0, .ref h)]) hx hb zd_M_reduce_1 rfl hl (by decide) rfl (fun ls hl => ?_)
  have lp2 : ∀ (n2 k2 : Nat) (d1 : Nat → Nat) (H : Heap) (locs : List Loc) (ls : Array Slot), k2 ≤ 8 → 8 - k2 < n2 → (∀ j, d1 j < 4294967296) → (kx_rd d1 gqs (kx_V 16 gqw) (k2)) → kz_dy (dC, dI) vwCl A s.heap H locs [(qw, .inl (cI, 16, .inl (kz_dg d1)))] → lv_has ls 4 [(1, .int (nI (k2))), (0, .ref h)] → W p l e { frames := 2, cells := 0, slots := 0, locals := 56 } s m ([.ref h] : List Value).toArray below meth c H locs 0 0 (MQ below (va_Qv (fun (u : (Nat → Nat)) => (∀ j, u j < 4294967296) ∧ (kx_val (kx_rv 16 u) 8 = kx_V 16 gqw % kx_V 8 gqs) ∧ True) (kz_B (dC, dI) vwCl A (fun u : (Nat → Nat) => [(qw, .inl (cI, 16, .inl (kz_dg u)))])) A) ([.ref h] : List Value).toArray s 0 0 A) (F0 m 2 ls []) := by
    intro n2
    induction n2 with
    | zero => intro k2; intros; omega
    | succ n2 ih2 =>
      intro k2 d1 H locs ls hi2 hn2 hd_d1 hR hdy hl
      refine lv_iload_n hx hb zd_M_reduce_2 rfl (lv_at hl 0 rfl) ?_
      refine lv_bipush (v := (nI (8))) hx hb zd_M_reduce_3 (by decide) ?_
      refine lv_icmp_ge (tgt := 32) hx hb zd_M_reduce_5 (by decide) (fun hc5 => ?_) (fun hc5 => ?_)
      · have hc5 : 8 ≤ k2 := (nI_leI (by omega) (by omega)).mp hc5
        exact kz_vret F (d1) hdy (⟨hd_d1, by have h8 : k2 = 8 := (by omega); subst h8; exact kx_rdEnd hR, trivial⟩) zd_M_reduce_32
      · have hc5 : ¬ 8 ≤ k2 := fun h9 => hc5 ((nI_leI (by omega) (by omega)).mpr h9)
        refine lv_aload_n hx hb zd_M_reduce_8 rfl (lv_at hl 1 rfl) ?_
        refine lv_iload_n hx hb zd_M_reduce_9 rfl (lv_at hl 0 rfl) ?_
        refine kz_calll (wk := [(qw, .inl (cI, 16, .inl (kz_dg d1)))]) (va_runV (As := [.int (nI (k2))]) (rest := []) ⟨hx, hb, hml, hown, hts⟩ (c_E_guessDigit l dC dI cI cAA cB cL h qs qf qw ql qr sh gqs d1 k2 _ hd_gqs hd_d1 (by first | omega | assumption)) (cwV 1 hts (kz_g (kz_mc mw_264 (kz_mc mw_266 (kz_mc mw_8 (kz_mc mw_41 kz_mn)))) mw_267) rfl rfl rfl (by decide +kernel) ⟨Nat.le_of_ble_eq_true rfl, Nat.le_of_ble_eq_true rfl⟩) (kz_preVr hdy hA hK hro hZ hN [] (by decide) rfl [(true, 0), (true, 1), (false, 0)] rfl (by decide) [0, 1, 2, 3] rfl (fun _ h => by cases h) (fun _ h => by cases h) rfl (ci := 1) (q0 := 0) rfl rfl rfl) rfl rfl hl.1 rfl (lv_room (Nat.le_of_ble_eq_true rfl)) zd_M_reduce_10 ⟨Nat.le_of_ble_eq_true rfl, Nat.le_of_ble_eq_true rfl⟩) hdy hA [] [0] rfl rfl (by decide) (by decide) (fun r u H locs hw hdy => ?_)
        try dsimp only at hw
        obtain ⟨⟨b2, hb2, rfl⟩, -⟩ := hw
        have hdy : kz_dy (dC, dI) vwCl A s.heap H locs [(qw, .inl (cI, 16, .inl (kz_dg d1)))] := hdy.sub [0] (by decide) rfl
        have hgs := kx_gsOf hd_d1 hd_gqs h31 (kx_rdT (by omega) hR) hb2
        have hbl9 := hgs.2.2.1
        refine lv_lstore_n (lv' := [(2, .long (kz_lz (((b2 : Nat) : Int)))), (1, .int (nI (k2))), (0, .ref h)]) hx hb zd_M_reduce_13 rfl hl (by decide) rfl (fun ls hl => ?_)
        refine lv_lload_n hx hb zd_M_reduce_14 rfl (lv_at hl 0 rfl) ?_
        refine lv_lconst (v := 0) hx hb zd_M_reduce_15 (by decide) ?_
        refine lv_topl (fun yl3 h9 => ?_)
        obtain rfl : yl3 = kz_lz (0) := h9.trans (kz_lz_c0)
        refine kz_leq (tgt := 26) hx hb zd_M_reduce_16 zd_M_reduce_17 (by decide) (fun hc17 => ?_) (fun hc17 => ?_)
        · have hc17 : (((b2 : Nat) : Int)) = 0 := (kz_lz_eq (by omega) (by omega) (by omega) (by omega)).mp hc17
          refine lv_iinc (v := (nI (k2 + 1))) (lv' := [(1, .int (nI (k2 + 1))), (2, .long (kz_lz (((b2 : Nat) : Int)))), (0, .ref h)]) hx hb zd_M_reduce_26 hl (k := 1) rfl (nI_1 _) (by decide) rfl (fun ls hl => ?_)
          refine lv_goto (tgt := 2) hx hb zd_M_reduce_29 (by decide) ?_
          have hi9_hR4 : kx_rd d1 gqs (kx_V 16 gqw) (k2 + 1) := by first | exact kx_rdStep (by omega) hd_d1 hS0 hR (kx_gs0 hd_gqs (by have h9 : b2 = 0 := (by omega); rw [h9] at hgs; exact hgs)) (fun _ _ => rfl)
          exact ih2 (k2 + 1) d1 _ _ _ (by omega) (by omega) hd_d1 hi9_hR4 hdy (lv_sub hl [0, 2] rfl)
        · have hc17 : ¬ (((b2 : Nat) : Int)) = 0 := fun h9 => hc17 ((kz_lz_eq (by omega) (by omega) (by omega) (by omega)).mpr h9)
          refine lv_aload_n hx hb zd_M_reduce_20 rfl (lv_at hl 2 rfl) ?_
          refine lv_lload_n hx hb zd_M_reduce_21 rfl (lv_at hl 0 rfl) ?_
          refine lv_iload_n hx hb zd_M_reduce_22 rfl (lv_at hl 1 rfl) ?_
          refine kz_callv (wk := []) (va_runV (As := [.long (kz_lz (((b2 : Nat) : Int))), .int (nI (k2))]) (rest := []) ⟨hx, hb, hml, hown, hts⟩ (c_E_takeAway l dC dI cI cAA cB cL qw h qs qf ql qr d1 sh gqs b2 k2 _ hd_d1 hd_gqs (by first | omega | assumption) (by first | omega | assumption)) (cwV 2 hts (kz_g (kz_mc mw_269 (kz_mc mw_271 (kz_mc mw_9 (kz_mc mw_41 kz_mn)))) mw_272) rfl rfl rfl (by decide +kernel) ⟨Nat.le_of_ble_eq_true rfl, Nat.le_of_ble_eq_true rfl⟩) (kz_preVr hdy hA hK hro hZ hN [0] (by decide) rfl [(true, 0), (true, 1)] rfl (by decide) [0, 1, 2, 3] rfl (fun _ h => by cases h) (fun _ h => by cases h) rfl (ci := 1) (q0 := 0) rfl rfl rfl) rfl rfl hl.1 rfl (lv_room (Nat.le_of_ble_eq_true rfl)) zd_M_reduce_23 ⟨Nat.le_of_ble_eq_true rfl, Nat.le_of_ble_eq_true rfl⟩) hdy hA [0] [] rfl rfl (by decide) (by decide) (fun u H locs hw hdy => ?_)
          obtain ⟨d5, rfl⟩ : ∃ z, z = u := ⟨_, rfl⟩
          try dsimp only at hw
          obtain ⟨hd_d5, q6, q7, -⟩ := hw
          have hdy : kz_dy (dC, dI) vwCl A s.heap H locs [(qw, .inl (cI, 16, .inl (kz_dg d5)))] := hdy.sub [0] (by decide) rfl
          refine lv_iinc (v := (nI (k2 + 1))) (lv' := [(1, .int (nI (k2 + 1))), (2, .long (kz_lz (((b2 : Nat) : Int)))), (0, .ref h)]) hx hb zd_M_reduce_26 hl (k := 1) rfl (nI_1 _) (by decide) rfl (fun ls hl => ?_)
          refine lv_goto (tgt := 2) hx hb zd_M_reduce_29 (by decide) ?_
          have hi9_hR8 : kx_rd d5 gqs (kx_V 16 gqw) (k2 + 1) := by first | exact kx_rdStep (by omega) hd_d1 hS0 hR (kx_gs0 hd_gqs (by have h9 : b2 = 0 := (by omega); rw [h9] at hgs; exact hgs)) (fun _ _ => rfl) | exact kx_rdStep (by omega) hd_d1 hS0 hR q6 q7
          exact ih2 (k2 + 1) d5 _ _ _ (by omega) (by omega) hd_d5 hi9_hR8 hdy (lv_sub hl [0, 2] rfl)
  have hi9_hR9 : kx_rd gqw gqs (kx_V 16 gqw) (0) := by exact kx_rd0 hX
  exact lp2 (8 - 0 + 1) 0 gqw _ _ _ (by omega) (by omega) hd_gqw hi9_hR9 hdy (lv_sub hl [0, 1] rfl)

set_option maxHeartbeats 4000000 in
set_option maxRecDepth 100000 in
/-- KeyMeeting$Modulus.multiply([I[I[I)V -/
theorem c_E_mulMod (l : Launch) (dC : Nat → ClassId) (dI : Nat → Nat → Nat) (cI cAA cB cL : ClassId) (qf qw ql o h qs qr a b : Nat) (gqf : Nat → Nat) (gqw : Nat → Nat) (gql : Nat → Nat) (go : Nat → Nat) (sh : Nat) (gqs : Nat → Nat) (ga : Nat → Nat) (gb : Nat → Nat) (sz : Nat) (hd_gqf : ∀ j, gqf j < 4294967296) (hd_gqw : ∀ j, gqw j < 4294967296) (hd_gql : ∀ j, gql j < 4294967296) (hd_go : ∀ j, go j < 4294967296) (hd_gqs : ∀ j, gqs j < 4294967296) (hd_ga : ∀ j, ga j < 4294967296) (hd_gb : ∀ j, gb j < 4294967296) (hM : kx_isM gqs sh) (hle : kx_V 8 gb ≤ kx_md gqs sh) : Met l zy_M_multiply zw_M_multiply { frames := 3, cells := 0, slots := 0, locals := 79 } (kz_Pc (dC, dI) vwCl [(cI, .int), (cAA, .array .int), (cB, .byte), (cL, .long)] [] [] [.ref h, .ref a, .ref b, .ref o] [(qf, .inl (cI, 8, .inl (kz_dg gqf))), (qw, .inl (cI, 16, .inl (kz_dg gqw))), (ql, .inl (cI, 8, .inl (kz_dg gql))), (o, .inl (cI, 8, .inl (kz_dg go)))] [(h, .inr (1, [.ref qs, .ref qf, .ref qw, .ref ql, .ref qr, .int (nI (sh))])), (qs, .inl (cI, 8, .inl (kz_dg gqs))), (a, .inl (cI, 8, .inl (kz_dg ga))), (b, .inl (cI, 8, .inl (kz_dg gb)))] sz) (va_Qv (fun (u : (Nat → Nat) × (Nat → Nat) × (Nat → Nat) × (Nat → Nat)) => (∀ j, u.1 j < 4294967296) ∧ (∀ j, u.2.1 j < 4294967296) ∧ (∀ j, u.2.2.1 j < 4294967296) ∧ (∀ j, u.2.2.2 j < 4294967296) ∧ (kx_V 8 u.2.2.2 = kx_V 8 ga * kx_V 8 gb % kx_md gqs sh) ∧ True) (kz_B (dC, dI) vwCl (va_A [(qf, .inl (cI, 8, .inl (kz_dg gqf))), (qw, .inl (cI, 16, .inl (kz_dg gqw))), (ql, .inl (cI, 8, .inl (kz_dg gql))), (o, .inl (cI, 8, .inl (kz_dg go)))] sz) (fun u : (Nat → Nat) × (Nat → Nat) × (Nat → Nat) × (Nat → Nat) => [(qf, .inl (cI, 8, .inl (kz_dg u.1))), (qw, .inl (cI, 16, .inl (kz_dg u.2.1))), (ql, .inl (cI, 8, .inl (kz_dg u.2.2.1))), (o, .inl (cI, 8, .inl (kz_dg u.2.2.2)))])) (va_A [(qf, .inl (cI, 8, .inl (kz_dg gqf))), (qw, .inl (cI, 16, .inl (kz_dg gqw))), (ql, .inl (cI, 8, .inl (kz_dg gql))), (o, .inl (cI, 8, .inl (kz_dg go)))] sz)) 0 0 (va_A [(qf, .inl (cI, 8, .inl (kz_dg gqf))), (qw, .inl (cI, 16, .inl (kz_dg gqw))), (ql, .inl (cI, 8, .inl (kz_dg gql))), (o, .inl (cI, 8, .inl (kz_dg go)))] sz) := by
  refine kz_met (y := zy_M_multiply) (ws := zw_M_multiply) (av := [.ref h, .ref a, .ref b, .ref o]) (sz := sz) (Qc := fun A => va_Qv (fun (u : (Nat → Nat) × (Nat → Nat) × (Nat → Nat) × (Nat → Nat)) => (∀ j, u.1 j < 4294967296) ∧ (∀ j, u.2.1 j < 4294967296) ∧ (∀ j, u.2.2.1 j < 4294967296) ∧ (∀ j, u.2.2.2 j < 4294967296) ∧ (kx_V 8 u.2.2.2 = kx_V 8 ga * kx_V 8 gb % kx_md gqs sh) ∧ True) (kz_B (dC, dI) vwCl A (fun u : (Nat → Nat) × (Nat → Nat) × (Nat → Nat) × (Nat → Nat) => [(qf, .inl (cI, 8, .inl (kz_dg u.1))), (qw, .inl (cI, 16, .inl (kz_dg u.2.1))), (ql, .inl (cI, 8, .inl (kz_dg u.2.2.1))), (o, .inl (cI, 8, .inl (kz_dg u.2.2.2)))])) A) (cc := zc_M_multiply) (maxL := 4) (ret := none) (by decide) rfl (Nat.le_of_ble_eq_true rfl) ?_
  intro p e s m below meth c A ls F hA hdy hK hro hZ hN hl
  obtain ⟨hx, hb, hml, hr, hown, hlocks, hts, hnm⟩ := id F
  have hl : lv_has ls 4 [(0, .ref h), (1, .ref a), (2, .ref b), (3, .ref o)] := hl
  have hsh := hM.1
  refine lv_aload_n hx hb zd_M_multiply_0 rfl (lv_at hl 2 rfl) ?_
  refine lv_aload_n hx hb zd_M_multiply_1 rfl (lv_at hl 0 rfl) ?_
  refine va_get (D := (dC, dI)) (ci := 1) (v := .int (nI (sh))) (C := zR_M) (T := zT_M) (N := 6) hx hb hts (fun w h => kz_c (zi_M w h)) hown hK (hro.ob hdy.2.2 (k := 0) rfl) 0 rfl rfl 5 (by decide) (hts _ (kz_c mw_99)) (fun _ h9 => h9) rfl zd_M_multiply_2 ?_
  refine lv_aload_n hx hb zd_M_multiply_5 rfl (lv_at hl 0 rfl) ?_
  refine va_get (D := (dC, dI)) (ci := 1) (v := .ref qf) (C := zR_M) (T := zT_M) (N := 6) hx hb hts (fun w h => kz_c (zi_M w h)) hown hK (hro.ob hdy.2.2 (k := 0) rfl) 0 rfl rfl 1 (by decide) (hts _ (kz_c mw_95)) (fun _ h9 => h9) rfl zd_M_multiply_6 ?_
  refine kz_callv (wk := [(qw, .inl (cI, 16, .inl (kz_dg gqw))), (ql, .inl (cI, 8, .inl (kz_dg gql))), (o, .inl (cI, 8, .inl (kz_dg go)))]) (va_runS (As := [.ref b, .int (nI (sh)), .ref qf]) (rest := []) ⟨hx, hb, hml, hown, hts⟩ (c_E_shiftLeft l dC dI cI cAA cB cL qf b gqf gb sh _ hd_gqf hd_gb (by first | omega | assumption)) (va_cwS 3 hts (kz_g (kz_mc mw_243 (kz_mc mw_244 (kz_mc mw_50 kz_mn))) mw_245) rfl rfl rfl (by decide +kernel) ⟨Nat.le_of_ble_eq_true rfl, Nat.le_of_ble_eq_true rfl⟩) (kz_preS hdy hA hK hro hZ hN [0] (by decide) rfl [(true, 3)] rfl (by decide) [0, 1, 2, 3] rfl (fun _ h => by cases h) (fun _ h => by cases h) rfl) rfl rfl hl.1 rfl (lv_room (Nat.le_of_ble_eq_true rfl)) zd_M_multiply_9 ⟨Nat.le_of_ble_eq_true rfl, Nat.le_of_ble_eq_true rfl⟩) hdy hA [0] [1, 2, 3] rfl rfl (by decide) (by decide) (fun u H locs hw hdy => ?_)
  obtain ⟨d1, rfl⟩ : ∃ z, z = u := ⟨_, rfl⟩
  try dsimp only at hw
  obtain ⟨hd_d1, q2, -⟩ := hw
  have hdy : kz_dy (dC, dI) vwCl A s.heap H locs [(qf, .inl (cI, 8, .inl (kz_dg d1))), (qw, .inl (cI, 16, .inl (kz_dg gqw))), (ql, .inl (cI, 8, .inl (kz_dg gql))), (o, .inl (cI, 8, .inl (kz_dg go)))] := hdy.sub [3, 0, 1, 2] (by decide) rfl
  obtain ⟨hF, hFl⟩ := kx_fac hM hd_gqs hd_gb hle q2
  refine lv_aload_n hx hb zd_M_multiply_12 rfl (lv_at hl 1 rfl) ?_
  refine lv_aload_n hx hb zd_M_multiply_13 rfl (lv_at hl 0 rfl) ?_
  refine va_get (D := (dC, dI)) (ci := 1) (v := .ref qf) (C := zR_M) (T := zT_M) (N := 6) hx hb hts (fun w h => kz_c (zi_M w h)) hown hK (hro.ob hdy.2.2 (k := 0) rfl) 0 rfl rfl 1 (by decide) (hts _ (kz_c mw_95)) (fun _ h9 => h9) rfl zd_M_multiply_14 ?_
  refine lv_aload_n hx hb zd_M_multiply_17 rfl (lv_at hl 0 rfl) ?_
  refine va_get (D := (dC, dI)) (ci := 1) (v := .ref qw) (C := zR_M) (T := zT_M) (N := 6) hx hb hts (fun w h => kz_c (zi_M w h)) hown hK (hro.ob hdy.2.2 (k := 0) rfl) 0 rfl rfl 2 (by decide) (hts _ (kz_c mw_96)) (fun _ h9 => h9) rfl zd_M_multiply_18 ?_
  refine kz_callv (wk := [(qf, .inl (cI, 8, .inl (kz_dg d1))), (ql, .inl (cI, 8, .inl (kz_dg gql))), (o, .inl (cI, 8, .inl (kz_dg go)))]) (va_runS (As := [.ref a, .ref qf, .ref qw]) (rest := []) ⟨hx, hb, hml, hown, hts⟩ (c_E_multiply l dC dI cI cAA cB cL qw a qf gqw ga d1 _ hd_gqw hd_ga hd_d1) (va_cwS 3 hts (kz_g (kz_mc mw_259 (kz_mc mw_204 (kz_mc mw_50 kz_mn))) mw_205) rfl rfl rfl (by decide +kernel) ⟨Nat.le_of_ble_eq_true rfl, Nat.le_of_ble_eq_true rfl⟩) (kz_preS hdy hA hK hro hZ hN [1] (by decide) rfl [(true, 2), (false, 0)] rfl (by decide) [0, 1, 2, 3] rfl (fun _ h => by cases h) (fun _ h => by cases h) rfl) rfl rfl hl.1 rfl (lv_room (Nat.le_of_ble_eq_true rfl)) zd_M_multiply_21 ⟨Nat.le_of_ble_eq_true rfl, Nat.le_of_ble_eq_true rfl⟩) hdy hA [1] [0, 2, 3] rfl rfl (by decide) (by decide) (fun u H locs hw hdy => ?_)
  obtain ⟨d3, rfl⟩ : ∃ z, z = u := ⟨_, rfl⟩
  try dsimp only at hw
  obtain ⟨hd_d3, q4, -⟩ := hw
  have hdy : kz_dy (dC, dI) vwCl A s.heap H locs [(qf, .inl (cI, 8, .inl (kz_dg d1))), (qw, .inl (cI, 16, .inl (kz_dg d3))), (ql, .inl (cI, 8, .inl (kz_dg gql))), (o, .inl (cI, 8, .inl (kz_dg go)))] := hdy.sub [0, 3, 1, 2] (by decide) rfl
  have hS0 := kx_VsPos hM
  have h31 := hM.2.2
  have hX := kx_wideLt (a := ga) hd_ga hS0 q4 (by rw [hF]; exact hFl)
  refine lv_aload_n hx hb zd_M_multiply_24 rfl (lv_at hl 0 rfl) ?_
  refine kz_callv (wk := [(qf, .inl (cI, 8, .inl (kz_dg d1))), (ql, .inl (cI, 8, .inl (kz_dg gql))), (o, .inl (cI, 8, .inl (kz_dg go)))]) (va_runV (As := []) (rest := []) ⟨hx, hb, hml, hown, hts⟩ (c_E_reduce l dC dI cI cAA cB cL qw h qs qf ql qr d3 sh gqs _ hd_d3 hd_gqs (by first | omega | assumption) (by first | omega | assumption) (by first | omega | assumption)) (cwV 0 hts (kz_g (kz_mc mw_260 (kz_mc mw_262 (kz_mc mw_7 (kz_mc mw_41 kz_mn)))) mw_263) rfl rfl rfl (by decide +kernel) ⟨Nat.le_of_ble_eq_true rfl, Nat.le_of_ble_eq_true rfl⟩) (kz_preVr hdy hA hK hro hZ hN [1] (by decide) rfl [(true, 0), (true, 1)] rfl (by decide) [0, 1, 2, 3] rfl (fun _ h => by cases h) (fun _ h => by cases h) rfl (ci := 1) (q0 := 0) rfl rfl rfl) rfl rfl hl.1 rfl (lv_room (Nat.le_of_ble_eq_true rfl)) zd_M_multiply_25 ⟨Nat.le_of_ble_eq_true rfl, Nat.le_of_ble_eq_true rfl⟩) hdy hA [1] [0, 2, 3] rfl rfl (by decide) (by decide) (fun u H locs hw hdy => ?_)
  obtain ⟨d5, rfl⟩ : ∃ z, z = u := ⟨_, rfl⟩
  try dsimp only at hw
  obtain ⟨hd_d5, q6, -⟩ := hw
  have hdy : kz_dy (dC, dI) vwCl A s.heap H locs [(qf, .inl (cI, 8, .inl (kz_dg d1))), (qw, .inl (cI, 16, .inl (kz_dg d5))), (ql, .inl (cI, 8, .inl (kz_dg gql))), (o, .inl (cI, 8, .inl (kz_dg go)))] := hdy.sub [0, 3, 1, 2] (by decide) rfl
  refine lv_aload_n hx hb zd_M_multiply_28 rfl (lv_at hl 0 rfl) ?_
  refine va_get (D := (dC, dI)) (ci := 1) (v := .ref qw) (C := zR_M) (T := zT_M) (N := 6) hx hb hts (fun w h => kz_c (zi_M w h)) hown hK (hro.ob hdy.2.2 (k := 0) rfl) 0 rfl rfl 2 (by decide) (hts _ (kz_c mw_96)) (fun _ h9 => h9) rfl zd_M_multiply_29 ?_
  refine lv_bipush (v := (nI (8))) hx hb zd_M_multiply_32 (by decide) ?_
  refine lv_aload_n hx hb zd_M_multiply_34 rfl (lv_at hl 0 rfl) ?_
  refine va_get (D := (dC, dI)) (ci := 1) (v := .ref ql) (C := zR_M) (T := zT_M) (N := 6) hx hb hts (fun w h => kz_c (zi_M w h)) hown hK (hro.ob hdy.2.2 (k := 0) rfl) 0 rfl rfl 3 (by decide) (hts _ (kz_c mw_97)) (fun _ h9 => h9) rfl zd_M_multiply_35 ?_
  refine lv_iconst (v := (nI (0))) hx hb zd_M_multiply_38 (by decide) ?_
  refine lv_bipush (v := (nI (8))) hx hb zd_M_multiply_39 (by decide) ?_
  refine va_copyi hx hb (hml.trans hl.1.symm) hown (hts _ (kz_c mw_277)) (hts _ (kz_c mw_214)) (hts _ (kz_c mw_213)) (hts _ (kz_c mw_51)) hK hdy.1 hdy.2.1 hdy.2.2 1 2 0 0 rfl rfl rfl rfl rfl (nI_pos (by omega)) (nI_pos (by omega)) (nI_pos (by omega)) (by (repeat rw [nI_clamp (by omega)]) <;> omega) (by (repeat rw [nI_clamp (by omega)]) <;> omega) (fun _ _ => rfl) (Nat.le_of_ble_eq_true rfl) (Nat.le_of_ble_eq_true rfl) zd_M_multiply_41 (fun H locs hP hD hS => ?_)
  rw [show (nI 8).toNatClampNeg = 8 from nI_clamp (by omega), show (nI 0).toNatClampNeg = 0 from nI_clamp (by omega), kx_cpd] at hP hD
  obtain ⟨f7, ef7, hd_f7, hdy⟩ : ∃ f7 : Nat → Nat, f7 = kx_cp d5 gql 8 0 8 ∧ (∀ j, f7 j < 4294967296) ∧ kz_dy (dC, dI) vwCl A s.heap H locs [(qf, .inl (cI, 8, .inl (kz_dg d1))), (qw, .inl (cI, 16, .inl (kz_dg d5))), (ql, .inl (cI, 8, .inl (kz_dg f7))), (o, .inl (cI, 8, .inl (kz_dg go)))] := ⟨_, rfl, kx_cp_lt hd_d5 hd_gql, hP, hD, hS⟩
  refine lv_aload_n hx hb zd_M_multiply_44 rfl (lv_at hl 0 rfl) ?_
  refine va_get (D := (dC, dI)) (ci := 1) (v := .ref ql) (C := zR_M) (T := zT_M) (N := 6) hx hb hts (fun w h => kz_c (zi_M w h)) hown hK (hro.ob hdy.2.2 (k := 0) rfl) 0 rfl rfl 3 (by decide) (hts _ (kz_c mw_97)) (fun _ h9 => h9) rfl zd_M_multiply_45 ?_
  refine lv_aload_n hx hb zd_M_multiply_48 rfl (lv_at hl 0 rfl) ?_
  refine va_get (D := (dC, dI)) (ci := 1) (v := .int (nI (sh))) (C := zR_M) (T := zT_M) (N := 6) hx hb hts (fun w h => kz_c (zi_M w h)) hown hK (hro.ob hdy.2.2 (k := 0) rfl) 0 rfl rfl 5 (by decide) (hts _ (kz_c mw_99)) (fun _ h9 => h9) rfl zd_M_multiply_49 ?_
  refine lv_aload_n hx hb zd_M_multiply_52 rfl (lv_at hl 3 rfl) ?_
  refine kz_callv (wk := [(qf, .inl (cI, 8, .inl (kz_dg d1))), (qw, .inl (cI, 16, .inl (kz_dg d5))), (ql, .inl (cI, 8, .inl (kz_dg f7)))]) (va_runS (As := [.ref ql, .int (nI (sh)), .ref o]) (rest := []) ⟨hx, hb, hml, hown, hts⟩ (c_E_shiftRight l dC dI cI cAA cB cL o ql go f7 sh _ hd_go hd_f7 (by first | omega | assumption)) (va_cwS 3 hts (kz_g (kz_mc mw_278 (kz_mc mw_279 (kz_mc mw_50 kz_mn))) mw_280) rfl rfl rfl (by decide +kernel) ⟨Nat.le_of_ble_eq_true rfl, Nat.le_of_ble_eq_true rfl⟩) (kz_preS hdy hA hK hro hZ hN [3] (by decide) rfl [(false, 2)] rfl (by decide) [0, 1, 2, 3] rfl (fun _ h => by cases h) (fun _ h => by cases h) rfl) rfl rfl hl.1 rfl (lv_room (Nat.le_of_ble_eq_true rfl)) zd_M_multiply_53 ⟨Nat.le_of_ble_eq_true rfl, Nat.le_of_ble_eq_true rfl⟩) hdy hA [3] [0, 1, 2] rfl rfl (by decide) (by decide) (fun u H locs hw hdy => ?_)
  obtain ⟨d8, rfl⟩ : ∃ z, z = u := ⟨_, rfl⟩
  try dsimp only at hw
  obtain ⟨hd_d8, q9, -⟩ := hw
  have hdy : kz_dy (dC, dI) vwCl A s.heap H locs [(qf, .inl (cI, 8, .inl (kz_dg d1))), (qw, .inl (cI, 16, .inl (kz_dg d5))), (ql, .inl (cI, 8, .inl (kz_dg f7))), (o, .inl (cI, 8, .inl (kz_dg d8)))] := hdy.sub [0, 1, 2, 3] (by decide) rfl
  exact kz_vret F (d1, d5, f7, d8) hdy (⟨hd_d1, hd_d5, hd_f7, hd_d8, by exact kx_mulEnd hM hd_f7 hF q4 q6 ef7 q9, trivial⟩) zd_M_multiply_56

set_option maxHeartbeats 4000000 in
set_option maxRecDepth 100000 in
/-- KeyMeeting$Modulus.multiply([I[I[I)V -/
theorem c_E_mulMod2 (l : Launch) (dC : Nat → ClassId) (dI : Nat → Nat → Nat) (cI cAA cB cL : ClassId) (qf qw ql o h qs qr : Nat) (gqf : Nat → Nat) (gqw : Nat → Nat) (gql : Nat → Nat) (go : Nat → Nat) (sh : Nat) (gqs : Nat → Nat) (sz : Nat) (hd_gqf : ∀ j, gqf j < 4294967296) (hd_gqw : ∀ j, gqw j < 4294967296) (hd_gql : ∀ j, gql j < 4294967296) (hd_go : ∀ j, go j < 4294967296) (hd_gqs : ∀ j, gqs j < 4294967296) (hM : kx_isM gqs sh) (hle : kx_V 8 go ≤ kx_md gqs sh) : Met l zy_M_multiply zw_M_multiply { frames := 3, cells := 0, slots := 0, locals := 79 } (kz_Pc (dC, dI) vwCl [(cI, .int), (cAA, .array .int), (cB, .byte), (cL, .long)] [] [] [.ref h, .ref o, .ref o, .ref o] [(qf, .inl (cI, 8, .inl (kz_dg gqf))), (qw, .inl (cI, 16, .inl (kz_dg gqw))), (ql, .inl (cI, 8, .inl (kz_dg gql))), (o, .inl (cI, 8, .inl (kz_dg go)))] [(h, .inr (1, [.ref qs, .ref qf, .ref qw, .ref ql, .ref qr, .int (nI (sh))])), (qs, .inl (cI, 8, .inl (kz_dg gqs)))] sz) (va_Qv (fun (u : (Nat → Nat) × (Nat → Nat) × (Nat → Nat) × (Nat → Nat)) => (∀ j, u.1 j < 4294967296) ∧ (∀ j, u.2.1 j < 4294967296) ∧ (∀ j, u.2.2.1 j < 4294967296) ∧ (∀ j, u.2.2.2 j < 4294967296) ∧ (kx_V 8 u.2.2.2 = kx_V 8 go * kx_V 8 go % kx_md gqs sh) ∧ True) (kz_B (dC, dI) vwCl (va_A [(qf, .inl (cI, 8, .inl (kz_dg gqf))), (qw, .inl (cI, 16, .inl (kz_dg gqw))), (ql, .inl (cI, 8, .inl (kz_dg gql))), (o, .inl (cI, 8, .inl (kz_dg go)))] sz) (fun u : (Nat → Nat) × (Nat → Nat) × (Nat → Nat) × (Nat → Nat) => [(qf, .inl (cI, 8, .inl (kz_dg u.1))), (qw, .inl (cI, 16, .inl (kz_dg u.2.1))), (ql, .inl (cI, 8, .inl (kz_dg u.2.2.1))), (o, .inl (cI, 8, .inl (kz_dg u.2.2.2)))])) (va_A [(qf, .inl (cI, 8, .inl (kz_dg gqf))), (qw, .inl (cI, 16, .inl (kz_dg gqw))), (ql, .inl (cI, 8, .inl (kz_dg gql))), (o, .inl (cI, 8, .inl (kz_dg go)))] sz)) 0 0 (va_A [(qf, .inl (cI, 8, .inl (kz_dg gqf))), (qw, .inl (cI, 16, .inl (kz_dg gqw))), (ql, .inl (cI, 8, .inl (kz_dg gql))), (o, .inl (cI, 8, .inl (kz_dg go)))] sz) := by
  refine kz_met (y := zy_M_multiply) (ws := zw_M_multiply) (av := [.ref h, .ref o, .ref o, .ref o]) (sz := sz) (Qc := fun A => va_Qv (fun (u : (Nat → Nat) × (Nat → Nat) × (Nat → Nat) × (Nat → Nat)) => (∀ j, u.1 j < 4294967296) ∧ (∀ j, u.2.1 j < 4294967296) ∧ (∀ j, u.2.2.1 j < 4294967296) ∧ (∀ j, u.2.2.2 j < 4294967296) ∧ (kx_V 8 u.2.2.2 = kx_V 8 go * kx_V 8 go % kx_md gqs sh) ∧ True) (kz_B (dC, dI) vwCl A (fun u : (Nat → Nat) × (Nat → Nat) × (Nat → Nat) × (Nat → Nat) => [(qf, .inl (cI, 8, .inl (kz_dg u.1))), (qw, .inl (cI, 16, .inl (kz_dg u.2.1))), (ql, .inl (cI, 8, .inl (kz_dg u.2.2.1))), (o, .inl (cI, 8, .inl (kz_dg u.2.2.2)))])) A) (cc := zc_M_multiply) (maxL := 4) (ret := none) (by decide) rfl (Nat.le_of_ble_eq_true rfl) ?_
  intro p e s m below meth c A ls F hA hdy hK hro hZ hN hl
  obtain ⟨hx, hb, hml, hr, hown, hlocks, hts, hnm⟩ := id F
  have hl : lv_has ls 4 [(0, .ref h), (1, .ref o), (2, .ref o), (3, .ref o)] := hl
  have hsh := hM.1
  refine lv_aload_n hx hb zd_M_multiply_0 rfl (lv_at hl 2 rfl) ?_
  refine lv_aload_n hx hb zd_M_multiply_1 rfl (lv_at hl 0 rfl) ?_
  refine va_get (D := (dC, dI)) (ci := 1) (v := .int (nI (sh))) (C := zR_M) (T := zT_M) (N := 6) hx hb hts (fun w h => kz_c (zi_M w h)) hown hK (hro.ob hdy.2.2 (k := 0) rfl) 0 rfl rfl 5 (by decide) (hts _ (kz_c mw_99)) (fun _ h9 => h9) rfl zd_M_multiply_2 ?_
  refine lv_aload_n hx hb zd_M_multiply_5 rfl (lv_at hl 0 rfl) ?_
  refine va_get (D := (dC, dI)) (ci := 1) (v := .ref qf) (C := zR_M) (T := zT_M) (N := 6) hx hb hts (fun w h => kz_c (zi_M w h)) hown hK (hro.ob hdy.2.2 (k := 0) rfl) 0 rfl rfl 1 (by decide) (hts _ (kz_c mw_95)) (fun _ h9 => h9) rfl zd_M_multiply_6 ?_
  refine kz_callv (wk := [(qw, .inl (cI, 16, .inl (kz_dg gqw))), (ql, .inl (cI, 8, .inl (kz_dg gql))), (o, .inl (cI, 8, .inl (kz_dg go)))]) (va_runS (As := [.ref o, .int (nI (sh)), .ref qf]) (rest := []) ⟨hx, hb, hml, hown, hts⟩ (c_E_shiftLeft l dC dI cI cAA cB cL qf o gqf go sh _ hd_gqf hd_go (by first | omega | assumption)) (va_cwS 3 hts (kz_g (kz_mc mw_243 (kz_mc mw_244 (kz_mc mw_50 kz_mn))) mw_245) rfl rfl rfl (by decide +kernel) ⟨Nat.le_of_ble_eq_true rfl, Nat.le_of_ble_eq_true rfl⟩) (kz_preS hdy hA hK hro hZ hN [0] (by decide) rfl [(false, 3)] rfl (by decide) [0, 1, 2, 3] rfl (fun _ h => by cases h) (fun _ h => by cases h) rfl) rfl rfl hl.1 rfl (lv_room (Nat.le_of_ble_eq_true rfl)) zd_M_multiply_9 ⟨Nat.le_of_ble_eq_true rfl, Nat.le_of_ble_eq_true rfl⟩) hdy hA [0] [1, 2, 3] rfl rfl (by decide) (by decide) (fun u H locs hw hdy => ?_)
  obtain ⟨d1, rfl⟩ : ∃ z, z = u := ⟨_, rfl⟩
  try dsimp only at hw
  obtain ⟨hd_d1, q2, -⟩ := hw
  have hdy : kz_dy (dC, dI) vwCl A s.heap H locs [(qf, .inl (cI, 8, .inl (kz_dg d1))), (qw, .inl (cI, 16, .inl (kz_dg gqw))), (ql, .inl (cI, 8, .inl (kz_dg gql))), (o, .inl (cI, 8, .inl (kz_dg go)))] := hdy.sub [3, 0, 1, 2] (by decide) rfl
  obtain ⟨hF, hFl⟩ := kx_fac hM hd_gqs hd_go hle q2
  refine lv_aload_n hx hb zd_M_multiply_12 rfl (lv_at hl 1 rfl) ?_
  refine lv_aload_n hx hb zd_M_multiply_13 rfl (lv_at hl 0 rfl) ?_
  refine va_get (D := (dC, dI)) (ci := 1) (v := .ref qf) (C := zR_M) (T := zT_M) (N := 6) hx hb hts (fun w h => kz_c (zi_M w h)) hown hK (hro.ob hdy.2.2 (k := 0) rfl) 0 rfl rfl 1 (by decide) (hts _ (kz_c mw_95)) (fun _ h9 => h9) rfl zd_M_multiply_14 ?_
  refine lv_aload_n hx hb zd_M_multiply_17 rfl (lv_at hl 0 rfl) ?_
  refine va_get (D := (dC, dI)) (ci := 1) (v := .ref qw) (C := zR_M) (T := zT_M) (N := 6) hx hb hts (fun w h => kz_c (zi_M w h)) hown hK (hro.ob hdy.2.2 (k := 0) rfl) 0 rfl rfl 2 (by decide) (hts _ (kz_c mw_96)) (fun _ h9 => h9) rfl zd_M_multiply_18 ?_
  refine kz_callv (wk := [(qf, .inl (cI, 8, .inl (kz_dg d1))), (ql, .inl (cI, 8, .inl (kz_dg gql))), (o, .inl (cI, 8, .inl (kz_dg go)))]) (va_runS (As := [.ref o, .ref qf, .ref qw]) (rest := []) ⟨hx, hb, hml, hown, hts⟩ (c_E_multiply l dC dI cI cAA cB cL qw o qf gqw go d1 _ hd_gqw hd_go hd_d1) (va_cwS 3 hts (kz_g (kz_mc mw_259 (kz_mc mw_204 (kz_mc mw_50 kz_mn))) mw_205) rfl rfl rfl (by decide +kernel) ⟨Nat.le_of_ble_eq_true rfl, Nat.le_of_ble_eq_true rfl⟩) (kz_preS hdy hA hK hro hZ hN [1] (by decide) rfl [(false, 3), (false, 0)] rfl (by decide) [0, 1, 2, 3] rfl (fun _ h => by cases h) (fun _ h => by cases h) rfl) rfl rfl hl.1 rfl (lv_room (Nat.le_of_ble_eq_true rfl)) zd_M_multiply_21 ⟨Nat.le_of_ble_eq_true rfl, Nat.le_of_ble_eq_true rfl⟩) hdy hA [1] [0, 2, 3] rfl rfl (by decide) (by decide) (fun u H locs hw hdy => ?_)
  obtain ⟨d3, rfl⟩ : ∃ z, z = u := ⟨_, rfl⟩
  try dsimp only at hw
  obtain ⟨hd_d3, q4, -⟩ := hw
  have hdy : kz_dy (dC, dI) vwCl A s.heap H locs [(qf, .inl (cI, 8, .inl (kz_dg d1))), (qw, .inl (cI, 16, .inl (kz_dg d3))), (ql, .inl (cI, 8, .inl (kz_dg gql))), (o, .inl (cI, 8, .inl (kz_dg go)))] := hdy.sub [0, 3, 1, 2] (by decide) rfl
  have hS0 := kx_VsPos hM
  have h31 := hM.2.2
  have hX := kx_wideLt (a := go) hd_go hS0 q4 (by rw [hF]; exact hFl)
  refine lv_aload_n hx hb zd_M_multiply_24 rfl (lv_at hl 0 rfl) ?_
  refine kz_callv (wk := [(qf, .inl (cI, 8, .inl (kz_dg d1))), (ql, .inl (cI, 8, .inl (kz_dg gql))), (o, .inl (cI, 8, .inl (kz_dg go)))]) (va_runV (As := []) (rest := []) ⟨hx, hb, hml, hown, hts⟩ (c_E_reduce l dC dI cI cAA cB cL qw h qs qf ql qr d3 sh gqs _ hd_d3 hd_gqs (by first | omega | assumption) (by first | omega | assumption) (by first | omega | assumption)) (cwV 0 hts (kz_g (kz_mc mw_260 (kz_mc mw_262 (kz_mc mw_7 (kz_mc mw_41 kz_mn)))) mw_263) rfl rfl rfl (by decide +kernel) ⟨Nat.le_of_ble_eq_true rfl, Nat.le_of_ble_eq_true rfl⟩) (kz_preVr hdy hA hK hro hZ hN [1] (by decide) rfl [(true, 0), (true, 1)] rfl (by decide) [0, 1, 2, 3] rfl (fun _ h => by cases h) (fun _ h => by cases h) rfl (ci := 1) (q0 := 0) rfl rfl rfl) rfl rfl hl.1 rfl (lv_room (Nat.le_of_ble_eq_true rfl)) zd_M_multiply_25 ⟨Nat.le_of_ble_eq_true rfl, Nat.le_of_ble_eq_true rfl⟩) hdy hA [1] [0, 2, 3] rfl rfl (by decide) (by decide) (fun u H locs hw hdy => ?_)
  obtain ⟨d5, rfl⟩ : ∃ z, z = u := ⟨_, rfl⟩
  try dsimp only at hw
  obtain ⟨hd_d5, q6, -⟩ := hw
  have hdy : kz_dy (dC, dI) vwCl A s.heap H locs [(qf, .inl (cI, 8, .inl (kz_dg d1))), (qw, .inl (cI, 16, .inl (kz_dg d5))), (ql, .inl (cI, 8, .inl (kz_dg gql))), (o, .inl (cI, 8, .inl (kz_dg go)))] := hdy.sub [0, 3, 1, 2] (by decide) rfl
  refine lv_aload_n hx hb zd_M_multiply_28 rfl (lv_at hl 0 rfl) ?_
  refine va_get (D := (dC, dI)) (ci := 1) (v := .ref qw) (C := zR_M) (T := zT_M) (N := 6) hx hb hts (fun w h => kz_c (zi_M w h)) hown hK (hro.ob hdy.2.2 (k := 0) rfl) 0 rfl rfl 2 (by decide) (hts _ (kz_c mw_96)) (fun _ h9 => h9) rfl zd_M_multiply_29 ?_
  refine lv_bipush (v := (nI (8))) hx hb zd_M_multiply_32 (by decide) ?_
  refine lv_aload_n hx hb zd_M_multiply_34 rfl (lv_at hl 0 rfl) ?_
  refine va_get (D := (dC, dI)) (ci := 1) (v := .ref ql) (C := zR_M) (T := zT_M) (N := 6) hx hb hts (fun w h => kz_c (zi_M w h)) hown hK (hro.ob hdy.2.2 (k := 0) rfl) 0 rfl rfl 3 (by decide) (hts _ (kz_c mw_97)) (fun _ h9 => h9) rfl zd_M_multiply_35 ?_
  refine lv_iconst (v := (nI (0))) hx hb zd_M_multiply_38 (by decide) ?_
  refine lv_bipush (v := (nI (8))) hx hb zd_M_multiply_39 (by decide) ?_
  refine va_copyi hx hb (hml.trans hl.1.symm) hown (hts _ (kz_c mw_277)) (hts _ (kz_c mw_214)) (hts _ (kz_c mw_213)) (hts _ (kz_c mw_51)) hK hdy.1 hdy.2.1 hdy.2.2 1 2 0 0 rfl rfl rfl rfl rfl (nI_pos (by omega)) (nI_pos (by omega)) (nI_pos (by omega)) (by (repeat rw [nI_clamp (by omega)]) <;> omega) (by (repeat rw [nI_clamp (by omega)]) <;> omega) (fun _ _ => rfl) (Nat.le_of_ble_eq_true rfl) (Nat.le_of_ble_eq_true rfl) zd_M_multiply_41 (fun H locs hP hD hS => ?_)
  rw [show (nI 8).toNatClampNeg = 8 from nI_clamp (by omega), show (nI 0).toNatClampNeg = 0 from nI_clamp (by omega), kx_cpd] at hP hD
  obtain ⟨f7, ef7, hd_f7, hdy⟩ : ∃ f7 : Nat → Nat, f7 = kx_cp d5 gql 8 0 8 ∧ (∀ j, f7 j < 4294967296) ∧ kz_dy (dC, dI) vwCl A s.heap H locs [(qf, .inl (cI, 8, .inl (kz_dg d1))), (qw, .inl (cI, 16, .inl (kz_dg d5))), (ql, .inl (cI, 8, .inl (kz_dg f7))), (o, .inl (cI, 8, .inl (kz_dg go)))] := ⟨_, rfl, kx_cp_lt hd_d5 hd_gql, hP, hD, hS⟩
  refine lv_aload_n hx hb zd_M_multiply_44 rfl (lv_at hl 0 rfl) ?_
  refine va_get (D := (dC, dI)) (ci := 1) (v := .ref ql) (C := zR_M) (T := zT_M) (N := 6) hx hb hts (fun w h => kz_c (zi_M w h)) hown hK (hro.ob hdy.2.2 (k := 0) rfl) 0 rfl rfl 3 (by decide) (hts _ (kz_c mw_97)) (fun _ h9 => h9) rfl zd_M_multiply_45 ?_
  refine lv_aload_n hx hb zd_M_multiply_48 rfl (lv_at hl 0 rfl) ?_
  refine va_get (D := (dC, dI)) (ci := 1) (v := .int (nI (sh))) (C := zR_M) (T := zT_M) (N := 6) hx hb hts (fun w h => kz_c (zi_M w h)) hown hK (hro.ob hdy.2.2 (k := 0) rfl) 0 rfl rfl 5 (by decide) (hts _ (kz_c mw_99)) (fun _ h9 => h9) rfl zd_M_multiply_49 ?_
  refine lv_aload_n hx hb zd_M_multiply_52 rfl (lv_at hl 3 rfl) ?_
  refine kz_callv (wk := [(qf, .inl (cI, 8, .inl (kz_dg d1))), (qw, .inl (cI, 16, .inl (kz_dg d5))), (ql, .inl (cI, 8, .inl (kz_dg f7)))]) (va_runS (As := [.ref ql, .int (nI (sh)), .ref o]) (rest := []) ⟨hx, hb, hml, hown, hts⟩ (c_E_shiftRight l dC dI cI cAA cB cL o ql go f7 sh _ hd_go hd_f7 (by first | omega | assumption)) (va_cwS 3 hts (kz_g (kz_mc mw_278 (kz_mc mw_279 (kz_mc mw_50 kz_mn))) mw_280) rfl rfl rfl (by decide +kernel) ⟨Nat.le_of_ble_eq_true rfl, Nat.le_of_ble_eq_true rfl⟩) (kz_preS hdy hA hK hro hZ hN [3] (by decide) rfl [(false, 2)] rfl (by decide) [0, 1, 2, 3] rfl (fun _ h => by cases h) (fun _ h => by cases h) rfl) rfl rfl hl.1 rfl (lv_room (Nat.le_of_ble_eq_true rfl)) zd_M_multiply_53 ⟨Nat.le_of_ble_eq_true rfl, Nat.le_of_ble_eq_true rfl⟩) hdy hA [3] [0, 1, 2] rfl rfl (by decide) (by decide) (fun u H locs hw hdy => ?_)
  obtain ⟨d8, rfl⟩ : ∃ z, z = u := ⟨_, rfl⟩
  try dsimp only at hw
  obtain ⟨hd_d8, q9, -⟩ := hw
  have hdy : kz_dy (dC, dI) vwCl A s.heap H locs [(qf, .inl (cI, 8, .inl (kz_dg d1))), (qw, .inl (cI, 16, .inl (kz_dg d5))), (ql, .inl (cI, 8, .inl (kz_dg f7))), (o, .inl (cI, 8, .inl (kz_dg d8)))] := hdy.sub [0, 1, 2, 3] (by decide) rfl
  exact kz_vret F (d1, d5, f7, d8) hdy (⟨hd_d1, hd_d5, hd_f7, hd_d8, by exact kx_mulEnd hM hd_f7 hF q4 q6 ef7 q9, trivial⟩) zd_M_multiply_56

set_option maxHeartbeats 4000000 in
set_option maxRecDepth 100000 in
/-- KeyMeeting$Modulus.multiply([I[I[I)V -/
theorem c_E_mulMod3 (l : Launch) (dC : Nat → ClassId) (dI : Nat → Nat → Nat) (cI cAA cB cL : ClassId) (qf qw ql o h qs qr b : Nat) (gqf : Nat → Nat) (gqw : Nat → Nat) (gql : Nat → Nat) (go : Nat → Nat) (sh : Nat) (gqs : Nat → Nat) (gb : Nat → Nat) (sz : Nat) (hd_gqf : ∀ j, gqf j < 4294967296) (hd_gqw : ∀ j, gqw j < 4294967296) (hd_gql : ∀ j, gql j < 4294967296) (hd_go : ∀ j, go j < 4294967296) (hd_gqs : ∀ j, gqs j < 4294967296) (hd_gb : ∀ j, gb j < 4294967296) (hM : kx_isM gqs sh) (hle : kx_V 8 gb ≤ kx_md gqs sh) : Met l zy_M_multiply zw_M_multiply { frames := 3, cells := 0, slots := 0, locals := 79 } (kz_Pc (dC, dI) vwCl [(cI, .int), (cAA, .array .int), (cB, .byte), (cL, .long)] [] [] [.ref h, .ref o, .ref b, .ref o] [(qf, .inl (cI, 8, .inl (kz_dg gqf))), (qw, .inl (cI, 16, .inl (kz_dg gqw))), (ql, .inl (cI, 8, .inl (kz_dg gql))), (o, .inl (cI, 8, .inl (kz_dg go)))] [(h, .inr (1, [.ref qs, .ref qf, .ref qw, .ref ql, .ref qr, .int (nI (sh))])), (qs, .inl (cI, 8, .inl (kz_dg gqs))), (b, .inl (cI, 8, .inl (kz_dg gb)))] sz) (va_Qv (fun (u : (Nat → Nat) × (Nat → Nat) × (Nat → Nat) × (Nat → Nat)) => (∀ j, u.1 j < 4294967296) ∧ (∀ j, u.2.1 j < 4294967296) ∧ (∀ j, u.2.2.1 j < 4294967296) ∧ (∀ j, u.2.2.2 j < 4294967296) ∧ (kx_V 8 u.2.2.2 = kx_V 8 go * kx_V 8 gb % kx_md gqs sh) ∧ True) (kz_B (dC, dI) vwCl (va_A [(qf, .inl (cI, 8, .inl (kz_dg gqf))), (qw, .inl (cI, 16, .inl (kz_dg gqw))), (ql, .inl (cI, 8, .inl (kz_dg gql))), (o, .inl (cI, 8, .inl (kz_dg go)))] sz) (fun u : (Nat → Nat) × (Nat → Nat) × (Nat → Nat) × (Nat → Nat) => [(qf, .inl (cI, 8, .inl (kz_dg u.1))), (qw, .inl (cI, 16, .inl (kz_dg u.2.1))), (ql, .inl (cI, 8, .inl (kz_dg u.2.2.1))), (o, .inl (cI, 8, .inl (kz_dg u.2.2.2)))])) (va_A [(qf, .inl (cI, 8, .inl (kz_dg gqf))), (qw, .inl (cI, 16, .inl (kz_dg gqw))), (ql, .inl (cI, 8, .inl (kz_dg gql))), (o, .inl (cI, 8, .inl (kz_dg go)))] sz)) 0 0 (va_A [(qf, .inl (cI, 8, .inl (kz_dg gqf))), (qw, .inl (cI, 16, .inl (kz_dg gqw))), (ql, .inl (cI, 8, .inl (kz_dg gql))), (o, .inl (cI, 8, .inl (kz_dg go)))] sz) := by
  refine kz_met (y := zy_M_multiply) (ws := zw_M_multiply) (av := [.ref h, .ref o, .ref b, .ref o]) (sz := sz) (Qc := fun A => va_Qv (fun (u : (Nat → Nat) × (Nat → Nat) × (Nat → Nat) × (Nat → Nat)) => (∀ j, u.1 j < 4294967296) ∧ (∀ j, u.2.1 j < 4294967296) ∧ (∀ j, u.2.2.1 j < 4294967296) ∧ (∀ j, u.2.2.2 j < 4294967296) ∧ (kx_V 8 u.2.2.2 = kx_V 8 go * kx_V 8 gb % kx_md gqs sh) ∧ True) (kz_B (dC, dI) vwCl A (fun u : (Nat → Nat) × (Nat → Nat) × (Nat → Nat) × (Nat → Nat) => [(qf, .inl (cI, 8, .inl (kz_dg u.1))), (qw, .inl (cI, 16, .inl (kz_dg u.2.1))), (ql, .inl (cI, 8, .inl (kz_dg u.2.2.1))), (o, .inl (cI, 8, .inl (kz_dg u.2.2.2)))])) A) (cc := zc_M_multiply) (maxL := 4) (ret := none) (by decide) rfl (Nat.le_of_ble_eq_true rfl) ?_
  intro p e s m below meth c A ls F hA hdy hK hro hZ hN hl
  obtain ⟨hx, hb, hml, hr, hown, hlocks, hts, hnm⟩ := id F
  have hl : lv_has ls 4 [(0, .ref h), (1, .ref o), (2, .ref b), (3, .ref o)] := hl
  have hsh := hM.1
  refine lv_aload_n hx hb zd_M_multiply_0 rfl (lv_at hl 2 rfl) ?_
  refine lv_aload_n hx hb zd_M_multiply_1 rfl (lv_at hl 0 rfl) ?_
  refine va_get (D := (dC, dI)) (ci := 1) (v := .int (nI (sh))) (C := zR_M) (T := zT_M) (N := 6) hx hb hts (fun w h => kz_c (zi_M w h)) hown hK (hro.ob hdy.2.2 (k := 0) rfl) 0 rfl rfl 5 (by decide) (hts _ (kz_c mw_99)) (fun _ h9 => h9) rfl zd_M_multiply_2 ?_
  refine lv_aload_n hx hb zd_M_multiply_5 rfl (lv_at hl 0 rfl) ?_
  refine va_get (D := (dC, dI)) (ci := 1) (v := .ref qf) (C := zR_M) (T := zT_M) (N := 6) hx hb hts (fun w h => kz_c (zi_M w h)) hown hK (hro.ob hdy.2.2 (k := 0) rfl) 0 rfl rfl 1 (by decide) (hts _ (kz_c mw_95)) (fun _ h9 => h9) rfl zd_M_multiply_6 ?_
  refine kz_callv (wk := [(qw, .inl (cI, 16, .inl (kz_dg gqw))), (ql, .inl (cI, 8, .inl (kz_dg gql))), (o, .inl (cI, 8, .inl (kz_dg go)))]) (va_runS (As := [.ref b, .int (nI (sh)), .ref qf]) (rest := []) ⟨hx, hb, hml, hown, hts⟩ (c_E_shiftLeft l dC dI cI cAA cB cL qf b gqf gb sh _ hd_gqf hd_gb (by first | omega | assumption)) (va_cwS 3 hts (kz_g (kz_mc mw_243 (kz_mc mw_244 (kz_mc mw_50 kz_mn))) mw_245) rfl rfl rfl (by decide +kernel) ⟨Nat.le_of_ble_eq_true rfl, Nat.le_of_ble_eq_true rfl⟩) (kz_preS hdy hA hK hro hZ hN [0] (by decide) rfl [(true, 2)] rfl (by decide) [0, 1, 2, 3] rfl (fun _ h => by cases h) (fun _ h => by cases h) rfl) rfl rfl hl.1 rfl (lv_room (Nat.le_of_ble_eq_true rfl)) zd_M_multiply_9 ⟨Nat.le_of_ble_eq_true rfl, Nat.le_of_ble_eq_true rfl⟩) hdy hA [0] [1, 2, 3] rfl rfl (by decide) (by decide) (fun u H locs hw hdy => ?_)
  obtain ⟨d1, rfl⟩ : ∃ z, z = u := ⟨_, rfl⟩
  try dsimp only at hw
  obtain ⟨hd_d1, q2, -⟩ := hw
  have hdy : kz_dy (dC, dI) vwCl A s.heap H locs [(qf, .inl (cI, 8, .inl (kz_dg d1))), (qw, .inl (cI, 16, .inl (kz_dg gqw))), (ql, .inl (cI, 8, .inl (kz_dg gql))), (o, .inl (cI, 8, .inl (kz_dg go)))] := hdy.sub [3, 0, 1, 2] (by decide) rfl
  obtain ⟨hF, hFl⟩ := kx_fac hM hd_gqs hd_gb hle q2
  refine lv_aload_n hx hb zd_M_multiply_12 rfl (lv_at hl 1 rfl) ?_
  refine lv_aload_n hx hb zd_M_multiply_13 rfl (lv_at hl 0 rfl) ?_
  refine va_get (D := (dC, dI)) (ci := 1) (v := .ref qf) (C := zR_M) (T := zT_M) (N := 6) hx hb hts (fun w h => kz_c (zi_M w h)) hown hK (hro.ob hdy.2.2 (k := 0) rfl) 0 rfl rfl 1 (by decide) (hts _ (kz_c mw_95)) (fun _ h9 => h9) rfl zd_M_multiply_14 ?_
  refine lv_aload_n hx hb zd_M_multiply_17 rfl (lv_at hl 0 rfl) ?_
  refine va_get (D := (dC, dI)) (ci := 1) (v := .ref qw) (C := zR_M) (T := zT_M) (N := 6) hx hb hts (fun w h => kz_c (zi_M w h)) hown hK (hro.ob hdy.2.2 (k := 0) rfl) 0 rfl rfl 2 (by decide) (hts _ (kz_c mw_96)) (fun _ h9 => h9) rfl zd_M_multiply_18 ?_
  refine kz_callv (wk := [(qf, .inl (cI, 8, .inl (kz_dg d1))), (ql, .inl (cI, 8, .inl (kz_dg gql))), (o, .inl (cI, 8, .inl (kz_dg go)))]) (va_runS (As := [.ref o, .ref qf, .ref qw]) (rest := []) ⟨hx, hb, hml, hown, hts⟩ (c_E_multiply l dC dI cI cAA cB cL qw o qf gqw go d1 _ hd_gqw hd_go hd_d1) (va_cwS 3 hts (kz_g (kz_mc mw_259 (kz_mc mw_204 (kz_mc mw_50 kz_mn))) mw_205) rfl rfl rfl (by decide +kernel) ⟨Nat.le_of_ble_eq_true rfl, Nat.le_of_ble_eq_true rfl⟩) (kz_preS hdy hA hK hro hZ hN [1] (by decide) rfl [(false, 3), (false, 0)] rfl (by decide) [0, 1, 2, 3] rfl (fun _ h => by cases h) (fun _ h => by cases h) rfl) rfl rfl hl.1 rfl (lv_room (Nat.le_of_ble_eq_true rfl)) zd_M_multiply_21 ⟨Nat.le_of_ble_eq_true rfl, Nat.le_of_ble_eq_true rfl⟩) hdy hA [1] [0, 2, 3] rfl rfl (by decide) (by decide) (fun u H locs hw hdy => ?_)
  obtain ⟨d3, rfl⟩ : ∃ z, z = u := ⟨_, rfl⟩
  try dsimp only at hw
  obtain ⟨hd_d3, q4, -⟩ := hw
  have hdy : kz_dy (dC, dI) vwCl A s.heap H locs [(qf, .inl (cI, 8, .inl (kz_dg d1))), (qw, .inl (cI, 16, .inl (kz_dg d3))), (ql, .inl (cI, 8, .inl (kz_dg gql))), (o, .inl (cI, 8, .inl (kz_dg go)))] := hdy.sub [0, 3, 1, 2] (by decide) rfl
  have hS0 := kx_VsPos hM
  have h31 := hM.2.2
  have hX := kx_wideLt (a := go) hd_go hS0 q4 (by rw [hF]; exact hFl)
  refine lv_aload_n hx hb zd_M_multiply_24 rfl (lv_at hl 0 rfl) ?_
  refine kz_callv (wk := [(qf, .inl (cI, 8, .inl (kz_dg d1))), (ql, .inl (cI, 8, .inl (kz_dg gql))), (o, .inl (cI, 8, .inl (kz_dg go)))]) (va_runV (As := []) (rest := []) ⟨hx, hb, hml, hown, hts⟩ (c_E_reduce l dC dI cI cAA cB cL qw h qs qf ql qr d3 sh gqs _ hd_d3 hd_gqs (by first | omega | assumption) (by first | omega | assumption) (by first | omega | assumption)) (cwV 0 hts (kz_g (kz_mc mw_260 (kz_mc mw_262 (kz_mc mw_7 (kz_mc mw_41 kz_mn)))) mw_263) rfl rfl rfl (by decide +kernel) ⟨Nat.le_of_ble_eq_true rfl, Nat.le_of_ble_eq_true rfl⟩) (kz_preVr hdy hA hK hro hZ hN [1] (by decide) rfl [(true, 0), (true, 1)] rfl (by decide) [0, 1, 2, 3] rfl (fun _ h => by cases h) (fun _ h => by cases h) rfl (ci := 1) (q0 := 0) rfl rfl rfl) rfl rfl hl.1 rfl (lv_room (Nat.le_of_ble_eq_true rfl)) zd_M_multiply_25 ⟨Nat.le_of_ble_eq_true rfl, Nat.le_of_ble_eq_true rfl⟩) hdy hA [1] [0, 2, 3] rfl rfl (by decide) (by decide) (fun u H locs hw hdy => ?_)
  obtain ⟨d5, rfl⟩ : ∃ z, z = u := ⟨_, rfl⟩
  try dsimp only at hw
  obtain ⟨hd_d5, q6, -⟩ := hw
  have hdy : kz_dy (dC, dI) vwCl A s.heap H locs [(qf, .inl (cI, 8, .inl (kz_dg d1))), (qw, .inl (cI, 16, .inl (kz_dg d5))), (ql, .inl (cI, 8, .inl (kz_dg gql))), (o, .inl (cI, 8, .inl (kz_dg go)))] := hdy.sub [0, 3, 1, 2] (by decide) rfl
  refine lv_aload_n hx hb zd_M_multiply_28 rfl (lv_at hl 0 rfl) ?_
  refine va_get (D := (dC, dI)) (ci := 1) (v := .ref qw) (C := zR_M) (T := zT_M) (N := 6) hx hb hts (fun w h => kz_c (zi_M w h)) hown hK (hro.ob hdy.2.2 (k := 0) rfl) 0 rfl rfl 2 (by decide) (hts _ (kz_c mw_96)) (fun _ h9 => h9) rfl zd_M_multiply_29 ?_
  refine lv_bipush (v := (nI (8))) hx hb zd_M_multiply_32 (by decide) ?_
  refine lv_aload_n hx hb zd_M_multiply_34 rfl (lv_at hl 0 rfl) ?_
  refine va_get (D := (dC, dI)) (ci := 1) (v := .ref ql) (C := zR_M) (T := zT_M) (N := 6) hx hb hts (fun w h => kz_c (zi_M w h)) hown hK (hro.ob hdy.2.2 (k := 0) rfl) 0 rfl rfl 3 (by decide) (hts _ (kz_c mw_97)) (fun _ h9 => h9) rfl zd_M_multiply_35 ?_
  refine lv_iconst (v := (nI (0))) hx hb zd_M_multiply_38 (by decide) ?_
  refine lv_bipush (v := (nI (8))) hx hb zd_M_multiply_39 (by decide) ?_
  refine va_copyi hx hb (hml.trans hl.1.symm) hown (hts _ (kz_c mw_277)) (hts _ (kz_c mw_214)) (hts _ (kz_c mw_213)) (hts _ (kz_c mw_51)) hK hdy.1 hdy.2.1 hdy.2.2 1 2 0 0 rfl rfl rfl rfl rfl (nI_pos (by omega)) (nI_pos (by omega)) (nI_pos (by omega)) (by (repeat rw [nI_clamp (by omega)]) <;> omega) (by (repeat rw [nI_clamp (by omega)]) <;> omega) (fun _ _ => rfl) (Nat.le_of_ble_eq_true rfl) (Nat.le_of_ble_eq_true rfl) zd_M_multiply_41 (fun H locs hP hD hS => ?_)
  rw [show (nI 8).toNatClampNeg = 8 from nI_clamp (by omega), show (nI 0).toNatClampNeg = 0 from nI_clamp (by omega), kx_cpd] at hP hD
  obtain ⟨f7, ef7, hd_f7, hdy⟩ : ∃ f7 : Nat → Nat, f7 = kx_cp d5 gql 8 0 8 ∧ (∀ j, f7 j < 4294967296) ∧ kz_dy (dC, dI) vwCl A s.heap H locs [(qf, .inl (cI, 8, .inl (kz_dg d1))), (qw, .inl (cI, 16, .inl (kz_dg d5))), (ql, .inl (cI, 8, .inl (kz_dg f7))), (o, .inl (cI, 8, .inl (kz_dg go)))] := ⟨_, rfl, kx_cp_lt hd_d5 hd_gql, hP, hD, hS⟩
  refine lv_aload_n hx hb zd_M_multiply_44 rfl (lv_at hl 0 rfl) ?_
  refine va_get (D := (dC, dI)) (ci := 1) (v := .ref ql) (C := zR_M) (T := zT_M) (N := 6) hx hb hts (fun w h => kz_c (zi_M w h)) hown hK (hro.ob hdy.2.2 (k := 0) rfl) 0 rfl rfl 3 (by decide) (hts _ (kz_c mw_97)) (fun _ h9 => h9) rfl zd_M_multiply_45 ?_
  refine lv_aload_n hx hb zd_M_multiply_48 rfl (lv_at hl 0 rfl) ?_
  refine va_get (D := (dC, dI)) (ci := 1) (v := .int (nI (sh))) (C := zR_M) (T := zT_M) (N := 6) hx hb hts (fun w h => kz_c (zi_M w h)) hown hK (hro.ob hdy.2.2 (k := 0) rfl) 0 rfl rfl 5 (by decide) (hts _ (kz_c mw_99)) (fun _ h9 => h9) rfl zd_M_multiply_49 ?_
  refine lv_aload_n hx hb zd_M_multiply_52 rfl (lv_at hl 3 rfl) ?_
  refine kz_callv (wk := [(qf, .inl (cI, 8, .inl (kz_dg d1))), (qw, .inl (cI, 16, .inl (kz_dg d5))), (ql, .inl (cI, 8, .inl (kz_dg f7)))]) (va_runS (As := [.ref ql, .int (nI (sh)), .ref o]) (rest := []) ⟨hx, hb, hml, hown, hts⟩ (c_E_shiftRight l dC dI cI cAA cB cL o ql go f7 sh _ hd_go hd_f7 (by first | omega | assumption)) (va_cwS 3 hts (kz_g (kz_mc mw_278 (kz_mc mw_279 (kz_mc mw_50 kz_mn))) mw_280) rfl rfl rfl (by decide +kernel) ⟨Nat.le_of_ble_eq_true rfl, Nat.le_of_ble_eq_true rfl⟩) (kz_preS hdy hA hK hro hZ hN [3] (by decide) rfl [(false, 2)] rfl (by decide) [0, 1, 2, 3] rfl (fun _ h => by cases h) (fun _ h => by cases h) rfl) rfl rfl hl.1 rfl (lv_room (Nat.le_of_ble_eq_true rfl)) zd_M_multiply_53 ⟨Nat.le_of_ble_eq_true rfl, Nat.le_of_ble_eq_true rfl⟩) hdy hA [3] [0, 1, 2] rfl rfl (by decide) (by decide) (fun u H locs hw hdy => ?_)
  obtain ⟨d8, rfl⟩ : ∃ z, z = u := ⟨_, rfl⟩
  try dsimp only at hw
  obtain ⟨hd_d8, q9, -⟩ := hw
  have hdy : kz_dy (dC, dI) vwCl A s.heap H locs [(qf, .inl (cI, 8, .inl (kz_dg d1))), (qw, .inl (cI, 16, .inl (kz_dg d5))), (ql, .inl (cI, 8, .inl (kz_dg f7))), (o, .inl (cI, 8, .inl (kz_dg d8)))] := hdy.sub [0, 1, 2, 3] (by decide) rfl
  exact kz_vret F (d1, d5, f7, d8) hdy (⟨hd_d1, hd_d5, hd_f7, hd_d8, by exact kx_mulEnd hM hd_f7 hF q4 q6 ef7 q9, trivial⟩) zd_M_multiply_56

set_option maxHeartbeats 4000000 in
set_option maxRecDepth 100000 in
/-- KeyMeeting$Modulus.rest([I[I)V -/
theorem c_E_rest (l : Launch) (dC : Nat → ClassId) (dI : Nat → Nat → Nat) (cI cAA cB cL : ClassId) (qf qw ql o h qs qr a one : Nat) (gqf : Nat → Nat) (gqw : Nat → Nat) (gql : Nat → Nat) (go : Nat → Nat) (sh : Nat) (gqs : Nat → Nat) (ga : Nat → Nat) (gone : Nat → Nat) (sz : Nat) (hd_gqf : ∀ j, gqf j < 4294967296) (hd_gqw : ∀ j, gqw j < 4294967296) (hd_gql : ∀ j, gql j < 4294967296) (hd_go : ∀ j, go j < 4294967296) (hd_gqs : ∀ j, gqs j < 4294967296) (hd_ga : ∀ j, ga j < 4294967296) (hd_gone : ∀ j, gone j < 4294967296) (hM : kx_isM gqs sh) (h1o : kx_V 8 gone = 1) : Met l zy_M_rest zw_M_rest { frames := 4, cells := 0, slots := 0, locals := 102 } (kz_Pc (dC, dI) vwCl [(cI, .int), (cAA, .array .int), (cB, .byte), (cL, .long)] [("KeyMeeting$Modulus", "ONE", "[I", .ref one)] [] [.ref h, .ref a, .ref o] [(qf, .inl (cI, 8, .inl (kz_dg gqf))), (qw, .inl (cI, 16, .inl (kz_dg gqw))), (ql, .inl (cI, 8, .inl (kz_dg gql))), (o, .inl (cI, 8, .inl (kz_dg go)))] [(h, .inr (1, [.ref qs, .ref qf, .ref qw, .ref ql, .ref qr, .int (nI (sh))])), (qs, .inl (cI, 8, .inl (kz_dg gqs))), (a, .inl (cI, 8, .inl (kz_dg ga))), (one, .inl (cI, 8, .inl (kz_dg gone)))] sz) (va_Qv (fun (u : (Nat → Nat) × (Nat → Nat) × (Nat → Nat) × (Nat → Nat)) => (∀ j, u.1 j < 4294967296) ∧ (∀ j, u.2.1 j < 4294967296) ∧ (∀ j, u.2.2.1 j < 4294967296) ∧ (∀ j, u.2.2.2 j < 4294967296) ∧ (kx_V 8 u.2.2.2 = kx_V 8 ga % kx_md gqs sh) ∧ True) (kz_B (dC, dI) vwCl (va_A [(qf, .inl (cI, 8, .inl (kz_dg gqf))), (qw, .inl (cI, 16, .inl (kz_dg gqw))), (ql, .inl (cI, 8, .inl (kz_dg gql))), (o, .inl (cI, 8, .inl (kz_dg go)))] sz) (fun u : (Nat → Nat) × (Nat → Nat) × (Nat → Nat) × (Nat → Nat) => [(qf, .inl (cI, 8, .inl (kz_dg u.1))), (qw, .inl (cI, 16, .inl (kz_dg u.2.1))), (ql, .inl (cI, 8, .inl (kz_dg u.2.2.1))), (o, .inl (cI, 8, .inl (kz_dg u.2.2.2)))])) (va_A [(qf, .inl (cI, 8, .inl (kz_dg gqf))), (qw, .inl (cI, 16, .inl (kz_dg gqw))), (ql, .inl (cI, 8, .inl (kz_dg gql))), (o, .inl (cI, 8, .inl (kz_dg go)))] sz)) 0 0 (va_A [(qf, .inl (cI, 8, .inl (kz_dg gqf))), (qw, .inl (cI, 16, .inl (kz_dg gqw))), (ql, .inl (cI, 8, .inl (kz_dg gql))), (o, .inl (cI, 8, .inl (kz_dg go)))] sz) := by
  refine kz_met (y := zy_M_rest) (ws := zw_M_rest) (av := [.ref h, .ref a, .ref o]) (sz := sz) (Qc := fun A => va_Qv (fun (u : (Nat → Nat) × (Nat → Nat) × (Nat → Nat) × (Nat → Nat)) => (∀ j, u.1 j < 4294967296) ∧ (∀ j, u.2.1 j < 4294967296) ∧ (∀ j, u.2.2.1 j < 4294967296) ∧ (∀ j, u.2.2.2 j < 4294967296) ∧ (kx_V 8 u.2.2.2 = kx_V 8 ga % kx_md gqs sh) ∧ True) (kz_B (dC, dI) vwCl A (fun u : (Nat → Nat) × (Nat → Nat) × (Nat → Nat) × (Nat → Nat) => [(qf, .inl (cI, 8, .inl (kz_dg u.1))), (qw, .inl (cI, 16, .inl (kz_dg u.2.1))), (ql, .inl (cI, 8, .inl (kz_dg u.2.2.1))), (o, .inl (cI, 8, .inl (kz_dg u.2.2.2)))])) A) (cc := zc_M_rest) (maxL := 3) (ret := none) (by decide) rfl (Nat.le_of_ble_eq_true rfl) ?_
  intro p e s m below meth c A ls F hA hdy hK hro hZ hN hl
  obtain ⟨hx, hb, hml, hr, hown, hlocks, hts, hnm⟩ := id F
  have hl : lv_has ls 3 [(0, .ref h), (1, .ref a), (2, .ref o)] := hl
  have h0 := kx_mdPos hM
  refine lv_aload_n hx hb zd_M_rest_0 rfl (lv_at hl 0 rfl) ?_
  refine lv_aload_n hx hb zd_M_rest_1 rfl (lv_at hl 1 rfl) ?_
  refine va_gets hx hb (hZ _ (List.mem_of_getElem? (i := 0) rfl)) hdy.2.2 hown (hts _ (kz_c mw_253)) (fun _ h9 => h9) zd_M_rest_2 ?_
  refine lv_aload_n hx hb zd_M_rest_5 rfl (lv_at hl 2 rfl) ?_
  refine kz_callv (wk := []) (va_runV (As := [.ref a, .ref one, .ref o]) (rest := []) ⟨hx, hb, hml, hown, hts⟩ (c_E_mulMod l dC dI cI cAA cB cL qf qw ql o h qs qr a one gqf gqw gql go sh gqs ga gone _ hd_gqf hd_gqw hd_gql hd_go hd_gqs hd_ga hd_gone (by first | omega | assumption) (by first | omega | assumption)) (cwV 3 hts (kz_g (kz_mc mw_255 (kz_mc mw_257 (kz_mc mw_6 (kz_mc mw_41 kz_mn)))) mw_258) rfl rfl rfl (by decide +kernel) ⟨Nat.le_of_ble_eq_true rfl, Nat.le_of_ble_eq_true rfl⟩) (kz_preVr hdy hA hK hro hZ hN [0, 1, 2, 3] (by decide) rfl [(true, 0), (true, 1), (true, 2), (true, 3)] rfl (by decide) [0, 1, 2, 3] rfl (fun _ h => by cases h) (fun _ h => by cases h) rfl (ci := 1) (q0 := 0) rfl rfl rfl) rfl rfl hl.1 rfl (lv_room (Nat.le_of_ble_eq_true rfl)) zd_M_rest_6 ⟨Nat.le_of_ble_eq_true rfl, Nat.le_of_ble_eq_true rfl⟩) hdy hA [0, 1, 2, 3] [] rfl rfl (by decide) (by decide) (fun u H locs hw hdy => ?_)
  obtain ⟨d1, d2, d3, d4⟩ := u
  try dsimp only at hw
  obtain ⟨hd_d1, hd_d2, hd_d3, hd_d4, q5, -⟩ := hw
  have hdy : kz_dy (dC, dI) vwCl A s.heap H locs [(qf, .inl (cI, 8, .inl (kz_dg d1))), (qw, .inl (cI, 16, .inl (kz_dg d2))), (ql, .inl (cI, 8, .inl (kz_dg d3))), (o, .inl (cI, 8, .inl (kz_dg d4)))] := hdy.sub [0, 1, 2, 3] (by decide) rfl
  exact kz_vret F (d1, d2, d3, d4) hdy (⟨hd_d1, hd_d2, hd_d3, hd_d4, by rw [q5, h1o, Nat.mul_one], trivial⟩) zd_M_rest_9

set_option maxHeartbeats 4000000 in
set_option maxRecDepth 100000 in
/-- KeyMeeting$Modulus.power([I[I[I)V -/
theorem c_E_power (l : Launch) (dC : Nat → ClassId) (dI : Nat → Nat → Nat) (cI cAA cB cL : ClassId) (qf qw ql qr o h qs a x one : Nat) (gqf : Nat → Nat) (gqw : Nat → Nat) (gql : Nat → Nat) (gqr : Nat → Nat) (go : Nat → Nat) (sh : Nat) (gqs : Nat → Nat) (ga : Nat → Nat) (gx : Nat → Nat) (gone : Nat → Nat) (sz : Nat) (hd_gqf : ∀ j, gqf j < 4294967296) (hd_gqw : ∀ j, gqw j < 4294967296) (hd_gql : ∀ j, gql j < 4294967296) (hd_gqr : ∀ j, gqr j < 4294967296) (hd_go : ∀ j, go j < 4294967296) (hd_gqs : ∀ j, gqs j < 4294967296) (hd_ga : ∀ j, ga j < 4294967296) (hd_gx : ∀ j, gx j < 4294967296) (hd_gone : ∀ j, gone j < 4294967296) (hM : kx_isM gqs sh) (hle : kx_V 8 ga ≤ kx_md gqs sh) (h1o : kx_V 8 gone = 1) : Met l zy_M_power zw_M_power { frames := 4, cells := 0, slots := 0, locals := 102 } (kz_Pc (dC, dI) vwCl [(cI, .int), (cAA, .array .int), (cB, .byte), (cL, .long)] [("KeyMeeting$Modulus", "ONE", "[I", .ref one)] [] [.ref h, .ref a, .ref x, .ref o] [(qf, .inl (cI, 8, .inl (kz_dg gqf))), (qw, .inl (cI, 16, .inl (kz_dg gqw))), (ql, .inl (cI, 8, .inl (kz_dg gql))), (qr, .inl (cI, 8, .inl (kz_dg gqr))), (o, .inl (cI, 8, .inl (kz_dg go)))] [(h, .inr (1, [.ref qs, .ref qf, .ref qw, .ref ql, .ref qr, .int (nI (sh))])), (qs, .inl (cI, 8, .inl (kz_dg gqs))), (a, .inl (cI, 8, .inl (kz_dg ga))), (x, .inl (cI, 8, .inl (kz_dg gx))), (one, .inl (cI, 8, .inl (kz_dg gone)))] sz) (va_Qv (fun (u : (Nat → Nat) × (Nat → Nat) × (Nat → Nat) × (Nat → Nat) × (Nat → Nat)) => (∀ j, u.1 j < 4294967296) ∧ (∀ j, u.2.1 j < 4294967296) ∧ (∀ j, u.2.2.1 j < 4294967296) ∧ (∀ j, u.2.2.2.1 j < 4294967296) ∧ (∀ j, u.2.2.2.2 j < 4294967296) ∧ (kx_V 8 u.2.2.2.2 = kx_V 8 ga ^ kx_V 8 gx % kx_md gqs sh) ∧ True) (kz_B (dC, dI) vwCl (va_A [(qf, .inl (cI, 8, .inl (kz_dg gqf))), (qw, .inl (cI, 16, .inl (kz_dg gqw))), (ql, .inl (cI, 8, .inl (kz_dg gql))), (qr, .inl (cI, 8, .inl (kz_dg gqr))), (o, .inl (cI, 8, .inl (kz_dg go)))] sz) (fun u : (Nat → Nat) × (Nat → Nat) × (Nat → Nat) × (Nat → Nat) × (Nat → Nat) => [(qf, .inl (cI, 8, .inl (kz_dg u.1))), (qw, .inl (cI, 16, .inl (kz_dg u.2.1))), (ql, .inl (cI, 8, .inl (kz_dg u.2.2.1))), (qr, .inl (cI, 8, .inl (kz_dg u.2.2.2.1))), (o, .inl (cI, 8, .inl (kz_dg u.2.2.2.2)))])) (va_A [(qf, .inl (cI, 8, .inl (kz_dg gqf))), (qw, .inl (cI, 16, .inl (kz_dg gqw))), (ql, .inl (cI, 8, .inl (kz_dg gql))), (qr, .inl (cI, 8, .inl (kz_dg gqr))), (o, .inl (cI, 8, .inl (kz_dg go)))] sz)) 0 0 (va_A [(qf, .inl (cI, 8, .inl (kz_dg gqf))), (qw, .inl (cI, 16, .inl (kz_dg gqw))), (ql, .inl (cI, 8, .inl (kz_dg gql))), (qr, .inl (cI, 8, .inl (kz_dg gqr))), (o, .inl (cI, 8, .inl (kz_dg go)))] sz) := by
  refine kz_met (y := zy_M_power) (ws := zw_M_power) (av := [.ref h, .ref a, .ref x, .ref o]) (sz := sz) (Qc := fun A => va_Qv (fun (u : (Nat → Nat) × (Nat → Nat) × (Nat → Nat) × (Nat → Nat) × (Nat → Nat)) => (∀ j, u.1 j < 4294967296) ∧ (∀ j, u.2.1 j < 4294967296) ∧ (∀ j, u.2.2.1 j < 4294967296) ∧ (∀ j, u.2.2.2.1 j < 4294967296) ∧ (∀ j, u.2.2.2.2 j < 4294967296) ∧ (kx_V 8 u.2.2.2.2 = kx_V 8 ga ^ kx_V 8 gx % kx_md gqs sh) ∧ True) (kz_B (dC, dI) vwCl A (fun u : (Nat → Nat) × (Nat → Nat) × (Nat → Nat) × (Nat → Nat) × (Nat → Nat) => [(qf, .inl (cI, 8, .inl (kz_dg u.1))), (qw, .inl (cI, 16, .inl (kz_dg u.2.1))), (ql, .inl (cI, 8, .inl (kz_dg u.2.2.1))), (qr, .inl (cI, 8, .inl (kz_dg u.2.2.2.1))), (o, .inl (cI, 8, .inl (kz_dg u.2.2.2.2)))])) A) (cc := zc_M_power) (maxL := 5) (ret := none) (by decide) rfl (Nat.le_of_ble_eq_true rfl) ?_
  intro p e s m below meth c A ls F hA hdy hK hro hZ hN hl
  obtain ⟨hx, hb, hml, hr, hown, hlocks, hts, hnm⟩ := id F
  have hl : lv_has ls 5 [(0, .ref h), (1, .ref a), (2, .ref x), (3, .ref o)] := hl
  have h0 := kx_mdPos hM
  refine lv_aload_n hx hb zd_M_power_0 rfl (lv_at hl 0 rfl) ?_
  refine va_gets hx hb (hZ _ (List.mem_of_getElem? (i := 0) rfl)) hdy.2.2 hown (hts _ (kz_c mw_253)) (fun _ h9 => h9) zd_M_power_1 ?_
  refine va_gets hx hb (hZ _ (List.mem_of_getElem? (i := 0) rfl)) hdy.2.2 hown (hts _ (kz_c mw_253)) (fun _ h9 => h9) zd_M_power_4 ?_
  refine lv_aload_n hx hb zd_M_power_7 rfl (lv_at hl 0 rfl) ?_
  refine va_get (D := (dC, dI)) (ci := 1) (v := .ref qr) (C := zR_M) (T := zT_M) (N := 6) hx hb hts (fun w h => kz_c (zi_M w h)) hown hK (hro.ob hdy.2.2 (k := 0) rfl) 0 rfl rfl 4 (by decide) (hts _ (kz_c mw_98)) (fun _ h9 => h9) rfl zd_M_power_8 ?_
  refine kz_callv (wk := [(o, .inl (cI, 8, .inl (kz_dg go)))]) (va_runV (As := [.ref one, .ref one, .ref qr]) (rest := []) ⟨hx, hb, hml, hown, hts⟩ (c_E_mulMod l dC dI cI cAA cB cL qf qw ql qr h qs qr one one gqf gqw gql gqr sh gqs gone gone _ hd_gqf hd_gqw hd_gql hd_gqr hd_gqs hd_gone hd_gone (by first | omega | assumption) (by first | omega | assumption)) (cwV 3 hts (kz_g (kz_mc mw_255 (kz_mc mw_257 (kz_mc mw_6 (kz_mc mw_41 kz_mn)))) mw_258) rfl rfl rfl (by decide +kernel) ⟨Nat.le_of_ble_eq_true rfl, Nat.le_of_ble_eq_true rfl⟩) (kz_preVr hdy hA hK hro hZ hN [0, 1, 2, 3] (by decide) rfl [(true, 0), (true, 1), (true, 4), (true, 4)] rfl (by decide) [0, 1, 2, 3] rfl (fun _ h => by cases h) (fun _ h => by cases h) rfl (ci := 1) (q0 := 0) rfl rfl rfl) rfl rfl hl.1 rfl (lv_room (Nat.le_of_ble_eq_true rfl)) zd_M_power_11 ⟨Nat.le_of_ble_eq_true rfl, Nat.le_of_ble_eq_true rfl⟩) hdy hA [0, 1, 2, 3] [4] rfl rfl (by decide) (by decide) (fun u H locs hw hdy => ?_)
  obtain ⟨d1, d2, d3, d4⟩ := u
  try dsimp only at hw
  obtain ⟨hd_d1, hd_d2, hd_d3, hd_d4, q5, -⟩ := hw
  have hdy : kz_dy (dC, dI) vwCl A s.heap H locs [(qf, .inl (cI, 8, .inl (kz_dg d1))), (qw, .inl (cI, 16, .inl (kz_dg d2))), (ql, .inl (cI, 8, .inl (kz_dg d3))), (qr, .inl (cI, 8, .inl (kz_dg d4))), (o, .inl (cI, 8, .inl (kz_dg go)))] := hdy.sub [1, 2, 3, 4, 0] (by decide) rfl
  refine lv_aload_n hx hb zd_M_power_14 rfl (lv_at hl 2 rfl) ?_
  refine kz_calli (wk := [(qf, .inl (cI, 8, .inl (kz_dg d1))), (qw, .inl (cI, 16, .inl (kz_dg d2))), (ql, .inl (cI, 8, .inl (kz_dg d3))), (qr, .inl (cI, 8, .inl (kz_dg d4))), (o, .inl (cI, 8, .inl (kz_dg go)))]) (va_runS (As := [.ref x]) (rest := []) ⟨hx, hb, hml, hown, hts⟩ (c_E_leadingZeros l dC dI cI cAA cB cL x gx _ hd_gx) (va_cwS 1 hts (kz_g (kz_mc mw_237 (kz_mc mw_238 (kz_mc mw_50 kz_mn))) mw_239) rfl rfl rfl (by decide +kernel) ⟨Nat.le_of_ble_eq_true rfl, Nat.le_of_ble_eq_true rfl⟩) (kz_preS hdy hA hK hro hZ hN [] (by decide) rfl [(true, 3)] rfl (by decide) [0, 1, 2, 3] rfl (fun _ h => by cases h) (fun _ h => by cases h) rfl) rfl rfl hl.1 rfl (lv_room (Nat.le_of_ble_eq_true rfl)) zd_M_power_15 ⟨Nat.le_of_ble_eq_true rfl, Nat.le_of_ble_eq_true rfl⟩) hdy hA [] [0, 1, 2, 3, 4] rfl rfl (by decide) (by decide) (fun r u H locs hw hdy => ?_)
  try dsimp only at hw
  obtain ⟨⟨b6, hb6, rfl⟩, -⟩ := hw
  have hdy : kz_dy (dC, dI) vwCl A s.heap H locs [(qf, .inl (cI, 8, .inl (kz_dg d1))), (qw, .inl (cI, 16, .inl (kz_dg d2))), (ql, .inl (cI, 8, .inl (kz_dg d3))), (qr, .inl (cI, 8, .inl (kz_dg d4))), (o, .inl (cI, 8, .inl (kz_dg go)))] := hdy.sub [0, 1, 2, 3, 4] (by decide) rfl
  have hlz9 := hb6.1
  refine lv_istore (lv' := [(4, .int (nI (b6))), (0, .ref h), (1, .ref a), (2, .ref x), (3, .ref o)]) hx hb zd_M_power_18 hl (by decide) rfl (fun ls hl => ?_)
  have lp20 : ∀ (n20 k20 : Nat) (d7 : Nat → Nat) (d8 : Nat → Nat) (d9 : Nat → Nat) (d10 : Nat → Nat) (H : Heap) (locs : List Loc) (ls : Array Slot), k20 ≤ 256 → 256 - k20 < n20 → (∀ j, d7 j < 4294967296) → (∀ j, d8 j < 4294967296) → (∀ j, d9 j < 4294967296) → (∀ j, d10 j < 4294967296) → (kx_V 8 d10 = kx_V 8 ga ^ (kx_V 8 gx / 2 ^ (256 - (k20))) % kx_md gqs sh) → kz_dy (dC, dI) vwCl A s.heap H locs [(qf, .inl (cI, 8, .inl (kz_dg d7))), (qw, .inl (cI, 16, .inl (kz_dg d8))), (ql, .inl (cI, 8, .inl (kz_dg d9))), (qr, .inl (cI, 8, .inl (kz_dg d10))), (o, .inl (cI, 8, .inl (kz_dg go)))] → lv_has ls 5 [(4, .int (nI (k20))), (0, .ref h), (1, .ref a), (2, .ref x), (3, .ref o)] → W p l e { frames := 4, cells := 0, slots := 0, locals := 102 } s m ([.ref h, .ref a, .ref x, .ref o] : List Value).toArray below meth c H locs 0 0 (MQ below (va_Qv (fun (u : (Nat → Nat) × (Nat → Nat) × (Nat → Nat) × (Nat → Nat) × (Nat → Nat)) => (∀ j, u.1 j < 4294967296) ∧ (∀ j, u.2.1 j < 4294967296) ∧ (∀ j, u.2.2.1 j < 4294967296) ∧ (∀ j, u.2.2.2.1 j < 4294967296) ∧ (∀ j, u.2.2.2.2 j < 4294967296) ∧ (kx_V 8 u.2.2.2.2 = kx_V 8 ga ^ kx_V 8 gx % kx_md gqs sh) ∧ True) (kz_B (dC, dI) vwCl A (fun u : (Nat → Nat) × (Nat → Nat) × (Nat → Nat) × (Nat → Nat) × (Nat → Nat) => [(qf, .inl (cI, 8, .inl (kz_dg u.1))), (qw, .inl (cI, 16, .inl (kz_dg u.2.1))), (ql, .inl (cI, 8, .inl (kz_dg u.2.2.1))), (qr, .inl (cI, 8, .inl (kz_dg u.2.2.2.1))), (o, .inl (cI, 8, .inl (kz_dg u.2.2.2.2)))])) A) ([.ref h, .ref a, .ref x, .ref o] : List Value).toArray s 0 0 A) (F0 m 20 ls []) := by
    intro n20
    induction n20 with
    | zero => intro k20; intros; omega
    | succ n20 ih20 =>
      intro k20 d7 d8 d9 d10 H locs ls hi20 hn20 hd_d7 hd_d8 hd_d9 hd_d10 hr hdy hl
      refine lv_iload hx hb zd_M_power_20 (lv_at hl 0 rfl) ?_
      refine lv_sipush (v := (nI (256))) hx hb zd_M_power_22 (by decide) ?_
      refine lv_icmp_ge (tgt := 72) hx hb zd_M_power_25 (by decide) (fun hc25 => ?_) (fun hc25 => ?_)
      · have hc25 : 256 ≤ k20 := (nI_leI (by omega) (by omega)).mp hc25
        refine lv_aload_n hx hb zd_M_power_72 rfl (lv_at hl 1 rfl) ?_
        refine va_get (D := (dC, dI)) (ci := 1) (v := .ref qr) (C := zR_M) (T := zT_M) (N := 6) hx hb hts (fun w h => kz_c (zi_M w h)) hown hK (hro.ob hdy.2.2 (k := 0) rfl) 0 rfl rfl 4 (by decide) (hts _ (kz_c mw_98)) (fun _ h9 => h9) rfl zd_M_power_73 ?_
        refine lv_aload_n hx hb zd_M_power_76 rfl (lv_at hl 4 rfl) ?_
        refine kz_callv (wk := [(qf, .inl (cI, 8, .inl (kz_dg d7))), (qw, .inl (cI, 16, .inl (kz_dg d8))), (ql, .inl (cI, 8, .inl (kz_dg d9))), (qr, .inl (cI, 8, .inl (kz_dg d10)))]) (va_runS (As := [.ref qr, .ref o]) (rest := []) ⟨hx, hb, hml, hown, hts⟩ (c_E_copy l dC dI cI cAA cB cL o qr go d10 _ hd_go hd_d10) (va_cwS 2 hts (kz_g (kz_mc mw_282 (kz_mc mw_283 (kz_mc mw_50 kz_mn))) mw_284) rfl rfl rfl (by decide +kernel) ⟨Nat.le_of_ble_eq_true rfl, Nat.le_of_ble_eq_true rfl⟩) (kz_preS hdy hA hK hro hZ hN [4] (by decide) rfl [(false, 3)] rfl (by decide) [0, 1, 2, 3] rfl (fun _ h => by cases h) (fun _ h => by cases h) rfl) rfl rfl hl.1 rfl (lv_room (Nat.le_of_ble_eq_true rfl)) zd_M_power_77 ⟨Nat.le_of_ble_eq_true rfl, Nat.le_of_ble_eq_true rfl⟩) hdy hA [4] [0, 1, 2, 3] rfl rfl (by decide) (by decide) (fun u H locs hw hdy => ?_)
        obtain ⟨d11, rfl⟩ : ∃ z, z = u := ⟨_, rfl⟩
        try dsimp only at hw
        obtain ⟨hd_d11, q12, -⟩ := hw
        have hdy : kz_dy (dC, dI) vwCl A s.heap H locs [(qf, .inl (cI, 8, .inl (kz_dg d7))), (qw, .inl (cI, 16, .inl (kz_dg d8))), (ql, .inl (cI, 8, .inl (kz_dg d9))), (qr, .inl (cI, 8, .inl (kz_dg d10))), (o, .inl (cI, 8, .inl (kz_dg d11)))] := hdy.sub [0, 1, 2, 3, 4] (by decide) rfl
        exact kz_vret F (d7, d8, d9, d10, d11) hdy (⟨hd_d7, hd_d8, hd_d9, hd_d10, hd_d11, by rw [kx_V_ext q12]; have h9 : k20 = 256 := (by omega); subst h9; exact kx_powEnd hr, trivial⟩) zd_M_power_80
      · have hc25 : ¬ 256 ≤ k20 := fun h9 => hc25 ((nI_leI (by omega) (by omega)).mpr h9)
        have hle2 : kx_V 8 d10 ≤ kx_md gqs sh := (by rw [hr]; exact kx_modLe h0)
        refine lv_aload_n hx hb zd_M_power_28 rfl (lv_at hl 1 rfl) ?_
        refine lv_aload_n hx hb zd_M_power_29 rfl (lv_at hl 1 rfl) ?_
        refine va_get (D := (dC, dI)) (ci := 1) (v := .ref qr) (C := zR_M) (T := zT_M) (N := 6) hx hb hts (fun w h => kz_c (zi_M w h)) hown hK (hro.ob hdy.2.2 (k := 0) rfl) 0 rfl rfl 4 (by decide) (hts _ (kz_c mw_98)) (fun _ h9 => h9) rfl zd_M_power_30 ?_
        refine lv_aload_n hx hb zd_M_power_33 rfl (lv_at hl 1 rfl) ?_
        refine va_get (D := (dC, dI)) (ci := 1) (v := .ref qr) (C := zR_M) (T := zT_M) (N := 6) hx hb hts (fun w h => kz_c (zi_M w h)) hown hK (hro.ob hdy.2.2 (k := 0) rfl) 0 rfl rfl 4 (by decide) (hts _ (kz_c mw_98)) (fun _ h9 => h9) rfl zd_M_power_34 ?_
        refine lv_aload_n hx hb zd_M_power_37 rfl (lv_at hl 1 rfl) ?_
        refine va_get (D := (dC, dI)) (ci := 1) (v := .ref qr) (C := zR_M) (T := zT_M) (N := 6) hx hb hts (fun w h => kz_c (zi_M w h)) hown hK (hro.ob hdy.2.2 (k := 0) rfl) 0 rfl rfl 4 (by decide) (hts _ (kz_c mw_98)) (fun _ h9 => h9) rfl zd_M_power_38 ?_
        refine kz_callv (wk := [(o, .inl (cI, 8, .inl (kz_dg go)))]) (va_runV (As := [.ref qr, .ref qr, .ref qr]) (rest := []) ⟨hx, hb, hml, hown, hts⟩ (c_E_mulMod2 l dC dI cI cAA cB cL qf qw ql qr h qs qr d7 d8 d9 d10 sh gqs _ hd_d7 hd_d8 hd_d9 hd_d10 hd_gqs (by first | omega | assumption) (by first | omega | assumption)) (cwV 3 hts (kz_g (kz_mc mw_255 (kz_mc mw_257 (kz_mc mw_6 (kz_mc mw_41 kz_mn)))) mw_258) rfl rfl rfl (by decide +kernel) ⟨Nat.le_of_ble_eq_true rfl, Nat.le_of_ble_eq_true rfl⟩) (kz_preVr hdy hA hK hro hZ hN [0, 1, 2, 3] (by decide) rfl [(true, 0), (true, 1)] rfl (by decide) [0, 1, 2, 3] rfl (fun _ h => by cases h) (fun _ h => by cases h) rfl (ci := 1) (q0 := 0) rfl rfl rfl) rfl rfl hl.1 rfl (lv_room (Nat.le_of_ble_eq_true rfl)) zd_M_power_41 ⟨Nat.le_of_ble_eq_true rfl, Nat.le_of_ble_eq_true rfl⟩) hdy hA [0, 1, 2, 3] [4] rfl rfl (by decide) (by decide) (fun u H locs hw hdy => ?_)
        obtain ⟨d13, d14, d15, d16⟩ := u
        try dsimp only at hw
        obtain ⟨hd_d13, hd_d14, hd_d15, hd_d16, q17, -⟩ := hw
        have hdy : kz_dy (dC, dI) vwCl A s.heap H locs [(qf, .inl (cI, 8, .inl (kz_dg d13))), (qw, .inl (cI, 16, .inl (kz_dg d14))), (ql, .inl (cI, 8, .inl (kz_dg d15))), (qr, .inl (cI, 8, .inl (kz_dg d16))), (o, .inl (cI, 8, .inl (kz_dg go)))] := hdy.sub [1, 2, 3, 4, 0] (by decide) rfl
        refine lv_aload_n hx hb zd_M_power_44 rfl (lv_at hl 3 rfl) ?_
        refine lv_iload hx hb zd_M_power_45 (lv_at hl 0 rfl) ?_
        refine kz_calli (wk := [(qf, .inl (cI, 8, .inl (kz_dg d13))), (qw, .inl (cI, 16, .inl (kz_dg d14))), (ql, .inl (cI, 8, .inl (kz_dg d15))), (qr, .inl (cI, 8, .inl (kz_dg d16))), (o, .inl (cI, 8, .inl (kz_dg go)))]) (va_runS (As := [.ref x, .int (nI (k20))]) (rest := []) ⟨hx, hb, hml, hown, hts⟩ (c_E_hasBit l dC dI cI cAA cB cL x gx k20 _ hd_gx (by first | omega | assumption)) (va_cwS 2 hts (kz_g (kz_mc mw_281 (kz_mc mw_241 (kz_mc mw_50 kz_mn))) mw_242) rfl rfl rfl (by decide +kernel) ⟨Nat.le_of_ble_eq_true rfl, Nat.le_of_ble_eq_true rfl⟩) (kz_preS hdy hA hK hro hZ hN [] (by decide) rfl [(true, 3)] rfl (by decide) [0, 1, 2, 3] rfl (fun _ h => by cases h) (fun _ h => by cases h) rfl) rfl rfl hl.1 rfl (lv_room (Nat.le_of_ble_eq_true rfl)) zd_M_power_47 ⟨Nat.le_of_ble_eq_true rfl, Nat.le_of_ble_eq_true rfl⟩) hdy hA [] [0, 1, 2, 3, 4] rfl rfl (by decide) (by decide) (fun r u H locs hw hdy => ?_)
        obtain ⟨r18, rfl⟩ : ∃ z, z = r := ⟨_, rfl⟩
        try dsimp only at hw
        obtain ⟨hzr18, q19, -⟩ := hw
        have hdy : kz_dy (dC, dI) vwCl A s.heap H locs [(qf, .inl (cI, 8, .inl (kz_dg d13))), (qw, .inl (cI, 16, .inl (kz_dg d14))), (ql, .inl (cI, 8, .inl (kz_dg d15))), (qr, .inl (cI, 8, .inl (kz_dg d16))), (o, .inl (cI, 8, .inl (kz_dg go)))] := hdy.sub [0, 1, 2, 3, 4] (by decide) rfl
        refine lv_if_eq (tgt := 66) hx hb zd_M_power_50 (by decide) (fun hc50 => ?_) (fun hc50 => ?_)
        · refine lv_iinc (v := (nI (k20 + 1))) (lv' := [(4, .int (nI (k20 + 1))), (0, .ref h), (1, .ref a), (2, .ref x), (3, .ref o)]) hx hb zd_M_power_66 hl (k := 0) rfl (nI_1 _) (by decide) rfl (fun ls hl => ?_)
          refine lv_goto (tgt := 20) hx hb zd_M_power_69 (by decide) ?_
          have hi9_hr20 : kx_V 8 d16 = kx_V 8 ga ^ (kx_V 8 gx / 2 ^ (256 - (k20 + 1))) % kx_md gqs sh := by first | (exact kx_pow0 (q := 0) (by omega) hr q17 (q19.resolve_left (fun h => absurd (h.1.symm.trans hc50) (by decide))).2) | exact kx_pow1 (by omega) hr q17 q19 (q19.resolve_right (fun h => hc50 h.1)).2
          exact ih20 (k20 + 1) d13 d14 d15 d16 _ _ _ (by omega) (by omega) hd_d13 hd_d14 hd_d15 hd_d16 hi9_hr20 hdy (lv_sub hl [0, 1, 2, 3, 4] rfl)
        · refine lv_aload_n hx hb zd_M_power_53 rfl (lv_at hl 1 rfl) ?_
          refine lv_aload_n hx hb zd_M_power_54 rfl (lv_at hl 1 rfl) ?_
          refine va_get (D := (dC, dI)) (ci := 1) (v := .ref qr) (C := zR_M) (T := zT_M) (N := 6) hx hb hts (fun w h => kz_c (zi_M w h)) hown hK (hro.ob hdy.2.2 (k := 0) rfl) 0 rfl rfl 4 (by decide) (hts _ (kz_c mw_98)) (fun _ h9 => h9) rfl zd_M_power_55 ?_
          refine lv_aload_n hx hb zd_M_power_58 rfl (lv_at hl 2 rfl) ?_
          refine lv_aload_n hx hb zd_M_power_59 rfl (lv_at hl 1 rfl) ?_
          refine va_get (D := (dC, dI)) (ci := 1) (v := .ref qr) (C := zR_M) (T := zT_M) (N := 6) hx hb hts (fun w h => kz_c (zi_M w h)) hown hK (hro.ob hdy.2.2 (k := 0) rfl) 0 rfl rfl 4 (by decide) (hts _ (kz_c mw_98)) (fun _ h9 => h9) rfl zd_M_power_60 ?_
          refine kz_callv (wk := [(o, .inl (cI, 8, .inl (kz_dg go)))]) (va_runV (As := [.ref qr, .ref a, .ref qr]) (rest := []) ⟨hx, hb, hml, hown, hts⟩ (c_E_mulMod3 l dC dI cI cAA cB cL qf qw ql qr h qs qr a d13 d14 d15 d16 sh gqs ga _ hd_d13 hd_d14 hd_d15 hd_d16 hd_gqs hd_ga (by first | omega | assumption) (by first | omega | assumption)) (cwV 3 hts (kz_g (kz_mc mw_255 (kz_mc mw_257 (kz_mc mw_6 (kz_mc mw_41 kz_mn)))) mw_258) rfl rfl rfl (by decide +kernel) ⟨Nat.le_of_ble_eq_true rfl, Nat.le_of_ble_eq_true rfl⟩) (kz_preVr hdy hA hK hro hZ hN [0, 1, 2, 3] (by decide) rfl [(true, 0), (true, 1), (true, 2)] rfl (by decide) [0, 1, 2, 3] rfl (fun _ h => by cases h) (fun _ h => by cases h) rfl (ci := 1) (q0 := 0) rfl rfl rfl) rfl rfl hl.1 rfl (lv_room (Nat.le_of_ble_eq_true rfl)) zd_M_power_63 ⟨Nat.le_of_ble_eq_true rfl, Nat.le_of_ble_eq_true rfl⟩) hdy hA [0, 1, 2, 3] [4] rfl rfl (by decide) (by decide) (fun u H locs hw hdy => ?_)
          obtain ⟨d21, d22, d23, d24⟩ := u
          try dsimp only at hw
          obtain ⟨hd_d21, hd_d22, hd_d23, hd_d24, q25, -⟩ := hw
          have hdy : kz_dy (dC, dI) vwCl A s.heap H locs [(qf, .inl (cI, 8, .inl (kz_dg d21))), (qw, .inl (cI, 16, .inl (kz_dg d22))), (ql, .inl (cI, 8, .inl (kz_dg d23))), (qr, .inl (cI, 8, .inl (kz_dg d24))), (o, .inl (cI, 8, .inl (kz_dg go)))] := hdy.sub [1, 2, 3, 4, 0] (by decide) rfl
          refine lv_iinc (v := (nI (k20 + 1))) (lv' := [(4, .int (nI (k20 + 1))), (0, .ref h), (1, .ref a), (2, .ref x), (3, .ref o)]) hx hb zd_M_power_66 hl (k := 0) rfl (nI_1 _) (by decide) rfl (fun ls hl => ?_)
          refine lv_goto (tgt := 20) hx hb zd_M_power_69 (by decide) ?_
          have hi9_hr26 : kx_V 8 d24 = kx_V 8 ga ^ (kx_V 8 gx / 2 ^ (256 - (k20 + 1))) % kx_md gqs sh := by first | (exact kx_pow0 (q := 0) (by omega) hr q17 (q19.resolve_left (fun h => absurd (h.1.symm.trans hc50) (by decide))).2) | exact kx_pow1 (by omega) hr q17 q25 (q19.resolve_right (fun h => hc50 h.1)).2
          exact ih20 (k20 + 1) d21 d22 d23 d24 _ _ _ (by omega) (by omega) hd_d21 hd_d22 hd_d23 hd_d24 hi9_hr26 hdy (lv_sub hl [0, 1, 2, 3, 4] rfl)
  have hi9_hr27 : kx_V 8 d4 = kx_V 8 ga ^ (kx_V 8 gx / 2 ^ (256 - (b6))) % kx_md gqs sh := by exact kx_powStart h1o hb6 q5
  exact lp20 (256 - b6 + 1) b6 d1 d2 d3 d4 _ _ _ (by omega) (by omega) hd_d1 hd_d2 hd_d3 hd_d4 hi9_hr27 hdy (lv_sub hl [0, 1, 2, 3, 4] rfl)

