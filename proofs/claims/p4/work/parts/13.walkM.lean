set_option maxHeartbeats 4000000 in
set_option maxRecDepth 100000 in
/-- KeyMeeting$Modulus.take([I)V -/
theorem c_Mod_take (l : Launch) (dC : Nat → ClassId) (dI : Nat → Nat → Nat) (cI cAA cB cL : ClassId) (h qs qf qw ql qr a : Nat) (sh : Int32) (gqs : Nat → Int32) (ga : Nat → Int32) (sz : Nat) : Met l zy_M_take zw_M_take { frames := 2, cells := 0, slots := 0, locals := 47 } (kz_Pc (dC, dI) vwCl [(cI, .int), (cAA, .array .int), (cB, .byte), (cL, .long)] [] [] [.ref h, .ref a] [(h, .inr (1, [.ref qs, .ref qf, .ref qw, .ref ql, .ref qr, .int sh])), (qs, .inl (cI, 8, .inl gqs))] [(a, .inl (cI, 8, .inl ga))] sz) (va_Qv (fun _ => True) (kz_B (dC, dI) vwCl (va_A [(h, .inr (1, [.ref qs, .ref qf, .ref qw, .ref ql, .ref qr, .int sh])), (qs, .inl (cI, 8, .inl gqs))] sz) (fun u : Int32 × (Nat → Int32) => [(h, .inr (1, [.ref qs, .ref qf, .ref qw, .ref ql, .ref qr, .int u.1])), (qs, .inl (cI, 8, .inl u.2))])) (va_A [(h, .inr (1, [.ref qs, .ref qf, .ref qw, .ref ql, .ref qr, .int sh])), (qs, .inl (cI, 8, .inl gqs))] sz)) 0 0 (va_A [(h, .inr (1, [.ref qs, .ref qf, .ref qw, .ref ql, .ref qr, .int sh])), (qs, .inl (cI, 8, .inl gqs))] sz) := by
  refine kz_met (y := zy_M_take) (ws := zw_M_take) (av := [.ref h, .ref a]) (sz := sz) (Qc := fun A => va_Qv (fun _ => True) (kz_B (dC, dI) vwCl A (fun u : Int32 × (Nat → Int32) => [(h, .inr (1, [.ref qs, .ref qf, .ref qw, .ref ql, .ref qr, .int u.1])), (qs, .inl (cI, 8, .inl u.2))])) A) (cc := zc_M_take) (maxL := 2) (ret := none) (by decide) rfl (Nat.le_of_ble_eq_true rfl) ?_
  intro p e s m below meth c A ls F hA hdy hK hro hZ hN hl
  obtain ⟨hx, hb, hml, hr, hown, hlocks, hts, hnm⟩ := id F
  have hl : lv_has ls 2 [(0, .ref h), (1, .ref a)] := hl
  refine lv_aload_n hx hb zd_M_take_0 rfl (lv_at hl 0 rfl) ?_
  refine lv_aload_n hx hb zd_M_take_1 rfl (lv_at hl 1 rfl) ?_
  refine kz_calli (wk := [(h, .inr (1, [.ref qs, .ref qf, .ref qw, .ref ql, .ref qr, .int sh])), (qs, .inl (cI, 8, .inl gqs))]) (va_runS (As := [.ref a]) (rest := [.ref h]) ⟨hx, hb, hml, hown, hts⟩ (c_Words_leadingZeros l dC dI cI cAA cB cL a ga _) (va_cwS 1 hts (kz_g (kz_mc mw_237 (kz_mc mw_238 (kz_mc mw_50 kz_mn))) mw_239) rfl rfl rfl (by decide +kernel) ⟨Nat.le_of_ble_eq_true rfl, Nat.le_of_ble_eq_true rfl⟩) (kz_preS hdy hA hK hro hZ hN [] (by decide) rfl [(true, 0)] rfl (by decide) [0, 1, 2, 3] rfl (fun _ h => by cases h) (fun _ h => by cases h) rfl) rfl rfl hl.1 rfl (lv_room (Nat.le_of_ble_eq_true rfl)) zd_M_take_2 ⟨Nat.le_of_ble_eq_true rfl, Nat.le_of_ble_eq_true rfl⟩) hdy hA [] [0, 1] rfl rfl (by decide) (by decide) (fun r u H locs hw hdy => ?_)
  try dsimp only at hw
  obtain ⟨⟨b1, hb1, rfl⟩, -⟩ := hw
  have hdy : kz_dy (dC, dI) vwCl A s.heap H locs [(h, .inr (1, [.ref qs, .ref qf, .ref qw, .ref ql, .ref qr, .int sh])), (qs, .inl (cI, 8, .inl gqs))] := hdy.sub [0, 1] (by decide) rfl
  refine va_put (D := (dC, dI)) (ci := 1) (v := .int (nI (b1))) (ty := .int) (C := zR_M) (T := zT_M) (N := 6) hx hb hts (fun w h => kz_c (zi_M w h)) zt_M zo_M zn_M hown hK hdy.1 hdy.2.1 hdy.2.2 0 rfl rfl 5 (by decide) (hts _ (kz_c mw_99)) (fun _ h9 => h9) rfl (by decide +kernel) rfl rfl (Nat.le_of_ble_eq_true rfl) zd_M_take_5 (fun H locs hP hD hS => ?_)
  have hdy : kz_dy (dC, dI) vwCl A s.heap H locs [(h, .inr (1, [.ref qs, .ref qf, .ref qw, .ref ql, .ref qr, .int (nI (b1))])), (qs, .inl (cI, 8, .inl gqs))] := ⟨hP, hD, hS⟩
  refine lv_aload_n hx hb zd_M_take_8 rfl (lv_at hl 1 rfl) ?_
  refine lv_aload_n hx hb zd_M_take_9 rfl (lv_at hl 0 rfl) ?_
  refine va_get (D := (dC, dI)) (ci := 1) (v := .int (nI (b1))) (C := zR_M) (T := zT_M) (N := 6) hx hb hts (fun w h => kz_c (zi_M w h)) hown hK hdy.1 0 rfl rfl 5 (by decide) (hts _ (kz_c mw_99)) (fun _ h9 => h9) rfl zd_M_take_10 ?_
  refine lv_aload_n hx hb zd_M_take_13 rfl (lv_at hl 0 rfl) ?_
  refine va_get (D := (dC, dI)) (ci := 1) (v := .ref qs) (C := zR_M) (T := zT_M) (N := 6) hx hb hts (fun w h => kz_c (zi_M w h)) hown hK hdy.1 0 rfl rfl 0 (by decide) (hts _ (kz_c mw_94)) (fun _ h9 => h9) rfl zd_M_take_14 ?_
  refine kz_callv (wk := [(h, .inr (1, [.ref qs, .ref qf, .ref qw, .ref ql, .ref qr, .int (nI (b1))]))]) (va_runS (As := [.ref a, .int (nI (b1)), .ref qs]) (rest := []) ⟨hx, hb, hml, hown, hts⟩ (c_Words_shiftLeft l dC dI cI cAA cB cL qs a gqs ga ((nI (b1))) _) (va_cwS 3 hts (kz_g (kz_mc mw_243 (kz_mc mw_244 (kz_mc mw_50 kz_mn))) mw_245) rfl rfl rfl (by decide +kernel) ⟨Nat.le_of_ble_eq_true rfl, Nat.le_of_ble_eq_true rfl⟩) (kz_preS hdy hA hK hro hZ hN [1] (by decide) rfl [(true, 0)] rfl (by decide) [0, 1, 2, 3] rfl (fun _ h => by cases h) (fun _ h => by cases h) rfl) rfl rfl hl.1 rfl (lv_room (Nat.le_of_ble_eq_true rfl)) zd_M_take_17 ⟨Nat.le_of_ble_eq_true rfl, Nat.le_of_ble_eq_true rfl⟩) hdy hA [1] [0] rfl rfl (by decide) (by decide) (fun u H locs hw hdy => ?_)
  obtain ⟨f2, rfl⟩ : ∃ z, z = u := ⟨_, rfl⟩
  have hdy : kz_dy (dC, dI) vwCl A s.heap H locs [(h, .inr (1, [.ref qs, .ref qf, .ref qw, .ref ql, .ref qr, .int (nI (b1))])), (qs, .inl (cI, 8, .inl f2))] := hdy.sub [0, 1] (by decide) rfl
  exact kz_vret F ((nI (b1)), f2) hdy (trivial) zd_M_take_20

set_option maxHeartbeats 4000000 in
set_option maxRecDepth 100000 in
/-- KeyMeeting$Modulus.giveBack(I)J -/
theorem c_Mod_giveBack (l : Launch) (dC : Nat → ClassId) (dI : Nat → Nat → Nat) (cI cAA cB cL : ClassId) (qw h qs qf ql qr : Nat) (gqw : Nat → Int32) (sh : Int32) (gqs : Nat → Int32) (at_ : Nat) (sz : Nat) (hat : at_ < 8) : Met l zy_M_giveBack zw_M_giveBack { frames := 0, cells := 0, slots := 0, locals := 0 } (kz_Pc (dC, dI) vwCl [(cI, .int), (cAA, .array .int), (cB, .byte), (cL, .long)] [] [] [.ref h, .int (nI (at_))] [(qw, .inl (cI, 16, .inl gqw))] [(h, .inr (1, [.ref qs, .ref qf, .ref qw, .ref ql, .ref qr, .int sh])), (qs, .inl (cI, 8, .inl gqs))] sz) (va_Ql (fun _ _ => True) (kz_B (dC, dI) vwCl (va_A [(qw, .inl (cI, 16, .inl gqw))] sz) (fun u : (Nat → Int32) => [(qw, .inl (cI, 16, .inl u))])) (va_A [(qw, .inl (cI, 16, .inl gqw))] sz)) 0 0 (va_A [(qw, .inl (cI, 16, .inl gqw))] sz) := by
  refine kz_met (y := zy_M_giveBack) (ws := zw_M_giveBack) (av := [.ref h, .int (nI (at_))]) (sz := sz) (Qc := fun A => va_Ql (fun _ _ => True) (kz_B (dC, dI) vwCl A (fun u : (Nat → Int32) => [(qw, .inl (cI, 16, .inl u))])) A) (cc := zc_M_giveBack) (maxL := 7) (ret := some .long) (by decide) rfl (Nat.le_of_ble_eq_true rfl) ?_
  intro p e s m below meth c A ls F hA hdy hK hro hZ hN hl
  obtain ⟨hx, hb, hml, hr, hown, hlocks, hts, hnm⟩ := id F
  have hl : lv_has ls 7 [(0, .ref h), (1, .int (nI (at_)))] := hl
  refine lv_lconst (v := 0) hx hb zd_M_giveBack_0 (by decide) ?_
  refine lv_lstore_n (lv' := [(2, .long 0), (0, .ref h), (1, .int (nI (at_)))]) hx hb zd_M_giveBack_1 rfl hl (by decide) rfl (fun ls hl => ?_)
  refine lv_bipush (v := (nI (7))) hx hb zd_M_giveBack_2 (by decide) ?_
  refine lv_istore (lv' := [(4, .int (nI (7))), (2, .long 0), (0, .ref h), (1, .int (nI (at_)))]) hx hb zd_M_giveBack_4 hl (by decide) rfl (fun ls hl => ?_)
  have lp6 : ∀ (k6 : Nat) (yl1 : Int64) (f2 : Nat → Int32) (H : Heap) (locs : List Loc) (ls : Array Slot), k6 ≤ 8 → kz_dy (dC, dI) vwCl A s.heap H locs [(qw, .inl (cI, 16, .inl f2))] → lv_has ls 7 [(4, .int (nI k6 - 1)), (2, .long yl1), (0, .ref h), (1, .int (nI (at_)))] → W p l e { frames := 0, cells := 0, slots := 0, locals := 0 } s m ([.ref h, .int (nI (at_))] : List Value).toArray below meth c H locs 0 0 (MQ below (va_Ql (fun _ _ => True) (kz_B (dC, dI) vwCl A (fun u : (Nat → Int32) => [(qw, .inl (cI, 16, .inl u))])) A) ([.ref h, .int (nI (at_))] : List Value).toArray s 0 0 A) (F0 m 6 ls []) := by
    intro k6
    induction k6 with
    | zero =>
      intro yl1 f2 H locs ls hi6 hdy hl
      refine lv_iload hx hb zd_M_giveBack_6 (lv_at hl 0 rfl) ?_
      refine lv_if_lt (tgt := 70) hx hb zd_M_giveBack_8 (by decide) (fun hc8 => ?_) (fun hc8 => ?_)
      · refine lv_lload_n hx hb zd_M_giveBack_70 rfl (lv_at hl 1 rfl) ?_
        exact kz_lret F (f2) hdy (trivial) zd_M_giveBack_71
      · exact absurd (by decide) hc8
    | succ k6 ih6 =>
      intro yl1 f2 H locs ls hi6 hdy hl
      rw [nI_pred] at hl
      refine lv_iload hx hb zd_M_giveBack_6 (lv_at hl 0 rfl) ?_
      refine lv_if_lt (tgt := 70) hx hb zd_M_giveBack_8 (by decide) (fun hc8 => ?_) (fun hc8 => ?_)
      · exact absurd hc8 (nI_pos (by omega))
      · refine lv_aload_n hx hb zd_M_giveBack_11 rfl (lv_at hl 2 rfl) ?_
        refine va_get (D := (dC, dI)) (ci := 1) (v := .ref qw) (C := zR_M) (T := zT_M) (N := 6) hx hb hts (fun w h => kz_c (zi_M w h)) hown hK (hro.ob hdy.2.2 (k := 0) rfl) 0 rfl rfl 2 (by decide) (hts _ (kz_c mw_96)) (fun _ h9 => h9) rfl zd_M_giveBack_12 ?_
        refine lv_iload_n hx hb zd_M_giveBack_15 rfl (lv_at hl 3 rfl) ?_
        refine lv_iconst (v := (nI (1))) hx hb zd_M_giveBack_16 (by decide) ?_
        refine kz_iadd hx hb zd_M_giveBack_17 (nI_add _ _) ?_
        refine lv_iload hx hb zd_M_giveBack_18 (lv_at hl 0 rfl) ?_
        refine kz_iadd hx hb zd_M_giveBack_20 (nI_add _ _) ?_
        refine va_iald hx hb hK hdy.1 0 0 rfl rfl (vp_in_nI (by omega) (by omega)) zd_M_giveBack_21 ?_
        refine lv_topi (fun x3 _ => ?_)
        refine lv_i2l hx hb zd_M_giveBack_22 rfl ?_
        refine lv_topl (fun yl4 _ => ?_)
        refine lv_ldc2 (v := (4294967295)) hx hb hown (hts _ (kz_c mw_268)) zd_M_giveBack_23 ?_
        refine kz_mask hx hb zd_M_giveBack_26 (fun yl5 hyl5 => ?_)
        refine lv_aload_n hx hb zd_M_giveBack_27 rfl (lv_at hl 2 rfl) ?_
        refine va_get (D := (dC, dI)) (ci := 1) (v := .ref qs) (C := zR_M) (T := zT_M) (N := 6) hx hb hts (fun w h => kz_c (zi_M w h)) hown hK (hro.ob hdy.2.2 (k := 0) rfl) 0 rfl rfl 0 (by decide) (hts _ (kz_c mw_94)) (fun _ h9 => h9) rfl zd_M_giveBack_28 ?_
        refine lv_iload hx hb zd_M_giveBack_31 (lv_at hl 0 rfl) ?_
        refine kz_riald hx hb hK hro hdy.2.2 1 0 rfl rfl (vp_in_nI (by omega) (by omega)) zd_M_giveBack_33 ?_
        refine lv_topi (fun x6 _ => ?_)
        refine lv_i2l hx hb zd_M_giveBack_34 rfl ?_
        refine lv_topl (fun yl7 _ => ?_)
        refine lv_ldc2 (v := (4294967295)) hx hb hown (hts _ (kz_c mw_268)) zd_M_giveBack_35 ?_
        refine kz_mask hx hb zd_M_giveBack_38 (fun yl8 hyl8 => ?_)
        refine lv_ladd hx hb zd_M_giveBack_39 ?_
        refine lv_topl (fun yl9 _ => ?_)
        refine lv_lload_n hx hb zd_M_giveBack_40 rfl (lv_at hl 1 rfl) ?_
        refine lv_ladd hx hb zd_M_giveBack_41 ?_
        refine lv_topl (fun yl10 _ => ?_)
        refine lv_lstore (lv' := [(5, .long yl10), (4, .int (nI (k6))), (2, .long yl1), (0, .ref h), (1, .int (nI (at_)))]) hx hb zd_M_giveBack_42 hl (by decide) rfl (fun ls hl => ?_)
        refine lv_aload_n hx hb zd_M_giveBack_44 rfl (lv_at hl 3 rfl) ?_
        refine va_get (D := (dC, dI)) (ci := 1) (v := .ref qw) (C := zR_M) (T := zT_M) (N := 6) hx hb hts (fun w h => kz_c (zi_M w h)) hown hK (hro.ob hdy.2.2 (k := 0) rfl) 0 rfl rfl 2 (by decide) (hts _ (kz_c mw_96)) (fun _ h9 => h9) rfl zd_M_giveBack_45 ?_
        refine lv_iload_n hx hb zd_M_giveBack_48 rfl (lv_at hl 4 rfl) ?_
        refine lv_iconst (v := (nI (1))) hx hb zd_M_giveBack_49 (by decide) ?_
        refine kz_iadd hx hb zd_M_giveBack_50 (nI_add _ _) ?_
        refine lv_iload hx hb zd_M_giveBack_51 (lv_at hl 1 rfl) ?_
        refine kz_iadd hx hb zd_M_giveBack_53 (nI_add _ _) ?_
        refine lv_lload hx hb zd_M_giveBack_54 (lv_at hl 0 rfl) ?_
        refine lv_l2i hx hb zd_M_giveBack_56 rfl ?_
        refine lv_topi (fun x11 _ => ?_)
        refine va_iast hx hb hK hdy.1 hdy.2.1 hdy.2.2 0 0 rfl rfl (vp_in_nI (by omega) (by omega)) zd_M_giveBack_57 (fun H locs hP hD hS => ?_)
        obtain ⟨f12, hdy⟩ : ∃ f12 : Nat → Int32, kz_dy (dC, dI) vwCl A s.heap H locs [(qw, .inl (cI, 16, .inl f12))] := ⟨_, hP, hD, hS⟩
        refine lv_lload hx hb zd_M_giveBack_58 (lv_at hl 0 rfl) ?_
        refine lv_bipush (v := (nI (32))) hx hb zd_M_giveBack_60 (by decide) ?_
        refine lv_lushr hx hb zd_M_giveBack_62 rfl ?_
        refine lv_topl (fun yl13 _ => ?_)
        refine lv_lstore_n (lv' := [(2, .long yl13), (5, .long yl10), (4, .int (nI (k6))), (0, .ref h), (1, .int (nI (at_)))]) hx hb zd_M_giveBack_63 rfl hl (by decide) rfl (fun ls hl => ?_)
        refine lv_iinc (v := (nI (k6) - 1)) (lv' := [(4, .int (nI (k6) - 1)), (2, .long yl13), (5, .long yl10), (0, .ref h), (1, .int (nI (at_)))]) hx hb zd_M_giveBack_64 hl (k := 2) rfl (kz_m1 _) (by decide) rfl (fun ls hl => ?_)
        refine lv_goto (tgt := 6) hx hb zd_M_giveBack_67 (by decide) ?_
        exact ih6 (yl13) f12 _ _ _ (by omega) hdy (lv_sub hl [0, 1, 3, 4] rfl)
  exact lp6 8 (0) gqw _ _ _ (by omega) hdy (lv_sub hl [0, 1, 2, 3] rfl)

set_option maxHeartbeats 4000000 in
set_option maxRecDepth 100000 in
/-- KeyMeeting$Modulus.guessDigit(I)J -/
theorem c_Mod_guessDigit (l : Launch) (dC : Nat → ClassId) (dI : Nat → Nat → Nat) (cI cAA cB cL : ClassId) (h qs qf qw ql qr : Nat) (sh : Int32) (gqs : Nat → Int32) (gqw : Nat → Int32) (at_ : Nat) (sz : Nat) (hat : at_ < 8) : Met l zy_M_guessDigit zw_M_guessDigit { frames := 0, cells := 0, slots := 0, locals := 0 } (kz_Pc (dC, dI) vwCl [(cI, .int), (cAA, .array .int), (cB, .byte), (cL, .long)] [] [] [.ref h, .int (nI (at_))] [] [(h, .inr (1, [.ref qs, .ref qf, .ref qw, .ref ql, .ref qr, .int sh])), (qs, .inl (cI, 8, .inl gqs)), (qw, .inl (cI, 16, .inl gqw))] sz) (va_Ql (fun _ _ => True) (kz_B (dC, dI) vwCl (va_A [] sz) (fun u : Unit => [])) (va_A [] sz)) 0 0 (va_A [] sz) := by
  refine kz_met (y := zy_M_guessDigit) (ws := zw_M_guessDigit) (av := [.ref h, .int (nI (at_))]) (sz := sz) (Qc := fun A => va_Ql (fun _ _ => True) (kz_B (dC, dI) vwCl A (fun u : Unit => [])) A) (cc := zc_M_guessDigit) (maxL := 10) (ret := some .long) (by decide) rfl (Nat.le_of_ble_eq_true rfl) ?_
  intro p e s m below meth c A ls F hA hdy hK hro hZ hN hl
  obtain ⟨hx, hb, hml, hr, hown, hlocks, hts, hnm⟩ := id F
  have hl : lv_has ls 10 [(0, .ref h), (1, .int (nI (at_)))] := hl
  refine lv_aload_n hx hb zd_M_guessDigit_0 rfl (lv_at hl 0 rfl) ?_
  refine va_get (D := (dC, dI)) (ci := 1) (v := .ref qw) (C := zR_M) (T := zT_M) (N := 6) hx hb hts (fun w h => kz_c (zi_M w h)) hown hK (hro.ob hdy.2.2 (k := 0) rfl) 0 rfl rfl 2 (by decide) (hts _ (kz_c mw_96)) (fun _ h9 => h9) rfl zd_M_guessDigit_1 ?_
  refine lv_iload_n hx hb zd_M_guessDigit_4 rfl (lv_at hl 1 rfl) ?_
  refine kz_riald hx hb hK hro hdy.2.2 2 0 rfl rfl (vp_in_nI (by omega) (by omega)) zd_M_guessDigit_5 ?_
  refine lv_topi (fun x1 _ => ?_)
  refine lv_i2l hx hb zd_M_guessDigit_6 rfl ?_
  refine lv_topl (fun yl2 _ => ?_)
  refine lv_ldc2 (v := (4294967295)) hx hb hown (hts _ (kz_c mw_268)) zd_M_guessDigit_7 ?_
  refine kz_mask hx hb zd_M_guessDigit_10 (fun yl3 hyl3 => ?_)
  refine lv_lstore_n (lv' := [(2, .long (lN yl3)), (0, .ref h), (1, .int (nI (at_)))]) hx hb zd_M_guessDigit_11 rfl hl (by decide) rfl (fun ls hl => ?_)
  refine lv_aload_n hx hb zd_M_guessDigit_12 rfl (lv_at hl 1 rfl) ?_
  refine va_get (D := (dC, dI)) (ci := 1) (v := .ref qs) (C := zR_M) (T := zT_M) (N := 6) hx hb hts (fun w h => kz_c (zi_M w h)) hown hK (hro.ob hdy.2.2 (k := 0) rfl) 0 rfl rfl 0 (by decide) (hts _ (kz_c mw_94)) (fun _ h9 => h9) rfl zd_M_guessDigit_13 ?_
  refine lv_iconst (v := (nI (0))) hx hb zd_M_guessDigit_16 (by decide) ?_
  refine kz_riald hx hb hK hro hdy.2.2 1 0 rfl rfl (vp_in_nI (by omega) (by omega)) zd_M_guessDigit_17 ?_
  refine lv_topi (fun x4 _ => ?_)
  refine lv_i2l hx hb zd_M_guessDigit_18 rfl ?_
  refine lv_topl (fun yl5 _ => ?_)
  refine lv_ldc2 (v := (4294967295)) hx hb hown (hts _ (kz_c mw_268)) zd_M_guessDigit_19 ?_
  refine kz_mask hx hb zd_M_guessDigit_22 (fun yl6 hyl6 => ?_)
  refine lv_lstore (lv' := [(4, .long (lN yl6)), (2, .long (lN yl3)), (0, .ref h), (1, .int (nI (at_)))]) hx hb zd_M_guessDigit_23 hl (by decide) rfl (fun ls hl => ?_)
  refine lv_lload_n hx hb zd_M_guessDigit_25 rfl (lv_at hl 1 rfl) ?_
  refine lv_lload hx hb zd_M_guessDigit_26 (lv_at hl 0 rfl) ?_
  refine kz_llt (tgt := 36) hx hb zd_M_guessDigit_28 zd_M_guessDigit_29 (by decide) (fun hc29 => ?_) (fun hc29 => ?_)
  · refine lv_lload_n hx hb zd_M_guessDigit_36 rfl (lv_at hl 1 rfl) ?_
    refine lv_bipush (v := (nI (32))) hx hb zd_M_guessDigit_37 (by decide) ?_
    refine lv_lshl hx hb zd_M_guessDigit_39 rfl ?_
    refine lv_topl (fun yl7 _ => ?_)
    refine lv_aload_n hx hb zd_M_guessDigit_40 rfl (lv_at hl 2 rfl) ?_
    refine va_get (D := (dC, dI)) (ci := 1) (v := .ref qw) (C := zR_M) (T := zT_M) (N := 6) hx hb hts (fun w h => kz_c (zi_M w h)) hown hK (hro.ob hdy.2.2 (k := 0) rfl) 0 rfl rfl 2 (by decide) (hts _ (kz_c mw_96)) (fun _ h9 => h9) rfl zd_M_guessDigit_41 ?_
    refine lv_iload_n hx hb zd_M_guessDigit_44 rfl (lv_at hl 3 rfl) ?_
    refine lv_iconst (v := (nI (1))) hx hb zd_M_guessDigit_45 (by decide) ?_
    refine kz_iadd hx hb zd_M_guessDigit_46 (nI_add _ _) ?_
    refine kz_riald hx hb hK hro hdy.2.2 2 0 rfl rfl (vp_in_nI (by omega) (by omega)) zd_M_guessDigit_47 ?_
    refine lv_topi (fun x8 _ => ?_)
    refine lv_i2l hx hb zd_M_guessDigit_48 rfl ?_
    refine lv_topl (fun yl9 _ => ?_)
    refine lv_ldc2 (v := (4294967295)) hx hb hown (hts _ (kz_c mw_268)) zd_M_guessDigit_49 ?_
    refine kz_mask hx hb zd_M_guessDigit_52 (fun yl10 hyl10 => ?_)
    refine lv_lor hx hb zd_M_guessDigit_53 ?_
    refine lv_topl (fun yl11 _ => ?_)
    refine lv_lstore (lv' := [(6, .long yl11), (4, .long (lN yl6)), (2, .long (lN yl3)), (0, .ref h), (1, .int (nI (at_)))]) hx hb zd_M_guessDigit_54 hl (by decide) rfl (fun ls hl => ?_)
    refine lv_lload hx hb zd_M_guessDigit_56 (lv_at hl 0 rfl) ?_
    refine lv_iconst (v := (nI (1))) hx hb zd_M_guessDigit_58 (by decide) ?_
    refine lv_lushr hx hb zd_M_guessDigit_59 rfl ?_
    refine lv_topl (fun yl12 _ => ?_)
    refine lv_lload hx hb zd_M_guessDigit_60 (lv_at hl 1 rfl) ?_
    refine lv_ldiv hx hb zd_M_guessDigit_62 (kz_ne0 (by assumption) (by assumption) hc29) ?_
    refine lv_topl (fun yl13 _ => ?_)
    refine lv_iconst (v := (nI (1))) hx hb zd_M_guessDigit_63 (by decide) ?_
    refine lv_lshl hx hb zd_M_guessDigit_64 rfl ?_
    refine lv_topl (fun yl14 _ => ?_)
    refine lv_lstore (lv' := [(8, .long yl14), (6, .long yl11), (4, .long (lN yl6)), (2, .long (lN yl3)), (0, .ref h), (1, .int (nI (at_)))]) hx hb zd_M_guessDigit_65 hl (by decide) rfl (fun ls hl => ?_)
    refine lv_lload hx hb zd_M_guessDigit_67 (lv_at hl 1 rfl) ?_
    refine lv_lload hx hb zd_M_guessDigit_69 (lv_at hl 0 rfl) ?_
    refine lv_lload hx hb zd_M_guessDigit_71 (lv_at hl 2 rfl) ?_
    refine lv_lmul hx hb zd_M_guessDigit_73 ?_
    refine lv_topl (fun yl15 _ => ?_)
    refine lv_lsub hx hb zd_M_guessDigit_74 ?_
    refine lv_topl (fun yl16 _ => ?_)
    refine lv_lload hx hb zd_M_guessDigit_75 (lv_at hl 2 rfl) ?_
    refine kz_llt (tgt := 88) hx hb zd_M_guessDigit_77 zd_M_guessDigit_78 (by decide) (fun hc78 => ?_) (fun hc78 => ?_)
    · refine lv_lload hx hb zd_M_guessDigit_88 (lv_at hl 0 rfl) ?_
      exact kz_lret F () hdy (trivial) zd_M_guessDigit_90
    · refine lv_lload hx hb zd_M_guessDigit_81 (lv_at hl 0 rfl) ?_
      refine lv_lconst (v := 1) hx hb zd_M_guessDigit_83 (by decide) ?_
      refine lv_ladd hx hb zd_M_guessDigit_84 ?_
      refine lv_topl (fun yl17 _ => ?_)
      refine lv_goto (tgt := 90) hx hb zd_M_guessDigit_85 (by decide) ?_
      exact kz_lret F () hdy (trivial) zd_M_guessDigit_90
  · refine lv_ldc2 (v := (4294967295)) hx hb hown (hts _ (kz_c mw_268)) zd_M_guessDigit_32 ?_
    exact kz_lret F () hdy (trivial) zd_M_guessDigit_35

set_option maxHeartbeats 4000000 in
set_option maxRecDepth 100000 in
/-- KeyMeeting$Modulus.takeAway(JI)V -/
theorem c_Mod_takeAway (l : Launch) (dC : Nat → ClassId) (dI : Nat → Nat → Nat) (cI cAA cB cL : ClassId) (qw h qs qf ql qr : Nat) (gqw : Nat → Int32) (sh : Int32) (gqs : Nat → Int32) (v : Int64) (at_ : Nat) (sz : Nat) (hat : at_ < 8) : Met l zy_M_takeAway zw_M_takeAway { frames := 1, cells := 0, slots := 0, locals := 26 } (kz_Pc (dC, dI) vwCl [(cI, .int), (cAA, .array .int), (cB, .byte), (cL, .long)] [] [] [.ref h, .long v, .int (nI (at_))] [(qw, .inl (cI, 16, .inl gqw))] [(h, .inr (1, [.ref qs, .ref qf, .ref qw, .ref ql, .ref qr, .int sh])), (qs, .inl (cI, 8, .inl gqs))] sz) (va_Qv (fun _ => True) (kz_B (dC, dI) vwCl (va_A [(qw, .inl (cI, 16, .inl gqw))] sz) (fun u : (Nat → Int32) => [(qw, .inl (cI, 16, .inl u))])) (va_A [(qw, .inl (cI, 16, .inl gqw))] sz)) 0 0 (va_A [(qw, .inl (cI, 16, .inl gqw))] sz) := by
  refine kz_met (y := zy_M_takeAway) (ws := zw_M_takeAway) (av := [.ref h, .long v, .int (nI (at_))]) (sz := sz) (Qc := fun A => va_Qv (fun _ => True) (kz_B (dC, dI) vwCl A (fun u : (Nat → Int32) => [(qw, .inl (cI, 16, .inl u))])) A) (cc := zc_M_takeAway) (maxL := 11) (ret := none) (by decide) rfl (Nat.le_of_ble_eq_true rfl) ?_
  intro p e s m below meth c A ls F hA hdy hK hro hZ hN hl
  obtain ⟨hx, hb, hml, hr, hown, hlocks, hts, hnm⟩ := id F
  have hl : lv_has ls 11 [(0, .ref h), (1, .long v), (3, .int (nI (at_)))] := hl
  refine lv_lconst (v := 0) hx hb zd_M_takeAway_0 (by decide) ?_
  refine lv_lstore (lv' := [(4, .long 0), (0, .ref h), (1, .long v), (3, .int (nI (at_)))]) hx hb zd_M_takeAway_1 hl (by decide) rfl (fun ls hl => ?_)
  refine lv_bipush (v := (nI (7))) hx hb zd_M_takeAway_3 (by decide) ?_
  refine lv_istore (lv' := [(6, .int (nI (7))), (4, .long 0), (0, .ref h), (1, .long v), (3, .int (nI (at_)))]) hx hb zd_M_takeAway_5 hl (by decide) rfl (fun ls hl => ?_)
  have lp7 : ∀ (k7 : Nat) (yl1 : Int64) (f2 : Nat → Int32) (H : Heap) (locs : List Loc) (ls : Array Slot), k7 ≤ 8 → kz_dy (dC, dI) vwCl A s.heap H locs [(qw, .inl (cI, 16, .inl f2))] → lv_has ls 11 [(6, .int (nI k7 - 1)), (4, .long yl1), (0, .ref h), (1, .long v), (3, .int (nI (at_)))] → W p l e { frames := 1, cells := 0, slots := 0, locals := 26 } s m ([.ref h, .long v, .int (nI (at_))] : List Value).toArray below meth c H locs 0 0 (MQ below (va_Qv (fun _ => True) (kz_B (dC, dI) vwCl A (fun u : (Nat → Int32) => [(qw, .inl (cI, 16, .inl u))])) A) ([.ref h, .long v, .int (nI (at_))] : List Value).toArray s 0 0 A) (F0 m 7 ls []) := by
    intro k7
    induction k7 with
    | zero =>
      intro yl1 f2 H locs ls hi7 hdy hl
      refine lv_iload hx hb zd_M_takeAway_7 (lv_at hl 0 rfl) ?_
      refine lv_if_lt (tgt := 97) hx hb zd_M_takeAway_9 (by decide) (fun hc9 => ?_) (fun hc9 => ?_)
      · refine lv_aload_n hx hb zd_M_takeAway_97 rfl (lv_at hl 2 rfl) ?_
        refine va_get (D := (dC, dI)) (ci := 1) (v := .ref qw) (C := zR_M) (T := zT_M) (N := 6) hx hb hts (fun w h => kz_c (zi_M w h)) hown hK (hro.ob hdy.2.2 (k := 0) rfl) 0 rfl rfl 2 (by decide) (hts _ (kz_c mw_96)) (fun _ h9 => h9) rfl zd_M_takeAway_98 ?_
        refine lv_iload_n hx hb zd_M_takeAway_101 rfl (lv_at hl 4 rfl) ?_
        refine va_iald hx hb hK hdy.1 0 0 rfl rfl (vp_in_nI (by omega) (by omega)) zd_M_takeAway_102 ?_
        refine lv_topi (fun x3 _ => ?_)
        refine lv_i2l hx hb zd_M_takeAway_103 rfl ?_
        refine lv_topl (fun yl4 _ => ?_)
        refine lv_ldc2 (v := (4294967295)) hx hb hown (hts _ (kz_c mw_268)) zd_M_takeAway_104 ?_
        refine kz_mask hx hb zd_M_takeAway_107 (fun yl5 hyl5 => ?_)
        refine lv_lload hx hb zd_M_takeAway_108 (lv_at hl 1 rfl) ?_
        refine lv_lsub hx hb zd_M_takeAway_110 ?_
        refine lv_topl (fun yl6 _ => ?_)
        refine lv_lstore (lv' := [(6, .long yl6), (4, .long yl1), (0, .ref h), (1, .long v), (3, .int (nI (at_)))]) hx hb zd_M_takeAway_111 hl (by decide) rfl (fun ls hl => ?_)
        refine lv_iconst (v := (nI (0))) hx hb zd_M_takeAway_113 (by decide) ?_
        refine lv_istore (lv' := [(8, .int (nI (0))), (6, .long yl6), (4, .long yl1), (0, .ref h), (1, .long v), (3, .int (nI (at_)))]) hx hb zd_M_takeAway_114 hl (by decide) rfl (fun ls hl => ?_)
        have lp116 : ∀ (n116 k116 : Nat) (yl7 : Int64) (f8 : Nat → Int32) (H : Heap) (locs : List Loc) (ls : Array Slot), k116 ≤ 2 → 2 - k116 < n116 → kz_dy (dC, dI) vwCl A s.heap H locs [(qw, .inl (cI, 16, .inl f8))] → lv_has ls 11 [(8, .int (nI (k116))), (6, .long yl7), (4, .long yl1), (0, .ref h), (1, .long v), (3, .int (nI (at_)))] → W p l e { frames := 1, cells := 0, slots := 0, locals := 26 } s m ([.ref h, .long v, .int (nI (at_))] : List Value).toArray below meth c H locs 0 0 (MQ below (va_Qv (fun _ => True) (kz_B (dC, dI) vwCl A (fun u : (Nat → Int32) => [(qw, .inl (cI, 16, .inl u))])) A) ([.ref h, .long v, .int (nI (at_))] : List Value).toArray s 0 0 A) (F0 m 116 ls []) := by
          intro n116
          induction n116 with
          | zero => intro k116; intros; omega
          | succ n116 ih116 =>
            intro k116 yl7 f8 H locs ls hi116 hn116 hdy hl
            refine lv_iload hx hb zd_M_takeAway_116 (lv_at hl 0 rfl) ?_
            refine lv_iconst (v := (nI (2))) hx hb zd_M_takeAway_118 (by decide) ?_
            refine lv_icmp_ge (tgt := 145) hx hb zd_M_takeAway_119 (by decide) (fun hc119 => ?_) (fun hc119 => ?_)
            · have hc119 : 2 ≤ k116 := (nI_leI (by omega) (by omega)).mp hc119
              exact kz_vret F (f8) hdy (trivial) zd_M_takeAway_145
            · have hc119 : ¬ 2 ≤ k116 := fun h9 => hc119 ((nI_leI (by omega) (by omega)).mpr h9)
              refine lv_lload hx hb zd_M_takeAway_122 (lv_at hl 1 rfl) ?_
              refine lv_lconst (v := 0) hx hb zd_M_takeAway_124 (by decide) ?_
              refine kz_lge (tgt := 145) hx hb zd_M_takeAway_125 zd_M_takeAway_126 (by decide) (fun hc126 => ?_) (fun hc126 => ?_)
              · exact kz_vret F (f8) hdy (trivial) zd_M_takeAway_145
              · refine lv_lload hx hb zd_M_takeAway_129 (lv_at hl 1 rfl) ?_
                refine lv_aload_n hx hb zd_M_takeAway_131 rfl (lv_at hl 3 rfl) ?_
                refine lv_iload_n hx hb zd_M_takeAway_132 rfl (lv_at hl 5 rfl) ?_
                refine kz_calll (wk := []) (va_runV (As := [.int (nI (at_))]) (rest := [.long yl7]) ⟨hx, hb, hml, hown, hts⟩ (c_Mod_giveBack l dC dI cI cAA cB cL qw h qs qf ql qr f8 (sh) gqs at_ _ (by first | omega | assumption)) (cwV 1 hts (kz_g (kz_mc mw_273 (kz_mc mw_275 (kz_mc mw_10 (kz_mc mw_41 kz_mn)))) mw_276) rfl rfl rfl (by decide +kernel) ⟨Nat.le_of_ble_eq_true rfl, Nat.le_of_ble_eq_true rfl⟩) (kz_preVr hdy hA hK hro hZ hN [0] (by decide) rfl [(true, 0), (true, 1)] rfl (by decide) [0, 1, 2, 3] rfl (fun _ h => by cases h) (fun _ h => by cases h) rfl (ci := 1) (q0 := 0) rfl rfl rfl) rfl rfl hl.1 rfl (lv_room (Nat.le_of_ble_eq_true rfl)) zd_M_takeAway_133 ⟨Nat.le_of_ble_eq_true rfl, Nat.le_of_ble_eq_true rfl⟩) hdy hA [0] [] rfl rfl (by decide) (by decide) (fun r u H locs hw hdy => ?_)
                obtain ⟨yl10, rfl⟩ : ∃ z, z = r := ⟨_, rfl⟩
                obtain ⟨f9, rfl⟩ : ∃ z, z = u := ⟨_, rfl⟩
                have hdy : kz_dy (dC, dI) vwCl A s.heap H locs [(qw, .inl (cI, 16, .inl f9))] := hdy.sub [0] (by decide) rfl
                refine lv_ladd hx hb zd_M_takeAway_136 ?_
                refine lv_topl (fun yl11 _ => ?_)
                refine lv_lstore (lv' := [(6, .long yl11), (8, .int (nI (k116))), (4, .long yl1), (0, .ref h), (1, .long v), (3, .int (nI (at_)))]) hx hb zd_M_takeAway_137 hl (by decide) rfl (fun ls hl => ?_)
                refine lv_iinc (v := (nI (k116 + 1))) (lv' := [(8, .int (nI (k116 + 1))), (6, .long yl11), (4, .long yl1), (0, .ref h), (1, .long v), (3, .int (nI (at_)))]) hx hb zd_M_takeAway_139 hl (k := 1) rfl (nI_1 _) (by decide) rfl (fun ls hl => ?_)
                refine lv_goto (tgt := 116) hx hb zd_M_takeAway_142 (by decide) ?_
                exact ih116 (k116 + 1) (yl11) f9 _ _ _ (by omega) (by omega) hdy (lv_sub hl [0, 1, 2, 3, 4, 5] rfl)
        exact lp116 (2 - 0 + 1) 0 (yl6) f2 _ _ _ (by omega) (by omega) hdy (lv_sub hl [0, 1, 2, 3, 4, 5] rfl)
      · exact absurd (by decide) hc9
    | succ k7 ih7 =>
      intro yl1 f2 H locs ls hi7 hdy hl
      rw [nI_pred] at hl
      refine lv_iload hx hb zd_M_takeAway_7 (lv_at hl 0 rfl) ?_
      refine lv_if_lt (tgt := 97) hx hb zd_M_takeAway_9 (by decide) (fun hc9 => ?_) (fun hc9 => ?_)
      · exact absurd hc9 (nI_pos (by omega))
      · refine lv_lload_n hx hb zd_M_takeAway_12 rfl (lv_at hl 3 rfl) ?_
        refine lv_aload_n hx hb zd_M_takeAway_13 rfl (lv_at hl 2 rfl) ?_
        refine va_get (D := (dC, dI)) (ci := 1) (v := .ref qs) (C := zR_M) (T := zT_M) (N := 6) hx hb hts (fun w h => kz_c (zi_M w h)) hown hK (hro.ob hdy.2.2 (k := 0) rfl) 0 rfl rfl 0 (by decide) (hts _ (kz_c mw_94)) (fun _ h9 => h9) rfl zd_M_takeAway_14 ?_
        refine lv_iload hx hb zd_M_takeAway_17 (lv_at hl 0 rfl) ?_
        refine kz_riald hx hb hK hro hdy.2.2 1 0 rfl rfl (vp_in_nI (by omega) (by omega)) zd_M_takeAway_19 ?_
        refine lv_topi (fun x12 _ => ?_)
        refine lv_i2l hx hb zd_M_takeAway_20 rfl ?_
        refine lv_topl (fun yl13 _ => ?_)
        refine lv_ldc2 (v := (4294967295)) hx hb hown (hts _ (kz_c mw_268)) zd_M_takeAway_21 ?_
        refine kz_mask hx hb zd_M_takeAway_24 (fun yl14 hyl14 => ?_)
        refine lv_lmul hx hb zd_M_takeAway_25 ?_
        refine lv_topl (fun yl15 _ => ?_)
        refine lv_lload hx hb zd_M_takeAway_26 (lv_at hl 1 rfl) ?_
        refine lv_ladd hx hb zd_M_takeAway_28 ?_
        refine lv_topl (fun yl16 _ => ?_)
        refine lv_lstore (lv' := [(7, .long yl16), (6, .int (nI (k7))), (4, .long yl1), (0, .ref h), (1, .long v), (3, .int (nI (at_)))]) hx hb zd_M_takeAway_29 hl (by decide) rfl (fun ls hl => ?_)
        refine lv_aload_n hx hb zd_M_takeAway_31 rfl (lv_at hl 3 rfl) ?_
        refine va_get (D := (dC, dI)) (ci := 1) (v := .ref qw) (C := zR_M) (T := zT_M) (N := 6) hx hb hts (fun w h => kz_c (zi_M w h)) hown hK (hro.ob hdy.2.2 (k := 0) rfl) 0 rfl rfl 2 (by decide) (hts _ (kz_c mw_96)) (fun _ h9 => h9) rfl zd_M_takeAway_32 ?_
        refine lv_iload_n hx hb zd_M_takeAway_35 rfl (lv_at hl 5 rfl) ?_
        refine lv_iconst (v := (nI (1))) hx hb zd_M_takeAway_36 (by decide) ?_
        refine kz_iadd hx hb zd_M_takeAway_37 (nI_add _ _) ?_
        refine lv_iload hx hb zd_M_takeAway_38 (lv_at hl 1 rfl) ?_
        refine kz_iadd hx hb zd_M_takeAway_40 (nI_add _ _) ?_
        refine va_iald hx hb hK hdy.1 0 0 rfl rfl (vp_in_nI (by omega) (by omega)) zd_M_takeAway_41 ?_
        refine lv_topi (fun x17 _ => ?_)
        refine lv_i2l hx hb zd_M_takeAway_42 rfl ?_
        refine lv_topl (fun yl18 _ => ?_)
        refine lv_ldc2 (v := (4294967295)) hx hb hown (hts _ (kz_c mw_268)) zd_M_takeAway_43 ?_
        refine kz_mask hx hb zd_M_takeAway_46 (fun yl19 hyl19 => ?_)
        refine lv_lload hx hb zd_M_takeAway_47 (lv_at hl 0 rfl) ?_
        refine lv_ldc2 (v := (4294967295)) hx hb hown (hts _ (kz_c mw_268)) zd_M_takeAway_49 ?_
        refine kz_mask hx hb zd_M_takeAway_52 (fun yl20 hyl20 => ?_)
        refine lv_lsub hx hb zd_M_takeAway_53 ?_
        refine lv_topl (fun yl21 _ => ?_)
        refine lv_lstore (lv' := [(9, .long yl21), (7, .long yl16), (6, .int (nI (k7))), (4, .long yl1), (0, .ref h), (1, .long v), (3, .int (nI (at_)))]) hx hb zd_M_takeAway_54 hl (by decide) rfl (fun ls hl => ?_)
        refine lv_aload_n hx hb zd_M_takeAway_56 rfl (lv_at hl 4 rfl) ?_
        refine va_get (D := (dC, dI)) (ci := 1) (v := .ref qw) (C := zR_M) (T := zT_M) (N := 6) hx hb hts (fun w h => kz_c (zi_M w h)) hown hK (hro.ob hdy.2.2 (k := 0) rfl) 0 rfl rfl 2 (by decide) (hts _ (kz_c mw_96)) (fun _ h9 => h9) rfl zd_M_takeAway_57 ?_
        refine lv_iload_n hx hb zd_M_takeAway_60 rfl (lv_at hl 6 rfl) ?_
        refine lv_iconst (v := (nI (1))) hx hb zd_M_takeAway_61 (by decide) ?_
        refine kz_iadd hx hb zd_M_takeAway_62 (nI_add _ _) ?_
        refine lv_iload hx hb zd_M_takeAway_63 (lv_at hl 2 rfl) ?_
        refine kz_iadd hx hb zd_M_takeAway_65 (nI_add _ _) ?_
        refine lv_lload hx hb zd_M_takeAway_66 (lv_at hl 0 rfl) ?_
        refine lv_l2i hx hb zd_M_takeAway_68 rfl ?_
        refine lv_topi (fun x22 _ => ?_)
        refine va_iast hx hb hK hdy.1 hdy.2.1 hdy.2.2 0 0 rfl rfl (vp_in_nI (by omega) (by omega)) zd_M_takeAway_69 (fun H locs hP hD hS => ?_)
        obtain ⟨f23, hdy⟩ : ∃ f23 : Nat → Int32, kz_dy (dC, dI) vwCl A s.heap H locs [(qw, .inl (cI, 16, .inl f23))] := ⟨_, hP, hD, hS⟩
        refine lv_lload hx hb zd_M_takeAway_70 (lv_at hl 1 rfl) ?_
        refine lv_bipush (v := (nI (32))) hx hb zd_M_takeAway_72 (by decide) ?_
        refine lv_lushr hx hb zd_M_takeAway_74 rfl ?_
        refine lv_topl (fun yl24 _ => ?_)
        refine lv_lload hx hb zd_M_takeAway_75 (lv_at hl 0 rfl) ?_
        refine lv_lconst (v := 0) hx hb zd_M_takeAway_77 (by decide) ?_
        refine kz_lge (tgt := 86) hx hb zd_M_takeAway_78 zd_M_takeAway_79 (by decide) (fun hc79 => ?_) (fun hc79 => ?_)
        · refine lv_iconst (v := (nI (0))) hx hb zd_M_takeAway_86 (by decide) ?_
          refine lv_i2l hx hb zd_M_takeAway_87 rfl ?_
          refine lv_topl (fun yl25 _ => ?_)
          refine lv_ladd hx hb zd_M_takeAway_88 ?_
          refine lv_topl (fun yl26 _ => ?_)
          refine lv_lstore (lv' := [(4, .long yl26), (9, .long yl21), (7, .long yl16), (6, .int (nI (k7))), (0, .ref h), (1, .long v), (3, .int (nI (at_)))]) hx hb zd_M_takeAway_89 hl (by decide) rfl (fun ls hl => ?_)
          refine lv_iinc (v := (nI (k7) - 1)) (lv' := [(6, .int (nI (k7) - 1)), (4, .long yl26), (9, .long yl21), (7, .long yl16), (0, .ref h), (1, .long v), (3, .int (nI (at_)))]) hx hb zd_M_takeAway_91 hl (k := 3) rfl (kz_m1 _) (by decide) rfl (fun ls hl => ?_)
          refine lv_goto (tgt := 7) hx hb zd_M_takeAway_94 (by decide) ?_
          exact ih7 (yl26) f23 _ _ _ (by omega) hdy (lv_sub hl [0, 1, 4, 5, 6] rfl)
        · refine lv_iconst (v := (nI (1))) hx hb zd_M_takeAway_82 (by decide) ?_
          refine lv_goto (tgt := 87) hx hb zd_M_takeAway_83 (by decide) ?_
          refine lv_i2l hx hb zd_M_takeAway_87 rfl ?_
          refine lv_topl (fun yl27 _ => ?_)
          refine lv_ladd hx hb zd_M_takeAway_88 ?_
          refine lv_topl (fun yl28 _ => ?_)
          refine lv_lstore (lv' := [(4, .long yl28), (9, .long yl21), (7, .long yl16), (6, .int (nI (k7))), (0, .ref h), (1, .long v), (3, .int (nI (at_)))]) hx hb zd_M_takeAway_89 hl (by decide) rfl (fun ls hl => ?_)
          refine lv_iinc (v := (nI (k7) - 1)) (lv' := [(6, .int (nI (k7) - 1)), (4, .long yl28), (9, .long yl21), (7, .long yl16), (0, .ref h), (1, .long v), (3, .int (nI (at_)))]) hx hb zd_M_takeAway_91 hl (k := 3) rfl (kz_m1 _) (by decide) rfl (fun ls hl => ?_)
          refine lv_goto (tgt := 7) hx hb zd_M_takeAway_94 (by decide) ?_
          exact ih7 (yl28) f23 _ _ _ (by omega) hdy (lv_sub hl [0, 1, 4, 5, 6] rfl)
  exact lp7 8 (0) gqw _ _ _ (by omega) hdy (lv_sub hl [0, 1, 2, 3, 4] rfl)

set_option maxHeartbeats 4000000 in
set_option maxRecDepth 100000 in
/-- KeyMeeting$Modulus.reduce()V -/
theorem c_Mod_reduce (l : Launch) (dC : Nat → ClassId) (dI : Nat → Nat → Nat) (cI cAA cB cL : ClassId) (qw h qs qf ql qr : Nat) (gqw : Nat → Int32) (sh : Int32) (gqs : Nat → Int32) (sz : Nat) : Met l zy_M_reduce zw_M_reduce { frames := 2, cells := 0, slots := 0, locals := 56 } (kz_Pc (dC, dI) vwCl [(cI, .int), (cAA, .array .int), (cB, .byte), (cL, .long)] [] [] [.ref h] [(qw, .inl (cI, 16, .inl gqw))] [(h, .inr (1, [.ref qs, .ref qf, .ref qw, .ref ql, .ref qr, .int sh])), (qs, .inl (cI, 8, .inl gqs))] sz) (va_Qv (fun _ => True) (kz_B (dC, dI) vwCl (va_A [(qw, .inl (cI, 16, .inl gqw))] sz) (fun u : (Nat → Int32) => [(qw, .inl (cI, 16, .inl u))])) (va_A [(qw, .inl (cI, 16, .inl gqw))] sz)) 0 0 (va_A [(qw, .inl (cI, 16, .inl gqw))] sz) := by
  refine kz_met (y := zy_M_reduce) (ws := zw_M_reduce) (av := [.ref h]) (sz := sz) (Qc := fun A => va_Qv (fun _ => True) (kz_B (dC, dI) vwCl A (fun u : (Nat → Int32) => [(qw, .inl (cI, 16, .inl u))])) A) (cc := zc_M_reduce) (maxL := 4) (ret := none) (by decide) rfl (Nat.le_of_ble_eq_true rfl) ?_
  intro p e s m below meth c A ls F hA hdy hK hro hZ hN hl
  obtain ⟨hx, hb, hml, hr, hown, hlocks, hts, hnm⟩ := id F
  have hl : lv_has ls 4 [(0, .ref h)] := hl
  refine lv_iconst (v := (nI (0))) hx hb zd_M_reduce_0 (by decide) ?_
  refine lv_istore_n (lv' := [(1, .int (nI (0))), (0, .ref h)]) hx hb zd_M_reduce_1 rfl hl (by decide) rfl (fun ls hl => ?_)
  have lp2 : ∀ (n2 k2 : Nat) (f1 : Nat → Int32) (H : Heap) (locs : List Loc) (ls : Array Slot), k2 ≤ 8 → 8 - k2 < n2 → kz_dy (dC, dI) vwCl A s.heap H locs [(qw, .inl (cI, 16, .inl f1))] → lv_has ls 4 [(1, .int (nI (k2))), (0, .ref h)] → W p l e { frames := 2, cells := 0, slots := 0, locals := 56 } s m ([.ref h] : List Value).toArray below meth c H locs 0 0 (MQ below (va_Qv (fun _ => True) (kz_B (dC, dI) vwCl A (fun u : (Nat → Int32) => [(qw, .inl (cI, 16, .inl u))])) A) ([.ref h] : List Value).toArray s 0 0 A) (F0 m 2 ls []) := by
    intro n2
    induction n2 with
    | zero => intro k2; intros; omega
    | succ n2 ih2 =>
      intro k2 f1 H locs ls hi2 hn2 hdy hl
      refine lv_iload_n hx hb zd_M_reduce_2 rfl (lv_at hl 0 rfl) ?_
      refine lv_bipush (v := (nI (8))) hx hb zd_M_reduce_3 (by decide) ?_
      refine lv_icmp_ge (tgt := 32) hx hb zd_M_reduce_5 (by decide) (fun hc5 => ?_) (fun hc5 => ?_)
      · have hc5 : 8 ≤ k2 := (nI_leI (by omega) (by omega)).mp hc5
        exact kz_vret F (f1) hdy (trivial) zd_M_reduce_32
      · have hc5 : ¬ 8 ≤ k2 := fun h9 => hc5 ((nI_leI (by omega) (by omega)).mpr h9)
        refine lv_aload_n hx hb zd_M_reduce_8 rfl (lv_at hl 1 rfl) ?_
        refine lv_iload_n hx hb zd_M_reduce_9 rfl (lv_at hl 0 rfl) ?_
        refine kz_calll (wk := [(qw, .inl (cI, 16, .inl f1))]) (va_runV (As := [.int (nI (k2))]) (rest := []) ⟨hx, hb, hml, hown, hts⟩ (c_Mod_guessDigit l dC dI cI cAA cB cL h qs qf qw ql qr (sh) gqs f1 k2 _ (by first | omega | assumption)) (cwV 1 hts (kz_g (kz_mc mw_264 (kz_mc mw_266 (kz_mc mw_8 (kz_mc mw_41 kz_mn)))) mw_267) rfl rfl rfl (by decide +kernel) ⟨Nat.le_of_ble_eq_true rfl, Nat.le_of_ble_eq_true rfl⟩) (kz_preVr hdy hA hK hro hZ hN [] (by decide) rfl [(true, 0), (true, 1), (false, 0)] rfl (by decide) [0, 1, 2, 3] rfl (fun _ h => by cases h) (fun _ h => by cases h) rfl (ci := 1) (q0 := 0) rfl rfl rfl) rfl rfl hl.1 rfl (lv_room (Nat.le_of_ble_eq_true rfl)) zd_M_reduce_10 ⟨Nat.le_of_ble_eq_true rfl, Nat.le_of_ble_eq_true rfl⟩) hdy hA [] [0] rfl rfl (by decide) (by decide) (fun r u H locs hw hdy => ?_)
        obtain ⟨yl2, rfl⟩ : ∃ z, z = r := ⟨_, rfl⟩
        have hdy : kz_dy (dC, dI) vwCl A s.heap H locs [(qw, .inl (cI, 16, .inl f1))] := hdy.sub [0] (by decide) rfl
        refine lv_lstore_n (lv' := [(2, .long yl2), (1, .int (nI (k2))), (0, .ref h)]) hx hb zd_M_reduce_13 rfl hl (by decide) rfl (fun ls hl => ?_)
        refine lv_lload_n hx hb zd_M_reduce_14 rfl (lv_at hl 0 rfl) ?_
        refine lv_lconst (v := 0) hx hb zd_M_reduce_15 (by decide) ?_
        refine kz_leq (tgt := 26) hx hb zd_M_reduce_16 zd_M_reduce_17 (by decide) (fun hc17 => ?_) (fun hc17 => ?_)
        · refine lv_iinc (v := (nI (k2 + 1))) (lv' := [(1, .int (nI (k2 + 1))), (2, .long yl2), (0, .ref h)]) hx hb zd_M_reduce_26 hl (k := 1) rfl (nI_1 _) (by decide) rfl (fun ls hl => ?_)
          refine lv_goto (tgt := 2) hx hb zd_M_reduce_29 (by decide) ?_
          exact ih2 (k2 + 1) f1 _ _ _ (by omega) (by omega) hdy (lv_sub hl [0, 2] rfl)
        · refine lv_aload_n hx hb zd_M_reduce_20 rfl (lv_at hl 2 rfl) ?_
          refine lv_lload_n hx hb zd_M_reduce_21 rfl (lv_at hl 0 rfl) ?_
          refine lv_iload_n hx hb zd_M_reduce_22 rfl (lv_at hl 1 rfl) ?_
          refine kz_callv (wk := []) (va_runV (As := [.long yl2, .int (nI (k2))]) (rest := []) ⟨hx, hb, hml, hown, hts⟩ (c_Mod_takeAway l dC dI cI cAA cB cL qw h qs qf ql qr f1 (sh) gqs (yl2) k2 _ (by first | omega | assumption)) (cwV 2 hts (kz_g (kz_mc mw_269 (kz_mc mw_271 (kz_mc mw_9 (kz_mc mw_41 kz_mn)))) mw_272) rfl rfl rfl (by decide +kernel) ⟨Nat.le_of_ble_eq_true rfl, Nat.le_of_ble_eq_true rfl⟩) (kz_preVr hdy hA hK hro hZ hN [0] (by decide) rfl [(true, 0), (true, 1)] rfl (by decide) [0, 1, 2, 3] rfl (fun _ h => by cases h) (fun _ h => by cases h) rfl (ci := 1) (q0 := 0) rfl rfl rfl) rfl rfl hl.1 rfl (lv_room (Nat.le_of_ble_eq_true rfl)) zd_M_reduce_23 ⟨Nat.le_of_ble_eq_true rfl, Nat.le_of_ble_eq_true rfl⟩) hdy hA [0] [] rfl rfl (by decide) (by decide) (fun u H locs hw hdy => ?_)
          obtain ⟨f3, rfl⟩ : ∃ z, z = u := ⟨_, rfl⟩
          have hdy : kz_dy (dC, dI) vwCl A s.heap H locs [(qw, .inl (cI, 16, .inl f3))] := hdy.sub [0] (by decide) rfl
          refine lv_iinc (v := (nI (k2 + 1))) (lv' := [(1, .int (nI (k2 + 1))), (2, .long yl2), (0, .ref h)]) hx hb zd_M_reduce_26 hl (k := 1) rfl (nI_1 _) (by decide) rfl (fun ls hl => ?_)
          refine lv_goto (tgt := 2) hx hb zd_M_reduce_29 (by decide) ?_
          exact ih2 (k2 + 1) f3 _ _ _ (by omega) (by omega) hdy (lv_sub hl [0, 2] rfl)
  exact lp2 (8 - 0 + 1) 0 gqw _ _ _ (by omega) (by omega) hdy (lv_sub hl [0, 1] rfl)

set_option maxHeartbeats 4000000 in
set_option maxRecDepth 100000 in
/-- KeyMeeting$Modulus.multiply([I[I[I)V -/
theorem c_Mod_multiply (l : Launch) (dC : Nat → ClassId) (dI : Nat → Nat → Nat) (cI cAA cB cL : ClassId) (qf qw ql o h qs qr a b : Nat) (gqf : Nat → Int32) (gqw : Nat → Int32) (gql : Nat → Int32) (go : Nat → Int32) (sh : Int32) (gqs : Nat → Int32) (ga : Nat → Int32) (gb : Nat → Int32) (sz : Nat) : Met l zy_M_multiply zw_M_multiply { frames := 3, cells := 0, slots := 0, locals := 79 } (kz_Pc (dC, dI) vwCl [(cI, .int), (cAA, .array .int), (cB, .byte), (cL, .long)] [] [] [.ref h, .ref a, .ref b, .ref o] [(qf, .inl (cI, 8, .inl gqf)), (qw, .inl (cI, 16, .inl gqw)), (ql, .inl (cI, 8, .inl gql)), (o, .inl (cI, 8, .inl go))] [(h, .inr (1, [.ref qs, .ref qf, .ref qw, .ref ql, .ref qr, .int sh])), (qs, .inl (cI, 8, .inl gqs)), (a, .inl (cI, 8, .inl ga)), (b, .inl (cI, 8, .inl gb))] sz) (va_Qv (fun _ => True) (kz_B (dC, dI) vwCl (va_A [(qf, .inl (cI, 8, .inl gqf)), (qw, .inl (cI, 16, .inl gqw)), (ql, .inl (cI, 8, .inl gql)), (o, .inl (cI, 8, .inl go))] sz) (fun u : (Nat → Int32) × (Nat → Int32) × (Nat → Int32) × (Nat → Int32) => [(qf, .inl (cI, 8, .inl u.1)), (qw, .inl (cI, 16, .inl u.2.1)), (ql, .inl (cI, 8, .inl u.2.2.1)), (o, .inl (cI, 8, .inl u.2.2.2))])) (va_A [(qf, .inl (cI, 8, .inl gqf)), (qw, .inl (cI, 16, .inl gqw)), (ql, .inl (cI, 8, .inl gql)), (o, .inl (cI, 8, .inl go))] sz)) 0 0 (va_A [(qf, .inl (cI, 8, .inl gqf)), (qw, .inl (cI, 16, .inl gqw)), (ql, .inl (cI, 8, .inl gql)), (o, .inl (cI, 8, .inl go))] sz) := by
  refine kz_met (y := zy_M_multiply) (ws := zw_M_multiply) (av := [.ref h, .ref a, .ref b, .ref o]) (sz := sz) (Qc := fun A => va_Qv (fun _ => True) (kz_B (dC, dI) vwCl A (fun u : (Nat → Int32) × (Nat → Int32) × (Nat → Int32) × (Nat → Int32) => [(qf, .inl (cI, 8, .inl u.1)), (qw, .inl (cI, 16, .inl u.2.1)), (ql, .inl (cI, 8, .inl u.2.2.1)), (o, .inl (cI, 8, .inl u.2.2.2))])) A) (cc := zc_M_multiply) (maxL := 4) (ret := none) (by decide) rfl (Nat.le_of_ble_eq_true rfl) ?_
  intro p e s m below meth c A ls F hA hdy hK hro hZ hN hl
  obtain ⟨hx, hb, hml, hr, hown, hlocks, hts, hnm⟩ := id F
  have hl : lv_has ls 4 [(0, .ref h), (1, .ref a), (2, .ref b), (3, .ref o)] := hl
  refine lv_aload_n hx hb zd_M_multiply_0 rfl (lv_at hl 2 rfl) ?_
  refine lv_aload_n hx hb zd_M_multiply_1 rfl (lv_at hl 0 rfl) ?_
  refine va_get (D := (dC, dI)) (ci := 1) (v := .int sh) (C := zR_M) (T := zT_M) (N := 6) hx hb hts (fun w h => kz_c (zi_M w h)) hown hK (hro.ob hdy.2.2 (k := 0) rfl) 0 rfl rfl 5 (by decide) (hts _ (kz_c mw_99)) (fun _ h9 => h9) rfl zd_M_multiply_2 ?_
  refine lv_aload_n hx hb zd_M_multiply_5 rfl (lv_at hl 0 rfl) ?_
  refine va_get (D := (dC, dI)) (ci := 1) (v := .ref qf) (C := zR_M) (T := zT_M) (N := 6) hx hb hts (fun w h => kz_c (zi_M w h)) hown hK (hro.ob hdy.2.2 (k := 0) rfl) 0 rfl rfl 1 (by decide) (hts _ (kz_c mw_95)) (fun _ h9 => h9) rfl zd_M_multiply_6 ?_
  refine kz_callv (wk := [(qw, .inl (cI, 16, .inl gqw)), (ql, .inl (cI, 8, .inl gql)), (o, .inl (cI, 8, .inl go))]) (va_runS (As := [.ref b, .int sh, .ref qf]) (rest := []) ⟨hx, hb, hml, hown, hts⟩ (c_Words_shiftLeft l dC dI cI cAA cB cL qf b gqf gb (sh) _) (va_cwS 3 hts (kz_g (kz_mc mw_243 (kz_mc mw_244 (kz_mc mw_50 kz_mn))) mw_245) rfl rfl rfl (by decide +kernel) ⟨Nat.le_of_ble_eq_true rfl, Nat.le_of_ble_eq_true rfl⟩) (kz_preS hdy hA hK hro hZ hN [0] (by decide) rfl [(true, 3)] rfl (by decide) [0, 1, 2, 3] rfl (fun _ h => by cases h) (fun _ h => by cases h) rfl) rfl rfl hl.1 rfl (lv_room (Nat.le_of_ble_eq_true rfl)) zd_M_multiply_9 ⟨Nat.le_of_ble_eq_true rfl, Nat.le_of_ble_eq_true rfl⟩) hdy hA [0] [1, 2, 3] rfl rfl (by decide) (by decide) (fun u H locs hw hdy => ?_)
  obtain ⟨f1, rfl⟩ : ∃ z, z = u := ⟨_, rfl⟩
  have hdy : kz_dy (dC, dI) vwCl A s.heap H locs [(qf, .inl (cI, 8, .inl f1)), (qw, .inl (cI, 16, .inl gqw)), (ql, .inl (cI, 8, .inl gql)), (o, .inl (cI, 8, .inl go))] := hdy.sub [3, 0, 1, 2] (by decide) rfl
  refine lv_aload_n hx hb zd_M_multiply_12 rfl (lv_at hl 1 rfl) ?_
  refine lv_aload_n hx hb zd_M_multiply_13 rfl (lv_at hl 0 rfl) ?_
  refine va_get (D := (dC, dI)) (ci := 1) (v := .ref qf) (C := zR_M) (T := zT_M) (N := 6) hx hb hts (fun w h => kz_c (zi_M w h)) hown hK (hro.ob hdy.2.2 (k := 0) rfl) 0 rfl rfl 1 (by decide) (hts _ (kz_c mw_95)) (fun _ h9 => h9) rfl zd_M_multiply_14 ?_
  refine lv_aload_n hx hb zd_M_multiply_17 rfl (lv_at hl 0 rfl) ?_
  refine va_get (D := (dC, dI)) (ci := 1) (v := .ref qw) (C := zR_M) (T := zT_M) (N := 6) hx hb hts (fun w h => kz_c (zi_M w h)) hown hK (hro.ob hdy.2.2 (k := 0) rfl) 0 rfl rfl 2 (by decide) (hts _ (kz_c mw_96)) (fun _ h9 => h9) rfl zd_M_multiply_18 ?_
  refine kz_callv (wk := [(qf, .inl (cI, 8, .inl f1)), (ql, .inl (cI, 8, .inl gql)), (o, .inl (cI, 8, .inl go))]) (va_runS (As := [.ref a, .ref qf, .ref qw]) (rest := []) ⟨hx, hb, hml, hown, hts⟩ (c_Words_multiply l dC dI cI cAA cB cL qw a qf gqw ga f1 _) (va_cwS 3 hts (kz_g (kz_mc mw_259 (kz_mc mw_204 (kz_mc mw_50 kz_mn))) mw_205) rfl rfl rfl (by decide +kernel) ⟨Nat.le_of_ble_eq_true rfl, Nat.le_of_ble_eq_true rfl⟩) (kz_preS hdy hA hK hro hZ hN [1] (by decide) rfl [(true, 2), (false, 0)] rfl (by decide) [0, 1, 2, 3] rfl (fun _ h => by cases h) (fun _ h => by cases h) rfl) rfl rfl hl.1 rfl (lv_room (Nat.le_of_ble_eq_true rfl)) zd_M_multiply_21 ⟨Nat.le_of_ble_eq_true rfl, Nat.le_of_ble_eq_true rfl⟩) hdy hA [1] [0, 2, 3] rfl rfl (by decide) (by decide) (fun u H locs hw hdy => ?_)
  obtain ⟨f2, rfl⟩ : ∃ z, z = u := ⟨_, rfl⟩
  have hdy : kz_dy (dC, dI) vwCl A s.heap H locs [(qf, .inl (cI, 8, .inl f1)), (qw, .inl (cI, 16, .inl f2)), (ql, .inl (cI, 8, .inl gql)), (o, .inl (cI, 8, .inl go))] := hdy.sub [0, 3, 1, 2] (by decide) rfl
  refine lv_aload_n hx hb zd_M_multiply_24 rfl (lv_at hl 0 rfl) ?_
  refine kz_callv (wk := [(qf, .inl (cI, 8, .inl f1)), (ql, .inl (cI, 8, .inl gql)), (o, .inl (cI, 8, .inl go))]) (va_runV (As := []) (rest := []) ⟨hx, hb, hml, hown, hts⟩ (c_Mod_reduce l dC dI cI cAA cB cL qw h qs qf ql qr f2 (sh) gqs _) (cwV 0 hts (kz_g (kz_mc mw_260 (kz_mc mw_262 (kz_mc mw_7 (kz_mc mw_41 kz_mn)))) mw_263) rfl rfl rfl (by decide +kernel) ⟨Nat.le_of_ble_eq_true rfl, Nat.le_of_ble_eq_true rfl⟩) (kz_preVr hdy hA hK hro hZ hN [1] (by decide) rfl [(true, 0), (true, 1)] rfl (by decide) [0, 1, 2, 3] rfl (fun _ h => by cases h) (fun _ h => by cases h) rfl (ci := 1) (q0 := 0) rfl rfl rfl) rfl rfl hl.1 rfl (lv_room (Nat.le_of_ble_eq_true rfl)) zd_M_multiply_25 ⟨Nat.le_of_ble_eq_true rfl, Nat.le_of_ble_eq_true rfl⟩) hdy hA [1] [0, 2, 3] rfl rfl (by decide) (by decide) (fun u H locs hw hdy => ?_)
  obtain ⟨f3, rfl⟩ : ∃ z, z = u := ⟨_, rfl⟩
  have hdy : kz_dy (dC, dI) vwCl A s.heap H locs [(qf, .inl (cI, 8, .inl f1)), (qw, .inl (cI, 16, .inl f3)), (ql, .inl (cI, 8, .inl gql)), (o, .inl (cI, 8, .inl go))] := hdy.sub [0, 3, 1, 2] (by decide) rfl
  refine lv_aload_n hx hb zd_M_multiply_28 rfl (lv_at hl 0 rfl) ?_
  refine va_get (D := (dC, dI)) (ci := 1) (v := .ref qw) (C := zR_M) (T := zT_M) (N := 6) hx hb hts (fun w h => kz_c (zi_M w h)) hown hK (hro.ob hdy.2.2 (k := 0) rfl) 0 rfl rfl 2 (by decide) (hts _ (kz_c mw_96)) (fun _ h9 => h9) rfl zd_M_multiply_29 ?_
  refine lv_bipush (v := (nI (8))) hx hb zd_M_multiply_32 (by decide) ?_
  refine lv_aload_n hx hb zd_M_multiply_34 rfl (lv_at hl 0 rfl) ?_
  refine va_get (D := (dC, dI)) (ci := 1) (v := .ref ql) (C := zR_M) (T := zT_M) (N := 6) hx hb hts (fun w h => kz_c (zi_M w h)) hown hK (hro.ob hdy.2.2 (k := 0) rfl) 0 rfl rfl 3 (by decide) (hts _ (kz_c mw_97)) (fun _ h9 => h9) rfl zd_M_multiply_35 ?_
  refine lv_iconst (v := (nI (0))) hx hb zd_M_multiply_38 (by decide) ?_
  refine lv_bipush (v := (nI (8))) hx hb zd_M_multiply_39 (by decide) ?_
  refine va_copyi hx hb (hml.trans hl.1.symm) hown (hts _ (kz_c mw_277)) (hts _ (kz_c mw_214)) (hts _ (kz_c mw_213)) (hts _ (kz_c mw_51)) hK hdy.1 hdy.2.1 hdy.2.2 1 2 0 0 rfl rfl rfl rfl rfl (nI_pos (by omega)) (nI_pos (by omega)) (nI_pos (by omega)) (by (repeat rw [nI_clamp (by omega)]) <;> omega) (by (repeat rw [nI_clamp (by omega)]) <;> omega) (fun _ _ => rfl) (Nat.le_of_ble_eq_true rfl) (Nat.le_of_ble_eq_true rfl) zd_M_multiply_41 (fun H locs hP hD hS => ?_)
  obtain ⟨f4, hdy⟩ : ∃ f4 : Nat → Int32, kz_dy (dC, dI) vwCl A s.heap H locs [(qf, .inl (cI, 8, .inl f1)), (qw, .inl (cI, 16, .inl f3)), (ql, .inl (cI, 8, .inl f4)), (o, .inl (cI, 8, .inl go))] := ⟨_, hP, hD, hS⟩
  refine lv_aload_n hx hb zd_M_multiply_44 rfl (lv_at hl 0 rfl) ?_
  refine va_get (D := (dC, dI)) (ci := 1) (v := .ref ql) (C := zR_M) (T := zT_M) (N := 6) hx hb hts (fun w h => kz_c (zi_M w h)) hown hK (hro.ob hdy.2.2 (k := 0) rfl) 0 rfl rfl 3 (by decide) (hts _ (kz_c mw_97)) (fun _ h9 => h9) rfl zd_M_multiply_45 ?_
  refine lv_aload_n hx hb zd_M_multiply_48 rfl (lv_at hl 0 rfl) ?_
  refine va_get (D := (dC, dI)) (ci := 1) (v := .int sh) (C := zR_M) (T := zT_M) (N := 6) hx hb hts (fun w h => kz_c (zi_M w h)) hown hK (hro.ob hdy.2.2 (k := 0) rfl) 0 rfl rfl 5 (by decide) (hts _ (kz_c mw_99)) (fun _ h9 => h9) rfl zd_M_multiply_49 ?_
  refine lv_aload_n hx hb zd_M_multiply_52 rfl (lv_at hl 3 rfl) ?_
  refine kz_callv (wk := [(qf, .inl (cI, 8, .inl f1)), (qw, .inl (cI, 16, .inl f3)), (ql, .inl (cI, 8, .inl f4))]) (va_runS (As := [.ref ql, .int sh, .ref o]) (rest := []) ⟨hx, hb, hml, hown, hts⟩ (c_Words_shiftRight l dC dI cI cAA cB cL o ql go f4 (sh) _) (va_cwS 3 hts (kz_g (kz_mc mw_278 (kz_mc mw_279 (kz_mc mw_50 kz_mn))) mw_280) rfl rfl rfl (by decide +kernel) ⟨Nat.le_of_ble_eq_true rfl, Nat.le_of_ble_eq_true rfl⟩) (kz_preS hdy hA hK hro hZ hN [3] (by decide) rfl [(false, 2)] rfl (by decide) [0, 1, 2, 3] rfl (fun _ h => by cases h) (fun _ h => by cases h) rfl) rfl rfl hl.1 rfl (lv_room (Nat.le_of_ble_eq_true rfl)) zd_M_multiply_53 ⟨Nat.le_of_ble_eq_true rfl, Nat.le_of_ble_eq_true rfl⟩) hdy hA [3] [0, 1, 2] rfl rfl (by decide) (by decide) (fun u H locs hw hdy => ?_)
  obtain ⟨f5, rfl⟩ : ∃ z, z = u := ⟨_, rfl⟩
  have hdy : kz_dy (dC, dI) vwCl A s.heap H locs [(qf, .inl (cI, 8, .inl f1)), (qw, .inl (cI, 16, .inl f3)), (ql, .inl (cI, 8, .inl f4)), (o, .inl (cI, 8, .inl f5))] := hdy.sub [0, 1, 2, 3] (by decide) rfl
  exact kz_vret F (f1, f3, f4, f5) hdy (trivial) zd_M_multiply_56

set_option maxHeartbeats 4000000 in
set_option maxRecDepth 100000 in
/-- KeyMeeting$Modulus.multiply([I[I[I)V -/
theorem c_Mod_multiply2 (l : Launch) (dC : Nat → ClassId) (dI : Nat → Nat → Nat) (cI cAA cB cL : ClassId) (qf qw ql o h qs qr : Nat) (gqf : Nat → Int32) (gqw : Nat → Int32) (gql : Nat → Int32) (go : Nat → Int32) (sh : Int32) (gqs : Nat → Int32) (sz : Nat) : Met l zy_M_multiply zw_M_multiply { frames := 3, cells := 0, slots := 0, locals := 79 } (kz_Pc (dC, dI) vwCl [(cI, .int), (cAA, .array .int), (cB, .byte), (cL, .long)] [] [] [.ref h, .ref o, .ref o, .ref o] [(qf, .inl (cI, 8, .inl gqf)), (qw, .inl (cI, 16, .inl gqw)), (ql, .inl (cI, 8, .inl gql)), (o, .inl (cI, 8, .inl go))] [(h, .inr (1, [.ref qs, .ref qf, .ref qw, .ref ql, .ref qr, .int sh])), (qs, .inl (cI, 8, .inl gqs))] sz) (va_Qv (fun _ => True) (kz_B (dC, dI) vwCl (va_A [(qf, .inl (cI, 8, .inl gqf)), (qw, .inl (cI, 16, .inl gqw)), (ql, .inl (cI, 8, .inl gql)), (o, .inl (cI, 8, .inl go))] sz) (fun u : (Nat → Int32) × (Nat → Int32) × (Nat → Int32) × (Nat → Int32) => [(qf, .inl (cI, 8, .inl u.1)), (qw, .inl (cI, 16, .inl u.2.1)), (ql, .inl (cI, 8, .inl u.2.2.1)), (o, .inl (cI, 8, .inl u.2.2.2))])) (va_A [(qf, .inl (cI, 8, .inl gqf)), (qw, .inl (cI, 16, .inl gqw)), (ql, .inl (cI, 8, .inl gql)), (o, .inl (cI, 8, .inl go))] sz)) 0 0 (va_A [(qf, .inl (cI, 8, .inl gqf)), (qw, .inl (cI, 16, .inl gqw)), (ql, .inl (cI, 8, .inl gql)), (o, .inl (cI, 8, .inl go))] sz) := by
  refine kz_met (y := zy_M_multiply) (ws := zw_M_multiply) (av := [.ref h, .ref o, .ref o, .ref o]) (sz := sz) (Qc := fun A => va_Qv (fun _ => True) (kz_B (dC, dI) vwCl A (fun u : (Nat → Int32) × (Nat → Int32) × (Nat → Int32) × (Nat → Int32) => [(qf, .inl (cI, 8, .inl u.1)), (qw, .inl (cI, 16, .inl u.2.1)), (ql, .inl (cI, 8, .inl u.2.2.1)), (o, .inl (cI, 8, .inl u.2.2.2))])) A) (cc := zc_M_multiply) (maxL := 4) (ret := none) (by decide) rfl (Nat.le_of_ble_eq_true rfl) ?_
  intro p e s m below meth c A ls F hA hdy hK hro hZ hN hl
  obtain ⟨hx, hb, hml, hr, hown, hlocks, hts, hnm⟩ := id F
  have hl : lv_has ls 4 [(0, .ref h), (1, .ref o), (2, .ref o), (3, .ref o)] := hl
  refine lv_aload_n hx hb zd_M_multiply_0 rfl (lv_at hl 2 rfl) ?_
  refine lv_aload_n hx hb zd_M_multiply_1 rfl (lv_at hl 0 rfl) ?_
  refine va_get (D := (dC, dI)) (ci := 1) (v := .int sh) (C := zR_M) (T := zT_M) (N := 6) hx hb hts (fun w h => kz_c (zi_M w h)) hown hK (hro.ob hdy.2.2 (k := 0) rfl) 0 rfl rfl 5 (by decide) (hts _ (kz_c mw_99)) (fun _ h9 => h9) rfl zd_M_multiply_2 ?_
  refine lv_aload_n hx hb zd_M_multiply_5 rfl (lv_at hl 0 rfl) ?_
  refine va_get (D := (dC, dI)) (ci := 1) (v := .ref qf) (C := zR_M) (T := zT_M) (N := 6) hx hb hts (fun w h => kz_c (zi_M w h)) hown hK (hro.ob hdy.2.2 (k := 0) rfl) 0 rfl rfl 1 (by decide) (hts _ (kz_c mw_95)) (fun _ h9 => h9) rfl zd_M_multiply_6 ?_
  refine kz_callv (wk := [(qw, .inl (cI, 16, .inl gqw)), (ql, .inl (cI, 8, .inl gql)), (o, .inl (cI, 8, .inl go))]) (va_runS (As := [.ref o, .int sh, .ref qf]) (rest := []) ⟨hx, hb, hml, hown, hts⟩ (c_Words_shiftLeft l dC dI cI cAA cB cL qf o gqf go (sh) _) (va_cwS 3 hts (kz_g (kz_mc mw_243 (kz_mc mw_244 (kz_mc mw_50 kz_mn))) mw_245) rfl rfl rfl (by decide +kernel) ⟨Nat.le_of_ble_eq_true rfl, Nat.le_of_ble_eq_true rfl⟩) (kz_preS hdy hA hK hro hZ hN [0] (by decide) rfl [(false, 3)] rfl (by decide) [0, 1, 2, 3] rfl (fun _ h => by cases h) (fun _ h => by cases h) rfl) rfl rfl hl.1 rfl (lv_room (Nat.le_of_ble_eq_true rfl)) zd_M_multiply_9 ⟨Nat.le_of_ble_eq_true rfl, Nat.le_of_ble_eq_true rfl⟩) hdy hA [0] [1, 2, 3] rfl rfl (by decide) (by decide) (fun u H locs hw hdy => ?_)
  obtain ⟨f1, rfl⟩ : ∃ z, z = u := ⟨_, rfl⟩
  have hdy : kz_dy (dC, dI) vwCl A s.heap H locs [(qf, .inl (cI, 8, .inl f1)), (qw, .inl (cI, 16, .inl gqw)), (ql, .inl (cI, 8, .inl gql)), (o, .inl (cI, 8, .inl go))] := hdy.sub [3, 0, 1, 2] (by decide) rfl
  refine lv_aload_n hx hb zd_M_multiply_12 rfl (lv_at hl 1 rfl) ?_
  refine lv_aload_n hx hb zd_M_multiply_13 rfl (lv_at hl 0 rfl) ?_
  refine va_get (D := (dC, dI)) (ci := 1) (v := .ref qf) (C := zR_M) (T := zT_M) (N := 6) hx hb hts (fun w h => kz_c (zi_M w h)) hown hK (hro.ob hdy.2.2 (k := 0) rfl) 0 rfl rfl 1 (by decide) (hts _ (kz_c mw_95)) (fun _ h9 => h9) rfl zd_M_multiply_14 ?_
  refine lv_aload_n hx hb zd_M_multiply_17 rfl (lv_at hl 0 rfl) ?_
  refine va_get (D := (dC, dI)) (ci := 1) (v := .ref qw) (C := zR_M) (T := zT_M) (N := 6) hx hb hts (fun w h => kz_c (zi_M w h)) hown hK (hro.ob hdy.2.2 (k := 0) rfl) 0 rfl rfl 2 (by decide) (hts _ (kz_c mw_96)) (fun _ h9 => h9) rfl zd_M_multiply_18 ?_
  refine kz_callv (wk := [(qf, .inl (cI, 8, .inl f1)), (ql, .inl (cI, 8, .inl gql)), (o, .inl (cI, 8, .inl go))]) (va_runS (As := [.ref o, .ref qf, .ref qw]) (rest := []) ⟨hx, hb, hml, hown, hts⟩ (c_Words_multiply l dC dI cI cAA cB cL qw o qf gqw go f1 _) (va_cwS 3 hts (kz_g (kz_mc mw_259 (kz_mc mw_204 (kz_mc mw_50 kz_mn))) mw_205) rfl rfl rfl (by decide +kernel) ⟨Nat.le_of_ble_eq_true rfl, Nat.le_of_ble_eq_true rfl⟩) (kz_preS hdy hA hK hro hZ hN [1] (by decide) rfl [(false, 3), (false, 0)] rfl (by decide) [0, 1, 2, 3] rfl (fun _ h => by cases h) (fun _ h => by cases h) rfl) rfl rfl hl.1 rfl (lv_room (Nat.le_of_ble_eq_true rfl)) zd_M_multiply_21 ⟨Nat.le_of_ble_eq_true rfl, Nat.le_of_ble_eq_true rfl⟩) hdy hA [1] [0, 2, 3] rfl rfl (by decide) (by decide) (fun u H locs hw hdy => ?_)
  obtain ⟨f2, rfl⟩ : ∃ z, z = u := ⟨_, rfl⟩
  have hdy : kz_dy (dC, dI) vwCl A s.heap H locs [(qf, .inl (cI, 8, .inl f1)), (qw, .inl (cI, 16, .inl f2)), (ql, .inl (cI, 8, .inl gql)), (o, .inl (cI, 8, .inl go))] := hdy.sub [0, 3, 1, 2] (by decide) rfl
  refine lv_aload_n hx hb zd_M_multiply_24 rfl (lv_at hl 0 rfl) ?_
  refine kz_callv (wk := [(qf, .inl (cI, 8, .inl f1)), (ql, .inl (cI, 8, .inl gql)), (o, .inl (cI, 8, .inl go))]) (va_runV (As := []) (rest := []) ⟨hx, hb, hml, hown, hts⟩ (c_Mod_reduce l dC dI cI cAA cB cL qw h qs qf ql qr f2 (sh) gqs _) (cwV 0 hts (kz_g (kz_mc mw_260 (kz_mc mw_262 (kz_mc mw_7 (kz_mc mw_41 kz_mn)))) mw_263) rfl rfl rfl (by decide +kernel) ⟨Nat.le_of_ble_eq_true rfl, Nat.le_of_ble_eq_true rfl⟩) (kz_preVr hdy hA hK hro hZ hN [1] (by decide) rfl [(true, 0), (true, 1)] rfl (by decide) [0, 1, 2, 3] rfl (fun _ h => by cases h) (fun _ h => by cases h) rfl (ci := 1) (q0 := 0) rfl rfl rfl) rfl rfl hl.1 rfl (lv_room (Nat.le_of_ble_eq_true rfl)) zd_M_multiply_25 ⟨Nat.le_of_ble_eq_true rfl, Nat.le_of_ble_eq_true rfl⟩) hdy hA [1] [0, 2, 3] rfl rfl (by decide) (by decide) (fun u H locs hw hdy => ?_)
  obtain ⟨f3, rfl⟩ : ∃ z, z = u := ⟨_, rfl⟩
  have hdy : kz_dy (dC, dI) vwCl A s.heap H locs [(qf, .inl (cI, 8, .inl f1)), (qw, .inl (cI, 16, .inl f3)), (ql, .inl (cI, 8, .inl gql)), (o, .inl (cI, 8, .inl go))] := hdy.sub [0, 3, 1, 2] (by decide) rfl
  refine lv_aload_n hx hb zd_M_multiply_28 rfl (lv_at hl 0 rfl) ?_
  refine va_get (D := (dC, dI)) (ci := 1) (v := .ref qw) (C := zR_M) (T := zT_M) (N := 6) hx hb hts (fun w h => kz_c (zi_M w h)) hown hK (hro.ob hdy.2.2 (k := 0) rfl) 0 rfl rfl 2 (by decide) (hts _ (kz_c mw_96)) (fun _ h9 => h9) rfl zd_M_multiply_29 ?_
  refine lv_bipush (v := (nI (8))) hx hb zd_M_multiply_32 (by decide) ?_
  refine lv_aload_n hx hb zd_M_multiply_34 rfl (lv_at hl 0 rfl) ?_
  refine va_get (D := (dC, dI)) (ci := 1) (v := .ref ql) (C := zR_M) (T := zT_M) (N := 6) hx hb hts (fun w h => kz_c (zi_M w h)) hown hK (hro.ob hdy.2.2 (k := 0) rfl) 0 rfl rfl 3 (by decide) (hts _ (kz_c mw_97)) (fun _ h9 => h9) rfl zd_M_multiply_35 ?_
  refine lv_iconst (v := (nI (0))) hx hb zd_M_multiply_38 (by decide) ?_
  refine lv_bipush (v := (nI (8))) hx hb zd_M_multiply_39 (by decide) ?_
  refine va_copyi hx hb (hml.trans hl.1.symm) hown (hts _ (kz_c mw_277)) (hts _ (kz_c mw_214)) (hts _ (kz_c mw_213)) (hts _ (kz_c mw_51)) hK hdy.1 hdy.2.1 hdy.2.2 1 2 0 0 rfl rfl rfl rfl rfl (nI_pos (by omega)) (nI_pos (by omega)) (nI_pos (by omega)) (by (repeat rw [nI_clamp (by omega)]) <;> omega) (by (repeat rw [nI_clamp (by omega)]) <;> omega) (fun _ _ => rfl) (Nat.le_of_ble_eq_true rfl) (Nat.le_of_ble_eq_true rfl) zd_M_multiply_41 (fun H locs hP hD hS => ?_)
  obtain ⟨f4, hdy⟩ : ∃ f4 : Nat → Int32, kz_dy (dC, dI) vwCl A s.heap H locs [(qf, .inl (cI, 8, .inl f1)), (qw, .inl (cI, 16, .inl f3)), (ql, .inl (cI, 8, .inl f4)), (o, .inl (cI, 8, .inl go))] := ⟨_, hP, hD, hS⟩
  refine lv_aload_n hx hb zd_M_multiply_44 rfl (lv_at hl 0 rfl) ?_
  refine va_get (D := (dC, dI)) (ci := 1) (v := .ref ql) (C := zR_M) (T := zT_M) (N := 6) hx hb hts (fun w h => kz_c (zi_M w h)) hown hK (hro.ob hdy.2.2 (k := 0) rfl) 0 rfl rfl 3 (by decide) (hts _ (kz_c mw_97)) (fun _ h9 => h9) rfl zd_M_multiply_45 ?_
  refine lv_aload_n hx hb zd_M_multiply_48 rfl (lv_at hl 0 rfl) ?_
  refine va_get (D := (dC, dI)) (ci := 1) (v := .int sh) (C := zR_M) (T := zT_M) (N := 6) hx hb hts (fun w h => kz_c (zi_M w h)) hown hK (hro.ob hdy.2.2 (k := 0) rfl) 0 rfl rfl 5 (by decide) (hts _ (kz_c mw_99)) (fun _ h9 => h9) rfl zd_M_multiply_49 ?_
  refine lv_aload_n hx hb zd_M_multiply_52 rfl (lv_at hl 3 rfl) ?_
  refine kz_callv (wk := [(qf, .inl (cI, 8, .inl f1)), (qw, .inl (cI, 16, .inl f3)), (ql, .inl (cI, 8, .inl f4))]) (va_runS (As := [.ref ql, .int sh, .ref o]) (rest := []) ⟨hx, hb, hml, hown, hts⟩ (c_Words_shiftRight l dC dI cI cAA cB cL o ql go f4 (sh) _) (va_cwS 3 hts (kz_g (kz_mc mw_278 (kz_mc mw_279 (kz_mc mw_50 kz_mn))) mw_280) rfl rfl rfl (by decide +kernel) ⟨Nat.le_of_ble_eq_true rfl, Nat.le_of_ble_eq_true rfl⟩) (kz_preS hdy hA hK hro hZ hN [3] (by decide) rfl [(false, 2)] rfl (by decide) [0, 1, 2, 3] rfl (fun _ h => by cases h) (fun _ h => by cases h) rfl) rfl rfl hl.1 rfl (lv_room (Nat.le_of_ble_eq_true rfl)) zd_M_multiply_53 ⟨Nat.le_of_ble_eq_true rfl, Nat.le_of_ble_eq_true rfl⟩) hdy hA [3] [0, 1, 2] rfl rfl (by decide) (by decide) (fun u H locs hw hdy => ?_)
  obtain ⟨f5, rfl⟩ : ∃ z, z = u := ⟨_, rfl⟩
  have hdy : kz_dy (dC, dI) vwCl A s.heap H locs [(qf, .inl (cI, 8, .inl f1)), (qw, .inl (cI, 16, .inl f3)), (ql, .inl (cI, 8, .inl f4)), (o, .inl (cI, 8, .inl f5))] := hdy.sub [0, 1, 2, 3] (by decide) rfl
  exact kz_vret F (f1, f3, f4, f5) hdy (trivial) zd_M_multiply_56

set_option maxHeartbeats 4000000 in
set_option maxRecDepth 100000 in
/-- KeyMeeting$Modulus.multiply([I[I[I)V -/
theorem c_Mod_multiply3 (l : Launch) (dC : Nat → ClassId) (dI : Nat → Nat → Nat) (cI cAA cB cL : ClassId) (qf qw ql o h qs qr b : Nat) (gqf : Nat → Int32) (gqw : Nat → Int32) (gql : Nat → Int32) (go : Nat → Int32) (sh : Int32) (gqs : Nat → Int32) (gb : Nat → Int32) (sz : Nat) : Met l zy_M_multiply zw_M_multiply { frames := 3, cells := 0, slots := 0, locals := 79 } (kz_Pc (dC, dI) vwCl [(cI, .int), (cAA, .array .int), (cB, .byte), (cL, .long)] [] [] [.ref h, .ref o, .ref b, .ref o] [(qf, .inl (cI, 8, .inl gqf)), (qw, .inl (cI, 16, .inl gqw)), (ql, .inl (cI, 8, .inl gql)), (o, .inl (cI, 8, .inl go))] [(h, .inr (1, [.ref qs, .ref qf, .ref qw, .ref ql, .ref qr, .int sh])), (qs, .inl (cI, 8, .inl gqs)), (b, .inl (cI, 8, .inl gb))] sz) (va_Qv (fun _ => True) (kz_B (dC, dI) vwCl (va_A [(qf, .inl (cI, 8, .inl gqf)), (qw, .inl (cI, 16, .inl gqw)), (ql, .inl (cI, 8, .inl gql)), (o, .inl (cI, 8, .inl go))] sz) (fun u : (Nat → Int32) × (Nat → Int32) × (Nat → Int32) × (Nat → Int32) => [(qf, .inl (cI, 8, .inl u.1)), (qw, .inl (cI, 16, .inl u.2.1)), (ql, .inl (cI, 8, .inl u.2.2.1)), (o, .inl (cI, 8, .inl u.2.2.2))])) (va_A [(qf, .inl (cI, 8, .inl gqf)), (qw, .inl (cI, 16, .inl gqw)), (ql, .inl (cI, 8, .inl gql)), (o, .inl (cI, 8, .inl go))] sz)) 0 0 (va_A [(qf, .inl (cI, 8, .inl gqf)), (qw, .inl (cI, 16, .inl gqw)), (ql, .inl (cI, 8, .inl gql)), (o, .inl (cI, 8, .inl go))] sz) := by
  refine kz_met (y := zy_M_multiply) (ws := zw_M_multiply) (av := [.ref h, .ref o, .ref b, .ref o]) (sz := sz) (Qc := fun A => va_Qv (fun _ => True) (kz_B (dC, dI) vwCl A (fun u : (Nat → Int32) × (Nat → Int32) × (Nat → Int32) × (Nat → Int32) => [(qf, .inl (cI, 8, .inl u.1)), (qw, .inl (cI, 16, .inl u.2.1)), (ql, .inl (cI, 8, .inl u.2.2.1)), (o, .inl (cI, 8, .inl u.2.2.2))])) A) (cc := zc_M_multiply) (maxL := 4) (ret := none) (by decide) rfl (Nat.le_of_ble_eq_true rfl) ?_
  intro p e s m below meth c A ls F hA hdy hK hro hZ hN hl
  obtain ⟨hx, hb, hml, hr, hown, hlocks, hts, hnm⟩ := id F
  have hl : lv_has ls 4 [(0, .ref h), (1, .ref o), (2, .ref b), (3, .ref o)] := hl
  refine lv_aload_n hx hb zd_M_multiply_0 rfl (lv_at hl 2 rfl) ?_
  refine lv_aload_n hx hb zd_M_multiply_1 rfl (lv_at hl 0 rfl) ?_
  refine va_get (D := (dC, dI)) (ci := 1) (v := .int sh) (C := zR_M) (T := zT_M) (N := 6) hx hb hts (fun w h => kz_c (zi_M w h)) hown hK (hro.ob hdy.2.2 (k := 0) rfl) 0 rfl rfl 5 (by decide) (hts _ (kz_c mw_99)) (fun _ h9 => h9) rfl zd_M_multiply_2 ?_
  refine lv_aload_n hx hb zd_M_multiply_5 rfl (lv_at hl 0 rfl) ?_
  refine va_get (D := (dC, dI)) (ci := 1) (v := .ref qf) (C := zR_M) (T := zT_M) (N := 6) hx hb hts (fun w h => kz_c (zi_M w h)) hown hK (hro.ob hdy.2.2 (k := 0) rfl) 0 rfl rfl 1 (by decide) (hts _ (kz_c mw_95)) (fun _ h9 => h9) rfl zd_M_multiply_6 ?_
  refine kz_callv (wk := [(qw, .inl (cI, 16, .inl gqw)), (ql, .inl (cI, 8, .inl gql)), (o, .inl (cI, 8, .inl go))]) (va_runS (As := [.ref b, .int sh, .ref qf]) (rest := []) ⟨hx, hb, hml, hown, hts⟩ (c_Words_shiftLeft l dC dI cI cAA cB cL qf b gqf gb (sh) _) (va_cwS 3 hts (kz_g (kz_mc mw_243 (kz_mc mw_244 (kz_mc mw_50 kz_mn))) mw_245) rfl rfl rfl (by decide +kernel) ⟨Nat.le_of_ble_eq_true rfl, Nat.le_of_ble_eq_true rfl⟩) (kz_preS hdy hA hK hro hZ hN [0] (by decide) rfl [(true, 2)] rfl (by decide) [0, 1, 2, 3] rfl (fun _ h => by cases h) (fun _ h => by cases h) rfl) rfl rfl hl.1 rfl (lv_room (Nat.le_of_ble_eq_true rfl)) zd_M_multiply_9 ⟨Nat.le_of_ble_eq_true rfl, Nat.le_of_ble_eq_true rfl⟩) hdy hA [0] [1, 2, 3] rfl rfl (by decide) (by decide) (fun u H locs hw hdy => ?_)
  obtain ⟨f1, rfl⟩ : ∃ z, z = u := ⟨_, rfl⟩
  have hdy : kz_dy (dC, dI) vwCl A s.heap H locs [(qf, .inl (cI, 8, .inl f1)), (qw, .inl (cI, 16, .inl gqw)), (ql, .inl (cI, 8, .inl gql)), (o, .inl (cI, 8, .inl go))] := hdy.sub [3, 0, 1, 2] (by decide) rfl
  refine lv_aload_n hx hb zd_M_multiply_12 rfl (lv_at hl 1 rfl) ?_
  refine lv_aload_n hx hb zd_M_multiply_13 rfl (lv_at hl 0 rfl) ?_
  refine va_get (D := (dC, dI)) (ci := 1) (v := .ref qf) (C := zR_M) (T := zT_M) (N := 6) hx hb hts (fun w h => kz_c (zi_M w h)) hown hK (hro.ob hdy.2.2 (k := 0) rfl) 0 rfl rfl 1 (by decide) (hts _ (kz_c mw_95)) (fun _ h9 => h9) rfl zd_M_multiply_14 ?_
  refine lv_aload_n hx hb zd_M_multiply_17 rfl (lv_at hl 0 rfl) ?_
  refine va_get (D := (dC, dI)) (ci := 1) (v := .ref qw) (C := zR_M) (T := zT_M) (N := 6) hx hb hts (fun w h => kz_c (zi_M w h)) hown hK (hro.ob hdy.2.2 (k := 0) rfl) 0 rfl rfl 2 (by decide) (hts _ (kz_c mw_96)) (fun _ h9 => h9) rfl zd_M_multiply_18 ?_
  refine kz_callv (wk := [(qf, .inl (cI, 8, .inl f1)), (ql, .inl (cI, 8, .inl gql)), (o, .inl (cI, 8, .inl go))]) (va_runS (As := [.ref o, .ref qf, .ref qw]) (rest := []) ⟨hx, hb, hml, hown, hts⟩ (c_Words_multiply l dC dI cI cAA cB cL qw o qf gqw go f1 _) (va_cwS 3 hts (kz_g (kz_mc mw_259 (kz_mc mw_204 (kz_mc mw_50 kz_mn))) mw_205) rfl rfl rfl (by decide +kernel) ⟨Nat.le_of_ble_eq_true rfl, Nat.le_of_ble_eq_true rfl⟩) (kz_preS hdy hA hK hro hZ hN [1] (by decide) rfl [(false, 3), (false, 0)] rfl (by decide) [0, 1, 2, 3] rfl (fun _ h => by cases h) (fun _ h => by cases h) rfl) rfl rfl hl.1 rfl (lv_room (Nat.le_of_ble_eq_true rfl)) zd_M_multiply_21 ⟨Nat.le_of_ble_eq_true rfl, Nat.le_of_ble_eq_true rfl⟩) hdy hA [1] [0, 2, 3] rfl rfl (by decide) (by decide) (fun u H locs hw hdy => ?_)
  obtain ⟨f2, rfl⟩ : ∃ z, z = u := ⟨_, rfl⟩
  have hdy : kz_dy (dC, dI) vwCl A s.heap H locs [(qf, .inl (cI, 8, .inl f1)), (qw, .inl (cI, 16, .inl f2)), (ql, .inl (cI, 8, .inl gql)), (o, .inl (cI, 8, .inl go))] := hdy.sub [0, 3, 1, 2] (by decide) rfl
  refine lv_aload_n hx hb zd_M_multiply_24 rfl (lv_at hl 0 rfl) ?_
  refine kz_callv (wk := [(qf, .inl (cI, 8, .inl f1)), (ql, .inl (cI, 8, .inl gql)), (o, .inl (cI, 8, .inl go))]) (va_runV (As := []) (rest := []) ⟨hx, hb, hml, hown, hts⟩ (c_Mod_reduce l dC dI cI cAA cB cL qw h qs qf ql qr f2 (sh) gqs _) (cwV 0 hts (kz_g (kz_mc mw_260 (kz_mc mw_262 (kz_mc mw_7 (kz_mc mw_41 kz_mn)))) mw_263) rfl rfl rfl (by decide +kernel) ⟨Nat.le_of_ble_eq_true rfl, Nat.le_of_ble_eq_true rfl⟩) (kz_preVr hdy hA hK hro hZ hN [1] (by decide) rfl [(true, 0), (true, 1)] rfl (by decide) [0, 1, 2, 3] rfl (fun _ h => by cases h) (fun _ h => by cases h) rfl (ci := 1) (q0 := 0) rfl rfl rfl) rfl rfl hl.1 rfl (lv_room (Nat.le_of_ble_eq_true rfl)) zd_M_multiply_25 ⟨Nat.le_of_ble_eq_true rfl, Nat.le_of_ble_eq_true rfl⟩) hdy hA [1] [0, 2, 3] rfl rfl (by decide) (by decide) (fun u H locs hw hdy => ?_)
  obtain ⟨f3, rfl⟩ : ∃ z, z = u := ⟨_, rfl⟩
  have hdy : kz_dy (dC, dI) vwCl A s.heap H locs [(qf, .inl (cI, 8, .inl f1)), (qw, .inl (cI, 16, .inl f3)), (ql, .inl (cI, 8, .inl gql)), (o, .inl (cI, 8, .inl go))] := hdy.sub [0, 3, 1, 2] (by decide) rfl
  refine lv_aload_n hx hb zd_M_multiply_28 rfl (lv_at hl 0 rfl) ?_
  refine va_get (D := (dC, dI)) (ci := 1) (v := .ref qw) (C := zR_M) (T := zT_M) (N := 6) hx hb hts (fun w h => kz_c (zi_M w h)) hown hK (hro.ob hdy.2.2 (k := 0) rfl) 0 rfl rfl 2 (by decide) (hts _ (kz_c mw_96)) (fun _ h9 => h9) rfl zd_M_multiply_29 ?_
  refine lv_bipush (v := (nI (8))) hx hb zd_M_multiply_32 (by decide) ?_
  refine lv_aload_n hx hb zd_M_multiply_34 rfl (lv_at hl 0 rfl) ?_
  refine va_get (D := (dC, dI)) (ci := 1) (v := .ref ql) (C := zR_M) (T := zT_M) (N := 6) hx hb hts (fun w h => kz_c (zi_M w h)) hown hK (hro.ob hdy.2.2 (k := 0) rfl) 0 rfl rfl 3 (by decide) (hts _ (kz_c mw_97)) (fun _ h9 => h9) rfl zd_M_multiply_35 ?_
  refine lv_iconst (v := (nI (0))) hx hb zd_M_multiply_38 (by decide) ?_
  refine lv_bipush (v := (nI (8))) hx hb zd_M_multiply_39 (by decide) ?_
  refine va_copyi hx hb (hml.trans hl.1.symm) hown (hts _ (kz_c mw_277)) (hts _ (kz_c mw_214)) (hts _ (kz_c mw_213)) (hts _ (kz_c mw_51)) hK hdy.1 hdy.2.1 hdy.2.2 1 2 0 0 rfl rfl rfl rfl rfl (nI_pos (by omega)) (nI_pos (by omega)) (nI_pos (by omega)) (by (repeat rw [nI_clamp (by omega)]) <;> omega) (by (repeat rw [nI_clamp (by omega)]) <;> omega) (fun _ _ => rfl) (Nat.le_of_ble_eq_true rfl) (Nat.le_of_ble_eq_true rfl) zd_M_multiply_41 (fun H locs hP hD hS => ?_)
  obtain ⟨f4, hdy⟩ : ∃ f4 : Nat → Int32, kz_dy (dC, dI) vwCl A s.heap H locs [(qf, .inl (cI, 8, .inl f1)), (qw, .inl (cI, 16, .inl f3)), (ql, .inl (cI, 8, .inl f4)), (o, .inl (cI, 8, .inl go))] := ⟨_, hP, hD, hS⟩
  refine lv_aload_n hx hb zd_M_multiply_44 rfl (lv_at hl 0 rfl) ?_
  refine va_get (D := (dC, dI)) (ci := 1) (v := .ref ql) (C := zR_M) (T := zT_M) (N := 6) hx hb hts (fun w h => kz_c (zi_M w h)) hown hK (hro.ob hdy.2.2 (k := 0) rfl) 0 rfl rfl 3 (by decide) (hts _ (kz_c mw_97)) (fun _ h9 => h9) rfl zd_M_multiply_45 ?_
  refine lv_aload_n hx hb zd_M_multiply_48 rfl (lv_at hl 0 rfl) ?_
  refine va_get (D := (dC, dI)) (ci := 1) (v := .int sh) (C := zR_M) (T := zT_M) (N := 6) hx hb hts (fun w h => kz_c (zi_M w h)) hown hK (hro.ob hdy.2.2 (k := 0) rfl) 0 rfl rfl 5 (by decide) (hts _ (kz_c mw_99)) (fun _ h9 => h9) rfl zd_M_multiply_49 ?_
  refine lv_aload_n hx hb zd_M_multiply_52 rfl (lv_at hl 3 rfl) ?_
  refine kz_callv (wk := [(qf, .inl (cI, 8, .inl f1)), (qw, .inl (cI, 16, .inl f3)), (ql, .inl (cI, 8, .inl f4))]) (va_runS (As := [.ref ql, .int sh, .ref o]) (rest := []) ⟨hx, hb, hml, hown, hts⟩ (c_Words_shiftRight l dC dI cI cAA cB cL o ql go f4 (sh) _) (va_cwS 3 hts (kz_g (kz_mc mw_278 (kz_mc mw_279 (kz_mc mw_50 kz_mn))) mw_280) rfl rfl rfl (by decide +kernel) ⟨Nat.le_of_ble_eq_true rfl, Nat.le_of_ble_eq_true rfl⟩) (kz_preS hdy hA hK hro hZ hN [3] (by decide) rfl [(false, 2)] rfl (by decide) [0, 1, 2, 3] rfl (fun _ h => by cases h) (fun _ h => by cases h) rfl) rfl rfl hl.1 rfl (lv_room (Nat.le_of_ble_eq_true rfl)) zd_M_multiply_53 ⟨Nat.le_of_ble_eq_true rfl, Nat.le_of_ble_eq_true rfl⟩) hdy hA [3] [0, 1, 2] rfl rfl (by decide) (by decide) (fun u H locs hw hdy => ?_)
  obtain ⟨f5, rfl⟩ : ∃ z, z = u := ⟨_, rfl⟩
  have hdy : kz_dy (dC, dI) vwCl A s.heap H locs [(qf, .inl (cI, 8, .inl f1)), (qw, .inl (cI, 16, .inl f3)), (ql, .inl (cI, 8, .inl f4)), (o, .inl (cI, 8, .inl f5))] := hdy.sub [0, 1, 2, 3] (by decide) rfl
  exact kz_vret F (f1, f3, f4, f5) hdy (trivial) zd_M_multiply_56

set_option maxHeartbeats 4000000 in
set_option maxRecDepth 100000 in
/-- KeyMeeting$Modulus.rest([I[I)V -/
theorem c_Mod_rest (l : Launch) (dC : Nat → ClassId) (dI : Nat → Nat → Nat) (cI cAA cB cL : ClassId) (qf qw ql o h qs qr a one : Nat) (gqf : Nat → Int32) (gqw : Nat → Int32) (gql : Nat → Int32) (go : Nat → Int32) (sh : Int32) (gqs : Nat → Int32) (ga : Nat → Int32) (gone : Nat → Int32) (sz : Nat) : Met l zy_M_rest zw_M_rest { frames := 4, cells := 0, slots := 0, locals := 102 } (kz_Pc (dC, dI) vwCl [(cI, .int), (cAA, .array .int), (cB, .byte), (cL, .long)] [("KeyMeeting$Modulus", "ONE", "[I", .ref one)] [] [.ref h, .ref a, .ref o] [(qf, .inl (cI, 8, .inl gqf)), (qw, .inl (cI, 16, .inl gqw)), (ql, .inl (cI, 8, .inl gql)), (o, .inl (cI, 8, .inl go))] [(h, .inr (1, [.ref qs, .ref qf, .ref qw, .ref ql, .ref qr, .int sh])), (qs, .inl (cI, 8, .inl gqs)), (a, .inl (cI, 8, .inl ga)), (one, .inl (cI, 8, .inl gone))] sz) (va_Qv (fun _ => True) (kz_B (dC, dI) vwCl (va_A [(qf, .inl (cI, 8, .inl gqf)), (qw, .inl (cI, 16, .inl gqw)), (ql, .inl (cI, 8, .inl gql)), (o, .inl (cI, 8, .inl go))] sz) (fun u : (Nat → Int32) × (Nat → Int32) × (Nat → Int32) × (Nat → Int32) => [(qf, .inl (cI, 8, .inl u.1)), (qw, .inl (cI, 16, .inl u.2.1)), (ql, .inl (cI, 8, .inl u.2.2.1)), (o, .inl (cI, 8, .inl u.2.2.2))])) (va_A [(qf, .inl (cI, 8, .inl gqf)), (qw, .inl (cI, 16, .inl gqw)), (ql, .inl (cI, 8, .inl gql)), (o, .inl (cI, 8, .inl go))] sz)) 0 0 (va_A [(qf, .inl (cI, 8, .inl gqf)), (qw, .inl (cI, 16, .inl gqw)), (ql, .inl (cI, 8, .inl gql)), (o, .inl (cI, 8, .inl go))] sz) := by
  refine kz_met (y := zy_M_rest) (ws := zw_M_rest) (av := [.ref h, .ref a, .ref o]) (sz := sz) (Qc := fun A => va_Qv (fun _ => True) (kz_B (dC, dI) vwCl A (fun u : (Nat → Int32) × (Nat → Int32) × (Nat → Int32) × (Nat → Int32) => [(qf, .inl (cI, 8, .inl u.1)), (qw, .inl (cI, 16, .inl u.2.1)), (ql, .inl (cI, 8, .inl u.2.2.1)), (o, .inl (cI, 8, .inl u.2.2.2))])) A) (cc := zc_M_rest) (maxL := 3) (ret := none) (by decide) rfl (Nat.le_of_ble_eq_true rfl) ?_
  intro p e s m below meth c A ls F hA hdy hK hro hZ hN hl
  obtain ⟨hx, hb, hml, hr, hown, hlocks, hts, hnm⟩ := id F
  have hl : lv_has ls 3 [(0, .ref h), (1, .ref a), (2, .ref o)] := hl
  refine lv_aload_n hx hb zd_M_rest_0 rfl (lv_at hl 0 rfl) ?_
  refine lv_aload_n hx hb zd_M_rest_1 rfl (lv_at hl 1 rfl) ?_
  refine va_gets hx hb (hZ _ (List.mem_of_getElem? (i := 0) rfl)) hdy.2.2 hown (hts _ (kz_c mw_253)) (fun _ h9 => h9) zd_M_rest_2 ?_
  refine lv_aload_n hx hb zd_M_rest_5 rfl (lv_at hl 2 rfl) ?_
  refine kz_callv (wk := []) (va_runV (As := [.ref a, .ref one, .ref o]) (rest := []) ⟨hx, hb, hml, hown, hts⟩ (c_Mod_multiply l dC dI cI cAA cB cL qf qw ql o h qs qr a one gqf gqw gql go (sh) gqs ga gone _) (cwV 3 hts (kz_g (kz_mc mw_255 (kz_mc mw_257 (kz_mc mw_6 (kz_mc mw_41 kz_mn)))) mw_258) rfl rfl rfl (by decide +kernel) ⟨Nat.le_of_ble_eq_true rfl, Nat.le_of_ble_eq_true rfl⟩) (kz_preVr hdy hA hK hro hZ hN [0, 1, 2, 3] (by decide) rfl [(true, 0), (true, 1), (true, 2), (true, 3)] rfl (by decide) [0, 1, 2, 3] rfl (fun _ h => by cases h) (fun _ h => by cases h) rfl (ci := 1) (q0 := 0) rfl rfl rfl) rfl rfl hl.1 rfl (lv_room (Nat.le_of_ble_eq_true rfl)) zd_M_rest_6 ⟨Nat.le_of_ble_eq_true rfl, Nat.le_of_ble_eq_true rfl⟩) hdy hA [0, 1, 2, 3] [] rfl rfl (by decide) (by decide) (fun u H locs hw hdy => ?_)
  obtain ⟨f1, f2, f3, f4⟩ := u
  have hdy : kz_dy (dC, dI) vwCl A s.heap H locs [(qf, .inl (cI, 8, .inl f1)), (qw, .inl (cI, 16, .inl f2)), (ql, .inl (cI, 8, .inl f3)), (o, .inl (cI, 8, .inl f4))] := hdy.sub [0, 1, 2, 3] (by decide) rfl
  exact kz_vret F (f1, f2, f3, f4) hdy (trivial) zd_M_rest_9

set_option maxHeartbeats 4000000 in
set_option maxRecDepth 100000 in
/-- KeyMeeting$Modulus.power([I[I[I)V -/
theorem c_Mod_power (l : Launch) (dC : Nat → ClassId) (dI : Nat → Nat → Nat) (cI cAA cB cL : ClassId) (qf qw ql qr o h qs a x one : Nat) (gqf : Nat → Int32) (gqw : Nat → Int32) (gql : Nat → Int32) (gqr : Nat → Int32) (go : Nat → Int32) (sh : Int32) (gqs : Nat → Int32) (ga : Nat → Int32) (gx : Nat → Int32) (gone : Nat → Int32) (sz : Nat) : Met l zy_M_power zw_M_power { frames := 4, cells := 0, slots := 0, locals := 102 } (kz_Pc (dC, dI) vwCl [(cI, .int), (cAA, .array .int), (cB, .byte), (cL, .long)] [("KeyMeeting$Modulus", "ONE", "[I", .ref one)] [] [.ref h, .ref a, .ref x, .ref o] [(qf, .inl (cI, 8, .inl gqf)), (qw, .inl (cI, 16, .inl gqw)), (ql, .inl (cI, 8, .inl gql)), (qr, .inl (cI, 8, .inl gqr)), (o, .inl (cI, 8, .inl go))] [(h, .inr (1, [.ref qs, .ref qf, .ref qw, .ref ql, .ref qr, .int sh])), (qs, .inl (cI, 8, .inl gqs)), (a, .inl (cI, 8, .inl ga)), (x, .inl (cI, 8, .inl gx)), (one, .inl (cI, 8, .inl gone))] sz) (va_Qv (fun _ => True) (kz_B (dC, dI) vwCl (va_A [(qf, .inl (cI, 8, .inl gqf)), (qw, .inl (cI, 16, .inl gqw)), (ql, .inl (cI, 8, .inl gql)), (qr, .inl (cI, 8, .inl gqr)), (o, .inl (cI, 8, .inl go))] sz) (fun u : (Nat → Int32) × (Nat → Int32) × (Nat → Int32) × (Nat → Int32) × (Nat → Int32) => [(qf, .inl (cI, 8, .inl u.1)), (qw, .inl (cI, 16, .inl u.2.1)), (ql, .inl (cI, 8, .inl u.2.2.1)), (qr, .inl (cI, 8, .inl u.2.2.2.1)), (o, .inl (cI, 8, .inl u.2.2.2.2))])) (va_A [(qf, .inl (cI, 8, .inl gqf)), (qw, .inl (cI, 16, .inl gqw)), (ql, .inl (cI, 8, .inl gql)), (qr, .inl (cI, 8, .inl gqr)), (o, .inl (cI, 8, .inl go))] sz)) 0 0 (va_A [(qf, .inl (cI, 8, .inl gqf)), (qw, .inl (cI, 16, .inl gqw)), (ql, .inl (cI, 8, .inl gql)), (qr, .inl (cI, 8, .inl gqr)), (o, .inl (cI, 8, .inl go))] sz) := by
  refine kz_met (y := zy_M_power) (ws := zw_M_power) (av := [.ref h, .ref a, .ref x, .ref o]) (sz := sz) (Qc := fun A => va_Qv (fun _ => True) (kz_B (dC, dI) vwCl A (fun u : (Nat → Int32) × (Nat → Int32) × (Nat → Int32) × (Nat → Int32) × (Nat → Int32) => [(qf, .inl (cI, 8, .inl u.1)), (qw, .inl (cI, 16, .inl u.2.1)), (ql, .inl (cI, 8, .inl u.2.2.1)), (qr, .inl (cI, 8, .inl u.2.2.2.1)), (o, .inl (cI, 8, .inl u.2.2.2.2))])) A) (cc := zc_M_power) (maxL := 5) (ret := none) (by decide) rfl (Nat.le_of_ble_eq_true rfl) ?_
  intro p e s m below meth c A ls F hA hdy hK hro hZ hN hl
  obtain ⟨hx, hb, hml, hr, hown, hlocks, hts, hnm⟩ := id F
  have hl : lv_has ls 5 [(0, .ref h), (1, .ref a), (2, .ref x), (3, .ref o)] := hl
  refine lv_aload_n hx hb zd_M_power_0 rfl (lv_at hl 0 rfl) ?_
  refine va_gets hx hb (hZ _ (List.mem_of_getElem? (i := 0) rfl)) hdy.2.2 hown (hts _ (kz_c mw_253)) (fun _ h9 => h9) zd_M_power_1 ?_
  refine va_gets hx hb (hZ _ (List.mem_of_getElem? (i := 0) rfl)) hdy.2.2 hown (hts _ (kz_c mw_253)) (fun _ h9 => h9) zd_M_power_4 ?_
  refine lv_aload_n hx hb zd_M_power_7 rfl (lv_at hl 0 rfl) ?_
  refine va_get (D := (dC, dI)) (ci := 1) (v := .ref qr) (C := zR_M) (T := zT_M) (N := 6) hx hb hts (fun w h => kz_c (zi_M w h)) hown hK (hro.ob hdy.2.2 (k := 0) rfl) 0 rfl rfl 4 (by decide) (hts _ (kz_c mw_98)) (fun _ h9 => h9) rfl zd_M_power_8 ?_
  refine kz_callv (wk := [(o, .inl (cI, 8, .inl go))]) (va_runV (As := [.ref one, .ref one, .ref qr]) (rest := []) ⟨hx, hb, hml, hown, hts⟩ (c_Mod_multiply l dC dI cI cAA cB cL qf qw ql qr h qs qr one one gqf gqw gql gqr (sh) gqs gone gone _) (cwV 3 hts (kz_g (kz_mc mw_255 (kz_mc mw_257 (kz_mc mw_6 (kz_mc mw_41 kz_mn)))) mw_258) rfl rfl rfl (by decide +kernel) ⟨Nat.le_of_ble_eq_true rfl, Nat.le_of_ble_eq_true rfl⟩) (kz_preVr hdy hA hK hro hZ hN [0, 1, 2, 3] (by decide) rfl [(true, 0), (true, 1), (true, 4), (true, 4)] rfl (by decide) [0, 1, 2, 3] rfl (fun _ h => by cases h) (fun _ h => by cases h) rfl (ci := 1) (q0 := 0) rfl rfl rfl) rfl rfl hl.1 rfl (lv_room (Nat.le_of_ble_eq_true rfl)) zd_M_power_11 ⟨Nat.le_of_ble_eq_true rfl, Nat.le_of_ble_eq_true rfl⟩) hdy hA [0, 1, 2, 3] [4] rfl rfl (by decide) (by decide) (fun u H locs hw hdy => ?_)
  obtain ⟨f1, f2, f3, f4⟩ := u
  have hdy : kz_dy (dC, dI) vwCl A s.heap H locs [(qf, .inl (cI, 8, .inl f1)), (qw, .inl (cI, 16, .inl f2)), (ql, .inl (cI, 8, .inl f3)), (qr, .inl (cI, 8, .inl f4)), (o, .inl (cI, 8, .inl go))] := hdy.sub [1, 2, 3, 4, 0] (by decide) rfl
  refine lv_aload_n hx hb zd_M_power_14 rfl (lv_at hl 2 rfl) ?_
  refine kz_calli (wk := [(qf, .inl (cI, 8, .inl f1)), (qw, .inl (cI, 16, .inl f2)), (ql, .inl (cI, 8, .inl f3)), (qr, .inl (cI, 8, .inl f4)), (o, .inl (cI, 8, .inl go))]) (va_runS (As := [.ref x]) (rest := []) ⟨hx, hb, hml, hown, hts⟩ (c_Words_leadingZeros l dC dI cI cAA cB cL x gx _) (va_cwS 1 hts (kz_g (kz_mc mw_237 (kz_mc mw_238 (kz_mc mw_50 kz_mn))) mw_239) rfl rfl rfl (by decide +kernel) ⟨Nat.le_of_ble_eq_true rfl, Nat.le_of_ble_eq_true rfl⟩) (kz_preS hdy hA hK hro hZ hN [] (by decide) rfl [(true, 3)] rfl (by decide) [0, 1, 2, 3] rfl (fun _ h => by cases h) (fun _ h => by cases h) rfl) rfl rfl hl.1 rfl (lv_room (Nat.le_of_ble_eq_true rfl)) zd_M_power_15 ⟨Nat.le_of_ble_eq_true rfl, Nat.le_of_ble_eq_true rfl⟩) hdy hA [] [0, 1, 2, 3, 4] rfl rfl (by decide) (by decide) (fun r u H locs hw hdy => ?_)
  try dsimp only at hw
  obtain ⟨⟨b5, hb5, rfl⟩, -⟩ := hw
  have hdy : kz_dy (dC, dI) vwCl A s.heap H locs [(qf, .inl (cI, 8, .inl f1)), (qw, .inl (cI, 16, .inl f2)), (ql, .inl (cI, 8, .inl f3)), (qr, .inl (cI, 8, .inl f4)), (o, .inl (cI, 8, .inl go))] := hdy.sub [0, 1, 2, 3, 4] (by decide) rfl
  refine lv_istore (lv' := [(4, .int (nI (b5))), (0, .ref h), (1, .ref a), (2, .ref x), (3, .ref o)]) hx hb zd_M_power_18 hl (by decide) rfl (fun ls hl => ?_)
  have lp20 : ∀ (n20 k20 : Nat) (f6 : Nat → Int32) (f7 : Nat → Int32) (f8 : Nat → Int32) (f9 : Nat → Int32) (f10 : Nat → Int32) (H : Heap) (locs : List Loc) (ls : Array Slot), k20 ≤ 256 → 256 - k20 < n20 → kz_dy (dC, dI) vwCl A s.heap H locs [(qf, .inl (cI, 8, .inl f6)), (qw, .inl (cI, 16, .inl f7)), (ql, .inl (cI, 8, .inl f8)), (qr, .inl (cI, 8, .inl f9)), (o, .inl (cI, 8, .inl f10))] → lv_has ls 5 [(4, .int (nI (k20))), (0, .ref h), (1, .ref a), (2, .ref x), (3, .ref o)] → W p l e { frames := 4, cells := 0, slots := 0, locals := 102 } s m ([.ref h, .ref a, .ref x, .ref o] : List Value).toArray below meth c H locs 0 0 (MQ below (va_Qv (fun _ => True) (kz_B (dC, dI) vwCl A (fun u : (Nat → Int32) × (Nat → Int32) × (Nat → Int32) × (Nat → Int32) × (Nat → Int32) => [(qf, .inl (cI, 8, .inl u.1)), (qw, .inl (cI, 16, .inl u.2.1)), (ql, .inl (cI, 8, .inl u.2.2.1)), (qr, .inl (cI, 8, .inl u.2.2.2.1)), (o, .inl (cI, 8, .inl u.2.2.2.2))])) A) ([.ref h, .ref a, .ref x, .ref o] : List Value).toArray s 0 0 A) (F0 m 20 ls []) := by
    intro n20
    induction n20 with
    | zero => intro k20; intros; omega
    | succ n20 ih20 =>
      intro k20 f6 f7 f8 f9 f10 H locs ls hi20 hn20 hdy hl
      refine lv_iload hx hb zd_M_power_20 (lv_at hl 0 rfl) ?_
      refine lv_sipush (v := (nI (256))) hx hb zd_M_power_22 (by decide) ?_
      refine lv_icmp_ge (tgt := 72) hx hb zd_M_power_25 (by decide) (fun hc25 => ?_) (fun hc25 => ?_)
      · have hc25 : 256 ≤ k20 := (nI_leI (by omega) (by omega)).mp hc25
        refine lv_aload_n hx hb zd_M_power_72 rfl (lv_at hl 1 rfl) ?_
        refine va_get (D := (dC, dI)) (ci := 1) (v := .ref qr) (C := zR_M) (T := zT_M) (N := 6) hx hb hts (fun w h => kz_c (zi_M w h)) hown hK (hro.ob hdy.2.2 (k := 0) rfl) 0 rfl rfl 4 (by decide) (hts _ (kz_c mw_98)) (fun _ h9 => h9) rfl zd_M_power_73 ?_
        refine lv_aload_n hx hb zd_M_power_76 rfl (lv_at hl 4 rfl) ?_
        refine kz_callv (wk := [(qf, .inl (cI, 8, .inl f6)), (qw, .inl (cI, 16, .inl f7)), (ql, .inl (cI, 8, .inl f8)), (qr, .inl (cI, 8, .inl f9))]) (va_runS (As := [.ref qr, .ref o]) (rest := []) ⟨hx, hb, hml, hown, hts⟩ (c_Words_copy l dC dI cI cAA cB cL o qr f10 f9 _) (va_cwS 2 hts (kz_g (kz_mc mw_282 (kz_mc mw_283 (kz_mc mw_50 kz_mn))) mw_284) rfl rfl rfl (by decide +kernel) ⟨Nat.le_of_ble_eq_true rfl, Nat.le_of_ble_eq_true rfl⟩) (kz_preS hdy hA hK hro hZ hN [4] (by decide) rfl [(false, 3)] rfl (by decide) [0, 1, 2, 3] rfl (fun _ h => by cases h) (fun _ h => by cases h) rfl) rfl rfl hl.1 rfl (lv_room (Nat.le_of_ble_eq_true rfl)) zd_M_power_77 ⟨Nat.le_of_ble_eq_true rfl, Nat.le_of_ble_eq_true rfl⟩) hdy hA [4] [0, 1, 2, 3] rfl rfl (by decide) (by decide) (fun u H locs hw hdy => ?_)
        obtain ⟨f11, rfl⟩ : ∃ z, z = u := ⟨_, rfl⟩
        have hdy : kz_dy (dC, dI) vwCl A s.heap H locs [(qf, .inl (cI, 8, .inl f6)), (qw, .inl (cI, 16, .inl f7)), (ql, .inl (cI, 8, .inl f8)), (qr, .inl (cI, 8, .inl f9)), (o, .inl (cI, 8, .inl f11))] := hdy.sub [0, 1, 2, 3, 4] (by decide) rfl
        exact kz_vret F (f6, f7, f8, f9, f11) hdy (trivial) zd_M_power_80
      · have hc25 : ¬ 256 ≤ k20 := fun h9 => hc25 ((nI_leI (by omega) (by omega)).mpr h9)
        refine lv_aload_n hx hb zd_M_power_28 rfl (lv_at hl 1 rfl) ?_
        refine lv_aload_n hx hb zd_M_power_29 rfl (lv_at hl 1 rfl) ?_
        refine va_get (D := (dC, dI)) (ci := 1) (v := .ref qr) (C := zR_M) (T := zT_M) (N := 6) hx hb hts (fun w h => kz_c (zi_M w h)) hown hK (hro.ob hdy.2.2 (k := 0) rfl) 0 rfl rfl 4 (by decide) (hts _ (kz_c mw_98)) (fun _ h9 => h9) rfl zd_M_power_30 ?_
        refine lv_aload_n hx hb zd_M_power_33 rfl (lv_at hl 1 rfl) ?_
        refine va_get (D := (dC, dI)) (ci := 1) (v := .ref qr) (C := zR_M) (T := zT_M) (N := 6) hx hb hts (fun w h => kz_c (zi_M w h)) hown hK (hro.ob hdy.2.2 (k := 0) rfl) 0 rfl rfl 4 (by decide) (hts _ (kz_c mw_98)) (fun _ h9 => h9) rfl zd_M_power_34 ?_
        refine lv_aload_n hx hb zd_M_power_37 rfl (lv_at hl 1 rfl) ?_
        refine va_get (D := (dC, dI)) (ci := 1) (v := .ref qr) (C := zR_M) (T := zT_M) (N := 6) hx hb hts (fun w h => kz_c (zi_M w h)) hown hK (hro.ob hdy.2.2 (k := 0) rfl) 0 rfl rfl 4 (by decide) (hts _ (kz_c mw_98)) (fun _ h9 => h9) rfl zd_M_power_38 ?_
        refine kz_callv (wk := [(o, .inl (cI, 8, .inl f10))]) (va_runV (As := [.ref qr, .ref qr, .ref qr]) (rest := []) ⟨hx, hb, hml, hown, hts⟩ (c_Mod_multiply2 l dC dI cI cAA cB cL qf qw ql qr h qs qr f6 f7 f8 f9 (sh) gqs _) (cwV 3 hts (kz_g (kz_mc mw_255 (kz_mc mw_257 (kz_mc mw_6 (kz_mc mw_41 kz_mn)))) mw_258) rfl rfl rfl (by decide +kernel) ⟨Nat.le_of_ble_eq_true rfl, Nat.le_of_ble_eq_true rfl⟩) (kz_preVr hdy hA hK hro hZ hN [0, 1, 2, 3] (by decide) rfl [(true, 0), (true, 1)] rfl (by decide) [0, 1, 2, 3] rfl (fun _ h => by cases h) (fun _ h => by cases h) rfl (ci := 1) (q0 := 0) rfl rfl rfl) rfl rfl hl.1 rfl (lv_room (Nat.le_of_ble_eq_true rfl)) zd_M_power_41 ⟨Nat.le_of_ble_eq_true rfl, Nat.le_of_ble_eq_true rfl⟩) hdy hA [0, 1, 2, 3] [4] rfl rfl (by decide) (by decide) (fun u H locs hw hdy => ?_)
        obtain ⟨f12, f13, f14, f15⟩ := u
        have hdy : kz_dy (dC, dI) vwCl A s.heap H locs [(qf, .inl (cI, 8, .inl f12)), (qw, .inl (cI, 16, .inl f13)), (ql, .inl (cI, 8, .inl f14)), (qr, .inl (cI, 8, .inl f15)), (o, .inl (cI, 8, .inl f10))] := hdy.sub [1, 2, 3, 4, 0] (by decide) rfl
        refine lv_aload_n hx hb zd_M_power_44 rfl (lv_at hl 3 rfl) ?_
        refine lv_iload hx hb zd_M_power_45 (lv_at hl 0 rfl) ?_
        refine kz_calli (wk := [(qf, .inl (cI, 8, .inl f12)), (qw, .inl (cI, 16, .inl f13)), (ql, .inl (cI, 8, .inl f14)), (qr, .inl (cI, 8, .inl f15)), (o, .inl (cI, 8, .inl f10))]) (va_runS (As := [.ref x, .int (nI (k20))]) (rest := []) ⟨hx, hb, hml, hown, hts⟩ (c_Words_hasBit l dC dI cI cAA cB cL x gx k20 _ (by first | omega | assumption)) (va_cwS 2 hts (kz_g (kz_mc mw_281 (kz_mc mw_241 (kz_mc mw_50 kz_mn))) mw_242) rfl rfl rfl (by decide +kernel) ⟨Nat.le_of_ble_eq_true rfl, Nat.le_of_ble_eq_true rfl⟩) (kz_preS hdy hA hK hro hZ hN [] (by decide) rfl [(true, 3)] rfl (by decide) [0, 1, 2, 3] rfl (fun _ h => by cases h) (fun _ h => by cases h) rfl) rfl rfl hl.1 rfl (lv_room (Nat.le_of_ble_eq_true rfl)) zd_M_power_47 ⟨Nat.le_of_ble_eq_true rfl, Nat.le_of_ble_eq_true rfl⟩) hdy hA [] [0, 1, 2, 3, 4] rfl rfl (by decide) (by decide) (fun r u H locs hw hdy => ?_)
        obtain ⟨r16, rfl⟩ : ∃ z, z = r := ⟨_, rfl⟩
        try dsimp only at hw
        obtain ⟨hzr16, -⟩ := hw
        have hdy : kz_dy (dC, dI) vwCl A s.heap H locs [(qf, .inl (cI, 8, .inl f12)), (qw, .inl (cI, 16, .inl f13)), (ql, .inl (cI, 8, .inl f14)), (qr, .inl (cI, 8, .inl f15)), (o, .inl (cI, 8, .inl f10))] := hdy.sub [0, 1, 2, 3, 4] (by decide) rfl
        refine lv_if_eq (tgt := 66) hx hb zd_M_power_50 (by decide) (fun hc50 => ?_) (fun hc50 => ?_)
        · refine lv_iinc (v := (nI (k20 + 1))) (lv' := [(4, .int (nI (k20 + 1))), (0, .ref h), (1, .ref a), (2, .ref x), (3, .ref o)]) hx hb zd_M_power_66 hl (k := 0) rfl (nI_1 _) (by decide) rfl (fun ls hl => ?_)
          refine lv_goto (tgt := 20) hx hb zd_M_power_69 (by decide) ?_
          exact ih20 (k20 + 1) f12 f13 f14 f15 f10 _ _ _ (by omega) (by omega) hdy (lv_sub hl [0, 1, 2, 3, 4] rfl)
        · refine lv_aload_n hx hb zd_M_power_53 rfl (lv_at hl 1 rfl) ?_
          refine lv_aload_n hx hb zd_M_power_54 rfl (lv_at hl 1 rfl) ?_
          refine va_get (D := (dC, dI)) (ci := 1) (v := .ref qr) (C := zR_M) (T := zT_M) (N := 6) hx hb hts (fun w h => kz_c (zi_M w h)) hown hK (hro.ob hdy.2.2 (k := 0) rfl) 0 rfl rfl 4 (by decide) (hts _ (kz_c mw_98)) (fun _ h9 => h9) rfl zd_M_power_55 ?_
          refine lv_aload_n hx hb zd_M_power_58 rfl (lv_at hl 2 rfl) ?_
          refine lv_aload_n hx hb zd_M_power_59 rfl (lv_at hl 1 rfl) ?_
          refine va_get (D := (dC, dI)) (ci := 1) (v := .ref qr) (C := zR_M) (T := zT_M) (N := 6) hx hb hts (fun w h => kz_c (zi_M w h)) hown hK (hro.ob hdy.2.2 (k := 0) rfl) 0 rfl rfl 4 (by decide) (hts _ (kz_c mw_98)) (fun _ h9 => h9) rfl zd_M_power_60 ?_
          refine kz_callv (wk := [(o, .inl (cI, 8, .inl f10))]) (va_runV (As := [.ref qr, .ref a, .ref qr]) (rest := []) ⟨hx, hb, hml, hown, hts⟩ (c_Mod_multiply3 l dC dI cI cAA cB cL qf qw ql qr h qs qr a f12 f13 f14 f15 (sh) gqs ga _) (cwV 3 hts (kz_g (kz_mc mw_255 (kz_mc mw_257 (kz_mc mw_6 (kz_mc mw_41 kz_mn)))) mw_258) rfl rfl rfl (by decide +kernel) ⟨Nat.le_of_ble_eq_true rfl, Nat.le_of_ble_eq_true rfl⟩) (kz_preVr hdy hA hK hro hZ hN [0, 1, 2, 3] (by decide) rfl [(true, 0), (true, 1), (true, 2)] rfl (by decide) [0, 1, 2, 3] rfl (fun _ h => by cases h) (fun _ h => by cases h) rfl (ci := 1) (q0 := 0) rfl rfl rfl) rfl rfl hl.1 rfl (lv_room (Nat.le_of_ble_eq_true rfl)) zd_M_power_63 ⟨Nat.le_of_ble_eq_true rfl, Nat.le_of_ble_eq_true rfl⟩) hdy hA [0, 1, 2, 3] [4] rfl rfl (by decide) (by decide) (fun u H locs hw hdy => ?_)
          obtain ⟨f17, f18, f19, f20⟩ := u
          have hdy : kz_dy (dC, dI) vwCl A s.heap H locs [(qf, .inl (cI, 8, .inl f17)), (qw, .inl (cI, 16, .inl f18)), (ql, .inl (cI, 8, .inl f19)), (qr, .inl (cI, 8, .inl f20)), (o, .inl (cI, 8, .inl f10))] := hdy.sub [1, 2, 3, 4, 0] (by decide) rfl
          refine lv_iinc (v := (nI (k20 + 1))) (lv' := [(4, .int (nI (k20 + 1))), (0, .ref h), (1, .ref a), (2, .ref x), (3, .ref o)]) hx hb zd_M_power_66 hl (k := 0) rfl (nI_1 _) (by decide) rfl (fun ls hl => ?_)
          refine lv_goto (tgt := 20) hx hb zd_M_power_69 (by decide) ?_
          exact ih20 (k20 + 1) f17 f18 f19 f20 f10 _ _ _ (by omega) (by omega) hdy (lv_sub hl [0, 1, 2, 3, 4] rfl)
  exact lp20 (256 - b5 + 1) b5 f1 f2 f3 f4 go _ _ _ (by omega) (by omega) hdy (lv_sub hl [0, 1, 2, 3, 4] rfl)

