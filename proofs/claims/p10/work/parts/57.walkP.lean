set_option maxHeartbeats 4000000 in
set_option maxRecDepth 100000 in
/-- KeyMeeting.needIndex(II)V throws java/lang/IndexOutOfBoundsException -/
theorem c_P_needIndex (l : Launch) (hl9 : l.stackTraces = false) (dC : Nat → ClassId) (dI : Nat → Nat → Nat) (cI cAA cB cL : ClassId) (i_ : Int32) (b_ : Int32) (sz : Nat) (sa : Nat) (hbad : i_ < 0 ∨ b_ ≤ i_) : kz_MetT l zy_K_needIndex zw_K_needIndex { frames := 8, cells := 1, slots := 6, locals := 200 } (fun a U => kz_Pc (dC, dI) vwCl [(cI, .int), (cAA, .array .int), (cB, .byte), (cL, .long)] [] [] [.int i_, .int b_] [] [] sz a U ∧ kz_PI sa U) "java/lang/IndexOutOfBoundsException" 1 6 := by
  refine kz_metT (y := zy_K_needIndex) (ws := zw_K_needIndex) (av := [.int i_, .int b_]) (sz := sz) (PX := kz_PI sa) (cc := zc_K_needIndex) (maxL := 2) (ret := none) (by decide) rfl (Nat.le_of_ble_eq_true rfl) ?_
  intro p e s m below meth c A ls F hA hAn hdy hK hro hZ hN hem hPX hl
  obtain ⟨hx, hb, hml, hr, hown, hlocks, hts, hnm⟩ := id F
  have hl : lv_has ls 2 [(0, .int i_), (1, .int b_)] := hl
  refine lv_iload_n hx hb zd_K_needIndex_0 rfl (lv_at hl 0 rfl) ?_
  refine lv_if_lt (tgt := 9) hx hb zd_K_needIndex_1 (by decide) (fun hc1 => ?_) (fun hc1 => ?_)
  · exact kz_throwS (names := kz_names) hx hb hl9 hown (by decide +kernel) (by decide +kernel) (hts _ (kz_c mw_375)) (hts _ (kz_c mw_47)) hPX.2 hPX.1 hdy.2.2 hAn (hl.1.trans hml.symm) zd_K_needIndex_9 zd_K_needIndex_12 zd_K_needIndex_13 zd_K_needIndex_15 zd_K_needIndex_18 hem hlocks (Nat.le_of_ble_eq_true rfl) (Nat.le_of_ble_eq_true rfl) (Nat.le_of_ble_eq_true rfl) (Nat.le_of_ble_eq_true rfl) (Nat.le_of_ble_eq_true rfl) (Nat.le_of_ble_eq_true rfl)
  · refine lv_iload_n hx hb zd_K_needIndex_4 rfl (lv_at hl 0 rfl) ?_
    refine lv_iload_n hx hb zd_K_needIndex_5 rfl (lv_at hl 1 rfl) ?_
    refine lv_icmp_lt (tgt := 19) hx hb zd_K_needIndex_6 (by decide) (fun hc6 => ?_) (fun hc6 => ?_)
    · rcases hbad with h9 | h9; exact absurd h9 hc1; exact (kz_nle hc6 h9).elim
    · exact kz_throwS (names := kz_names) hx hb hl9 hown (by decide +kernel) (by decide +kernel) (hts _ (kz_c mw_375)) (hts _ (kz_c mw_47)) hPX.2 hPX.1 hdy.2.2 hAn (hl.1.trans hml.symm) zd_K_needIndex_9 zd_K_needIndex_12 zd_K_needIndex_13 zd_K_needIndex_15 zd_K_needIndex_18 hem hlocks (Nat.le_of_ble_eq_true rfl) (Nat.le_of_ble_eq_true rfl) (Nat.le_of_ble_eq_true rfl) (Nat.le_of_ble_eq_true rfl) (Nat.le_of_ble_eq_true rfl) (Nat.le_of_ble_eq_true rfl)

set_option maxHeartbeats 4000000 in
set_option maxRecDepth 100000 in
/-- KeyMeeting.number(III)V throws java/lang/IndexOutOfBoundsException -/
theorem c_P_number1 (l : Launch) (hl9 : l.stackTraces = false) (dC : Nat → ClassId) (dI : Nat → Nat → Nat) (cI cAA cB cL : ClassId) (h : Nat) (w_ : Int32) (i_ : Int32) (v : Int32) (sz : Nat) (sa : Nat) (hbad : w_ < 0 ∨ nI 7 ≤ w_) : kz_MetT l zy_K_number zw_K_number { frames := 9, cells := 1, slots := 6, locals := 221 } (fun a U => kz_Pc (dC, dI) vwCl [(cI, .int), (cAA, .array .int), (cB, .byte), (cL, .long)] [] [] [.ref h, .int w_, .int i_, .int v] [] [] sz a U ∧ kz_PI sa U) "java/lang/IndexOutOfBoundsException" 1 6 := by
  refine kz_metT (y := zy_K_number) (ws := zw_K_number) (av := [.ref h, .int w_, .int i_, .int v]) (sz := sz) (PX := kz_PI sa) (cc := zc_K_number) (maxL := 4) (ret := none) (by decide) rfl (Nat.le_of_ble_eq_true rfl) ?_
  intro p e s m below meth c A ls F hA hAn hdy hK hro hZ hN hem hPX hl
  obtain ⟨hx, hb, hml, hr, hown, hlocks, hts, hnm⟩ := id F
  have hl : lv_has ls 4 [(0, .ref h), (1, .int w_), (2, .int i_), (3, .int v)] := hl
  refine lv_iload_n hx hb zd_K_number_0 rfl (lv_at hl 1 rfl) ?_
  refine lv_bipush (v := (nI (7))) hx hb zd_K_number_1 (by decide) ?_
  exact kz_outS (As := [.int w_, .int (nI (7))]) (rest := []) ⟨hx, hb, hml, hown, hts⟩ (c_P_needIndex l hl9 dC dI cI cAA cB cL w_ (nI (7)) _ sa (hbad)) (va_cwS 2 hts (kz_g (kz_mc mw_372 (kz_mc mw_373 (kz_mc mw_39 kz_mn))) mw_374) rfl rfl rfl (by decide +kernel) ⟨Nat.le_of_ble_eq_true rfl, Nat.le_of_ble_eq_true rfl⟩) (kz_preTS (fun _ _ h => kz_PI.old h) hPX (kz_preS (As := [.int w_, .int (nI (7))]) hdy hA hK hro hZ hN [] (by decide) rfl [] rfl (by decide) [0, 1, 2, 3] rfl (fun _ h => by cases h) (fun _ h => by cases h) rfl) hdy.2.2 hAn) rfl hl.1 (Nat.le_of_ble_eq_true rfl) zd_K_number_3 ⟨Nat.le_of_ble_eq_true rfl, Nat.le_of_ble_eq_true rfl⟩ hdy.2.2 hAn hem hlocks (Nat.le_of_ble_eq_true rfl) (Nat.le_of_ble_eq_true rfl)

set_option maxHeartbeats 4000000 in
set_option maxRecDepth 100000 in
/-- KeyMeeting.number(III)V throws java/lang/IndexOutOfBoundsException -/
theorem c_P_number2 (l : Launch) (hl9 : l.stackTraces = false) (dC : Nat → ClassId) (dI : Nat → Nat → Nat) (cI cAA cB cL : ClassId) (h : Nat) (w_ : Nat) (i_ : Int32) (v : Int32) (sz : Nat) (sa : Nat) (hw_ : w_ < 7) (hbad : i_ < 0 ∨ nI 8 ≤ i_) : kz_MetT l zy_K_number zw_K_number { frames := 9, cells := 1, slots := 6, locals := 221 } (fun a U => kz_Pc (dC, dI) vwCl [(cI, .int), (cAA, .array .int), (cB, .byte), (cL, .long)] [] [] [.ref h, .int (nI (w_)), .int i_, .int v] [] [] sz a U ∧ kz_PI sa U) "java/lang/IndexOutOfBoundsException" 1 6 := by
  refine kz_metT (y := zy_K_number) (ws := zw_K_number) (av := [.ref h, .int (nI (w_)), .int i_, .int v]) (sz := sz) (PX := kz_PI sa) (cc := zc_K_number) (maxL := 4) (ret := none) (by decide) rfl (Nat.le_of_ble_eq_true rfl) ?_
  intro p e s m below meth c A ls F hA hAn hdy hK hro hZ hN hem hPX hl
  obtain ⟨hx, hb, hml, hr, hown, hlocks, hts, hnm⟩ := id F
  have hl : lv_has ls 4 [(0, .ref h), (1, .int (nI (w_))), (2, .int i_), (3, .int v)] := hl
  refine lv_iload_n hx hb zd_K_number_0 rfl (lv_at hl 1 rfl) ?_
  refine lv_bipush (v := (nI (7))) hx hb zd_K_number_1 (by decide) ?_
  refine kz_callv (wk := []) (va_runS (As := [.int (nI (w_)), .int (nI (7))]) (rest := []) ⟨hx, hb, hml, hown, hts⟩ (c_K_needIndex l dC dI cI cAA cB cL w_ 7 _ (by first | omega | assumption) (by first | omega | assumption)) (va_cwS 2 hts (kz_g (kz_mc mw_372 (kz_mc mw_373 (kz_mc mw_39 kz_mn))) mw_374) rfl rfl rfl (by decide +kernel) ⟨Nat.le_of_ble_eq_true rfl, Nat.le_of_ble_eq_true rfl⟩) (kz_preS hdy hA hK hro hZ hN [] (by decide) rfl [] rfl (by decide) [0, 1, 2, 3] rfl (fun _ h => by cases h) (fun _ h => by cases h) rfl) rfl rfl hl.1 rfl (lv_room (Nat.le_of_ble_eq_true rfl)) zd_K_number_3 ⟨Nat.le_of_ble_eq_true rfl, Nat.le_of_ble_eq_true rfl⟩) hdy hA [] [] rfl rfl (by decide) (by decide) (fun u H locs hw hdy => ?_)
  have hdy : kz_dy (dC, dI) vwCl A s.heap H locs [] := hdy.sub [] (by decide) rfl
  refine lv_iload_n hx hb zd_K_number_6 rfl (lv_at hl 2 rfl) ?_
  refine lv_bipush (v := (nI (8))) hx hb zd_K_number_7 (by decide) ?_
  exact kz_outS (As := [.int i_, .int (nI (8))]) (rest := []) ⟨hx, hb, hml, hown, hts⟩ (c_P_needIndex l hl9 dC dI cI cAA cB cL i_ (nI (8)) _ sa (hbad)) (va_cwS 2 hts (kz_g (kz_mc mw_372 (kz_mc mw_373 (kz_mc mw_39 kz_mn))) mw_374) rfl rfl rfl (by decide +kernel) ⟨Nat.le_of_ble_eq_true rfl, Nat.le_of_ble_eq_true rfl⟩) (kz_preTS (fun _ _ h => kz_PI.old h) hPX (kz_preS (As := [.int i_, .int (nI (8))]) hdy hA hK hro hZ hN [] (by decide) rfl [] rfl (by decide) [0, 1, 2, 3] rfl (fun _ h => by cases h) (fun _ h => by cases h) rfl) hdy.2.2 hAn) rfl hl.1 (Nat.le_of_ble_eq_true rfl) zd_K_number_9 ⟨Nat.le_of_ble_eq_true rfl, Nat.le_of_ble_eq_true rfl⟩ hdy.2.2 hAn hem hlocks (Nat.le_of_ble_eq_true rfl) (Nat.le_of_ble_eq_true rfl)

set_option maxHeartbeats 4000000 in
set_option maxRecDepth 100000 in
/-- KeyMeeting.alter(III)I throws java/lang/IndexOutOfBoundsException -/
theorem c_P_alter1 (l : Launch) (hl9 : l.stackTraces = false) (dC : Nat → ClassId) (dI : Nat → Nat → Nat) (cI cAA cB cL : ClassId) (h : Nat) (w_ : Int32) (i_ : Int32) (v : Int32) (sz : Nat) (sa : Nat) (hbad : w_ < 0 ∨ nI 4 ≤ w_) : kz_MetT l zy_K_alter zw_K_alter { frames := 9, cells := 1, slots := 6, locals := 221 } (fun a U => kz_Pc (dC, dI) vwCl [(cI, .int), (cAA, .array .int), (cB, .byte), (cL, .long)] [] [] [.ref h, .int w_, .int i_, .int v] [] [] sz a U ∧ kz_PI sa U) "java/lang/IndexOutOfBoundsException" 1 6 := by
  refine kz_metT (y := zy_K_alter) (ws := zw_K_alter) (av := [.ref h, .int w_, .int i_, .int v]) (sz := sz) (PX := kz_PI sa) (cc := zc_K_alter) (maxL := 5) (ret := some .int) (by decide) rfl (Nat.le_of_ble_eq_true rfl) ?_
  intro p e s m below meth c A ls F hA hAn hdy hK hro hZ hN hem hPX hl
  obtain ⟨hx, hb, hml, hr, hown, hlocks, hts, hnm⟩ := id F
  have hl : lv_has ls 5 [(0, .ref h), (1, .int w_), (2, .int i_), (3, .int v)] := hl
  refine lv_iload_n hx hb zd_K_alter_0 rfl (lv_at hl 1 rfl) ?_
  refine lv_iconst (v := (nI (4))) hx hb zd_K_alter_1 (by decide) ?_
  exact kz_outS (As := [.int w_, .int (nI (4))]) (rest := []) ⟨hx, hb, hml, hown, hts⟩ (c_P_needIndex l hl9 dC dI cI cAA cB cL w_ (nI (4)) _ sa (hbad)) (va_cwS 2 hts (kz_g (kz_mc mw_372 (kz_mc mw_373 (kz_mc mw_39 kz_mn))) mw_374) rfl rfl rfl (by decide +kernel) ⟨Nat.le_of_ble_eq_true rfl, Nat.le_of_ble_eq_true rfl⟩) (kz_preTS (fun _ _ h => kz_PI.old h) hPX (kz_preS (As := [.int w_, .int (nI (4))]) hdy hA hK hro hZ hN [] (by decide) rfl [] rfl (by decide) [0, 1, 2, 3] rfl (fun _ h => by cases h) (fun _ h => by cases h) rfl) hdy.2.2 hAn) rfl hl.1 (Nat.le_of_ble_eq_true rfl) zd_K_alter_2 ⟨Nat.le_of_ble_eq_true rfl, Nat.le_of_ble_eq_true rfl⟩ hdy.2.2 hAn hem hlocks (Nat.le_of_ble_eq_true rfl) (Nat.le_of_ble_eq_true rfl)

set_option maxHeartbeats 4000000 in
set_option maxRecDepth 100000 in
/-- KeyMeeting.alter(III)I throws java/lang/IndexOutOfBoundsException -/
theorem c_P_alter2 (l : Launch) (hl9 : l.stackTraces = false) (dC : Nat → ClassId) (dI : Nat → Nat → Nat) (cI cAA cB cL : ClassId) (h : Nat) (w_ : Nat) (i_ : Int32) (v : Int32) (sz : Nat) (sa : Nat) (hw_ : w_ < 4) (hbad : i_ < 0 ∨ nI 8 ≤ i_) : kz_MetT l zy_K_alter zw_K_alter { frames := 9, cells := 1, slots := 6, locals := 221 } (fun a U => kz_Pc (dC, dI) vwCl [(cI, .int), (cAA, .array .int), (cB, .byte), (cL, .long)] [] [] [.ref h, .int (nI (w_)), .int i_, .int v] [] [] sz a U ∧ kz_PI sa U) "java/lang/IndexOutOfBoundsException" 1 6 := by
  refine kz_metT (y := zy_K_alter) (ws := zw_K_alter) (av := [.ref h, .int (nI (w_)), .int i_, .int v]) (sz := sz) (PX := kz_PI sa) (cc := zc_K_alter) (maxL := 5) (ret := some .int) (by decide) rfl (Nat.le_of_ble_eq_true rfl) ?_
  intro p e s m below meth c A ls F hA hAn hdy hK hro hZ hN hem hPX hl
  obtain ⟨hx, hb, hml, hr, hown, hlocks, hts, hnm⟩ := id F
  have hl : lv_has ls 5 [(0, .ref h), (1, .int (nI (w_))), (2, .int i_), (3, .int v)] := hl
  refine lv_iload_n hx hb zd_K_alter_0 rfl (lv_at hl 1 rfl) ?_
  refine lv_iconst (v := (nI (4))) hx hb zd_K_alter_1 (by decide) ?_
  refine kz_callv (wk := []) (va_runS (As := [.int (nI (w_)), .int (nI (4))]) (rest := []) ⟨hx, hb, hml, hown, hts⟩ (c_K_needIndex l dC dI cI cAA cB cL w_ 4 _ (by first | omega | assumption) (by first | omega | assumption)) (va_cwS 2 hts (kz_g (kz_mc mw_372 (kz_mc mw_373 (kz_mc mw_39 kz_mn))) mw_374) rfl rfl rfl (by decide +kernel) ⟨Nat.le_of_ble_eq_true rfl, Nat.le_of_ble_eq_true rfl⟩) (kz_preS hdy hA hK hro hZ hN [] (by decide) rfl [] rfl (by decide) [0, 1, 2, 3] rfl (fun _ h => by cases h) (fun _ h => by cases h) rfl) rfl rfl hl.1 rfl (lv_room (Nat.le_of_ble_eq_true rfl)) zd_K_alter_2 ⟨Nat.le_of_ble_eq_true rfl, Nat.le_of_ble_eq_true rfl⟩) hdy hA [] [] rfl rfl (by decide) (by decide) (fun u H locs hw hdy => ?_)
  have hdy : kz_dy (dC, dI) vwCl A s.heap H locs [] := hdy.sub [] (by decide) rfl
  refine lv_iload_n hx hb zd_K_alter_5 rfl (lv_at hl 2 rfl) ?_
  refine lv_bipush (v := (nI (8))) hx hb zd_K_alter_6 (by decide) ?_
  exact kz_outS (As := [.int i_, .int (nI (8))]) (rest := []) ⟨hx, hb, hml, hown, hts⟩ (c_P_needIndex l hl9 dC dI cI cAA cB cL i_ (nI (8)) _ sa (hbad)) (va_cwS 2 hts (kz_g (kz_mc mw_372 (kz_mc mw_373 (kz_mc mw_39 kz_mn))) mw_374) rfl rfl rfl (by decide +kernel) ⟨Nat.le_of_ble_eq_true rfl, Nat.le_of_ble_eq_true rfl⟩) (kz_preTS (fun _ _ h => kz_PI.old h) hPX (kz_preS (As := [.int i_, .int (nI (8))]) hdy hA hK hro hZ hN [] (by decide) rfl [] rfl (by decide) [0, 1, 2, 3] rfl (fun _ h => by cases h) (fun _ h => by cases h) rfl) hdy.2.2 hAn) rfl hl.1 (Nat.le_of_ble_eq_true rfl) zd_K_alter_8 ⟨Nat.le_of_ble_eq_true rfl, Nat.le_of_ble_eq_true rfl⟩ hdy.2.2 hAn hem hlocks (Nat.le_of_ble_eq_true rfl) (Nat.le_of_ble_eq_true rfl)

set_option maxHeartbeats 4000000 in
set_option maxRecDepth 100000 in
/-- KeyMeeting.sent(II)I throws java/lang/IndexOutOfBoundsException -/
theorem c_P_sent1 (l : Launch) (hl9 : l.stackTraces = false) (dC : Nat → ClassId) (dI : Nat → Nat → Nat) (cI cAA cB cL : ClassId) (h : Nat) (w_ : Int32) (i_ : Int32) (sz : Nat) (sa : Nat) (hbad : w_ < 0 ∨ nI 4 ≤ w_) : kz_MetT l zy_K_sent zw_K_sent { frames := 9, cells := 1, slots := 6, locals := 221 } (fun a U => kz_Pc (dC, dI) vwCl [(cI, .int), (cAA, .array .int), (cB, .byte), (cL, .long)] [] [] [.ref h, .int w_, .int i_] [] [] sz a U ∧ kz_PI sa U) "java/lang/IndexOutOfBoundsException" 1 6 := by
  refine kz_metT (y := zy_K_sent) (ws := zw_K_sent) (av := [.ref h, .int w_, .int i_]) (sz := sz) (PX := kz_PI sa) (cc := zc_K_sent) (maxL := 3) (ret := some .int) (by decide) rfl (Nat.le_of_ble_eq_true rfl) ?_
  intro p e s m below meth c A ls F hA hAn hdy hK hro hZ hN hem hPX hl
  obtain ⟨hx, hb, hml, hr, hown, hlocks, hts, hnm⟩ := id F
  have hl : lv_has ls 3 [(0, .ref h), (1, .int w_), (2, .int i_)] := hl
  refine lv_iload_n hx hb zd_K_sent_0 rfl (lv_at hl 1 rfl) ?_
  refine lv_iconst (v := (nI (4))) hx hb zd_K_sent_1 (by decide) ?_
  exact kz_outS (As := [.int w_, .int (nI (4))]) (rest := []) ⟨hx, hb, hml, hown, hts⟩ (c_P_needIndex l hl9 dC dI cI cAA cB cL w_ (nI (4)) _ sa (hbad)) (va_cwS 2 hts (kz_g (kz_mc mw_372 (kz_mc mw_373 (kz_mc mw_39 kz_mn))) mw_374) rfl rfl rfl (by decide +kernel) ⟨Nat.le_of_ble_eq_true rfl, Nat.le_of_ble_eq_true rfl⟩) (kz_preTS (fun _ _ h => kz_PI.old h) hPX (kz_preS (As := [.int w_, .int (nI (4))]) hdy hA hK hro hZ hN [] (by decide) rfl [] rfl (by decide) [0, 1, 2, 3] rfl (fun _ h => by cases h) (fun _ h => by cases h) rfl) hdy.2.2 hAn) rfl hl.1 (Nat.le_of_ble_eq_true rfl) zd_K_sent_2 ⟨Nat.le_of_ble_eq_true rfl, Nat.le_of_ble_eq_true rfl⟩ hdy.2.2 hAn hem hlocks (Nat.le_of_ble_eq_true rfl) (Nat.le_of_ble_eq_true rfl)

set_option maxHeartbeats 4000000 in
set_option maxRecDepth 100000 in
/-- KeyMeeting.sent(II)I throws java/lang/IndexOutOfBoundsException -/
theorem c_P_sent2 (l : Launch) (hl9 : l.stackTraces = false) (dC : Nat → ClassId) (dI : Nat → Nat → Nat) (cI cAA cB cL : ClassId) (h : Nat) (w_ : Nat) (i_ : Int32) (sz : Nat) (sa : Nat) (hw_ : w_ < 4) (hbad : i_ < 0 ∨ nI 8 ≤ i_) : kz_MetT l zy_K_sent zw_K_sent { frames := 9, cells := 1, slots := 6, locals := 221 } (fun a U => kz_Pc (dC, dI) vwCl [(cI, .int), (cAA, .array .int), (cB, .byte), (cL, .long)] [] [] [.ref h, .int (nI (w_)), .int i_] [] [] sz a U ∧ kz_PI sa U) "java/lang/IndexOutOfBoundsException" 1 6 := by
  refine kz_metT (y := zy_K_sent) (ws := zw_K_sent) (av := [.ref h, .int (nI (w_)), .int i_]) (sz := sz) (PX := kz_PI sa) (cc := zc_K_sent) (maxL := 3) (ret := some .int) (by decide) rfl (Nat.le_of_ble_eq_true rfl) ?_
  intro p e s m below meth c A ls F hA hAn hdy hK hro hZ hN hem hPX hl
  obtain ⟨hx, hb, hml, hr, hown, hlocks, hts, hnm⟩ := id F
  have hl : lv_has ls 3 [(0, .ref h), (1, .int (nI (w_))), (2, .int i_)] := hl
  refine lv_iload_n hx hb zd_K_sent_0 rfl (lv_at hl 1 rfl) ?_
  refine lv_iconst (v := (nI (4))) hx hb zd_K_sent_1 (by decide) ?_
  refine kz_callv (wk := []) (va_runS (As := [.int (nI (w_)), .int (nI (4))]) (rest := []) ⟨hx, hb, hml, hown, hts⟩ (c_K_needIndex l dC dI cI cAA cB cL w_ 4 _ (by first | omega | assumption) (by first | omega | assumption)) (va_cwS 2 hts (kz_g (kz_mc mw_372 (kz_mc mw_373 (kz_mc mw_39 kz_mn))) mw_374) rfl rfl rfl (by decide +kernel) ⟨Nat.le_of_ble_eq_true rfl, Nat.le_of_ble_eq_true rfl⟩) (kz_preS hdy hA hK hro hZ hN [] (by decide) rfl [] rfl (by decide) [0, 1, 2, 3] rfl (fun _ h => by cases h) (fun _ h => by cases h) rfl) rfl rfl hl.1 rfl (lv_room (Nat.le_of_ble_eq_true rfl)) zd_K_sent_2 ⟨Nat.le_of_ble_eq_true rfl, Nat.le_of_ble_eq_true rfl⟩) hdy hA [] [] rfl rfl (by decide) (by decide) (fun u H locs hw hdy => ?_)
  have hdy : kz_dy (dC, dI) vwCl A s.heap H locs [] := hdy.sub [] (by decide) rfl
  refine lv_iload_n hx hb zd_K_sent_5 rfl (lv_at hl 2 rfl) ?_
  refine lv_bipush (v := (nI (8))) hx hb zd_K_sent_6 (by decide) ?_
  exact kz_outS (As := [.int i_, .int (nI (8))]) (rest := []) ⟨hx, hb, hml, hown, hts⟩ (c_P_needIndex l hl9 dC dI cI cAA cB cL i_ (nI (8)) _ sa (hbad)) (va_cwS 2 hts (kz_g (kz_mc mw_372 (kz_mc mw_373 (kz_mc mw_39 kz_mn))) mw_374) rfl rfl rfl (by decide +kernel) ⟨Nat.le_of_ble_eq_true rfl, Nat.le_of_ble_eq_true rfl⟩) (kz_preTS (fun _ _ h => kz_PI.old h) hPX (kz_preS (As := [.int i_, .int (nI (8))]) hdy hA hK hro hZ hN [] (by decide) rfl [] rfl (by decide) [0, 1, 2, 3] rfl (fun _ h => by cases h) (fun _ h => by cases h) rfl) hdy.2.2 hAn) rfl hl.1 (Nat.le_of_ble_eq_true rfl) zd_K_sent_8 ⟨Nat.le_of_ble_eq_true rfl, Nat.le_of_ble_eq_true rfl⟩ hdy.2.2 hAn hem hlocks (Nat.le_of_ble_eq_true rfl) (Nat.le_of_ble_eq_true rfl)

set_option maxHeartbeats 4000000 in
set_option maxRecDepth 100000 in
/-- KeyMeeting.key(II)I throws java/lang/IndexOutOfBoundsException -/
theorem c_P_key1 (l : Launch) (hl9 : l.stackTraces = false) (dC : Nat → ClassId) (dI : Nat → Nat → Nat) (cI cAA cB cL : ClassId) (h : Nat) (w_ : Int32) (i_ : Int32) (sz : Nat) (sa : Nat) (hbad : w_ < 0 ∨ nI 2 ≤ w_) : kz_MetT l zy_K_key zw_K_key { frames := 9, cells := 1, slots := 6, locals := 221 } (fun a U => kz_Pc (dC, dI) vwCl [(cI, .int), (cAA, .array .int), (cB, .byte), (cL, .long)] [] [] [.ref h, .int w_, .int i_] [] [] sz a U ∧ kz_PI sa U) "java/lang/IndexOutOfBoundsException" 1 6 := by
  refine kz_metT (y := zy_K_key) (ws := zw_K_key) (av := [.ref h, .int w_, .int i_]) (sz := sz) (PX := kz_PI sa) (cc := zc_K_key) (maxL := 3) (ret := some .int) (by decide) rfl (Nat.le_of_ble_eq_true rfl) ?_
  intro p e s m below meth c A ls F hA hAn hdy hK hro hZ hN hem hPX hl
  obtain ⟨hx, hb, hml, hr, hown, hlocks, hts, hnm⟩ := id F
  have hl : lv_has ls 3 [(0, .ref h), (1, .int w_), (2, .int i_)] := hl
  refine lv_iload_n hx hb zd_K_key_0 rfl (lv_at hl 1 rfl) ?_
  refine lv_iconst (v := (nI (2))) hx hb zd_K_key_1 (by decide) ?_
  exact kz_outS (As := [.int w_, .int (nI (2))]) (rest := []) ⟨hx, hb, hml, hown, hts⟩ (c_P_needIndex l hl9 dC dI cI cAA cB cL w_ (nI (2)) _ sa (hbad)) (va_cwS 2 hts (kz_g (kz_mc mw_372 (kz_mc mw_373 (kz_mc mw_39 kz_mn))) mw_374) rfl rfl rfl (by decide +kernel) ⟨Nat.le_of_ble_eq_true rfl, Nat.le_of_ble_eq_true rfl⟩) (kz_preTS (fun _ _ h => kz_PI.old h) hPX (kz_preS (As := [.int w_, .int (nI (2))]) hdy hA hK hro hZ hN [] (by decide) rfl [] rfl (by decide) [0, 1, 2, 3] rfl (fun _ h => by cases h) (fun _ h => by cases h) rfl) hdy.2.2 hAn) rfl hl.1 (Nat.le_of_ble_eq_true rfl) zd_K_key_2 ⟨Nat.le_of_ble_eq_true rfl, Nat.le_of_ble_eq_true rfl⟩ hdy.2.2 hAn hem hlocks (Nat.le_of_ble_eq_true rfl) (Nat.le_of_ble_eq_true rfl)

set_option maxHeartbeats 4000000 in
set_option maxRecDepth 100000 in
/-- KeyMeeting.key(II)I throws java/lang/IndexOutOfBoundsException -/
theorem c_P_key2 (l : Launch) (hl9 : l.stackTraces = false) (dC : Nat → ClassId) (dI : Nat → Nat → Nat) (cI cAA cB cL : ClassId) (h : Nat) (w_ : Nat) (i_ : Int32) (sz : Nat) (sa : Nat) (hw_ : w_ < 2) (hbad : i_ < 0 ∨ nI 16 ≤ i_) : kz_MetT l zy_K_key zw_K_key { frames := 9, cells := 1, slots := 6, locals := 221 } (fun a U => kz_Pc (dC, dI) vwCl [(cI, .int), (cAA, .array .int), (cB, .byte), (cL, .long)] [] [] [.ref h, .int (nI (w_)), .int i_] [] [] sz a U ∧ kz_PI sa U) "java/lang/IndexOutOfBoundsException" 1 6 := by
  refine kz_metT (y := zy_K_key) (ws := zw_K_key) (av := [.ref h, .int (nI (w_)), .int i_]) (sz := sz) (PX := kz_PI sa) (cc := zc_K_key) (maxL := 3) (ret := some .int) (by decide) rfl (Nat.le_of_ble_eq_true rfl) ?_
  intro p e s m below meth c A ls F hA hAn hdy hK hro hZ hN hem hPX hl
  obtain ⟨hx, hb, hml, hr, hown, hlocks, hts, hnm⟩ := id F
  have hl : lv_has ls 3 [(0, .ref h), (1, .int (nI (w_))), (2, .int i_)] := hl
  refine lv_iload_n hx hb zd_K_key_0 rfl (lv_at hl 1 rfl) ?_
  refine lv_iconst (v := (nI (2))) hx hb zd_K_key_1 (by decide) ?_
  refine kz_callv (wk := []) (va_runS (As := [.int (nI (w_)), .int (nI (2))]) (rest := []) ⟨hx, hb, hml, hown, hts⟩ (c_K_needIndex l dC dI cI cAA cB cL w_ 2 _ (by first | omega | assumption) (by first | omega | assumption)) (va_cwS 2 hts (kz_g (kz_mc mw_372 (kz_mc mw_373 (kz_mc mw_39 kz_mn))) mw_374) rfl rfl rfl (by decide +kernel) ⟨Nat.le_of_ble_eq_true rfl, Nat.le_of_ble_eq_true rfl⟩) (kz_preS hdy hA hK hro hZ hN [] (by decide) rfl [] rfl (by decide) [0, 1, 2, 3] rfl (fun _ h => by cases h) (fun _ h => by cases h) rfl) rfl rfl hl.1 rfl (lv_room (Nat.le_of_ble_eq_true rfl)) zd_K_key_2 ⟨Nat.le_of_ble_eq_true rfl, Nat.le_of_ble_eq_true rfl⟩) hdy hA [] [] rfl rfl (by decide) (by decide) (fun u H locs hw hdy => ?_)
  have hdy : kz_dy (dC, dI) vwCl A s.heap H locs [] := hdy.sub [] (by decide) rfl
  refine lv_iload_n hx hb zd_K_key_5 rfl (lv_at hl 2 rfl) ?_
  refine lv_bipush (v := (nI (16))) hx hb zd_K_key_6 (by decide) ?_
  exact kz_outS (As := [.int i_, .int (nI (16))]) (rest := []) ⟨hx, hb, hml, hown, hts⟩ (c_P_needIndex l hl9 dC dI cI cAA cB cL i_ (nI (16)) _ sa (hbad)) (va_cwS 2 hts (kz_g (kz_mc mw_372 (kz_mc mw_373 (kz_mc mw_39 kz_mn))) mw_374) rfl rfl rfl (by decide +kernel) ⟨Nat.le_of_ble_eq_true rfl, Nat.le_of_ble_eq_true rfl⟩) (kz_preTS (fun _ _ h => kz_PI.old h) hPX (kz_preS (As := [.int i_, .int (nI (16))]) hdy hA hK hro hZ hN [] (by decide) rfl [] rfl (by decide) [0, 1, 2, 3] rfl (fun _ h => by cases h) (fun _ h => by cases h) rfl) hdy.2.2 hAn) rfl hl.1 (Nat.le_of_ble_eq_true rfl) zd_K_key_8 ⟨Nat.le_of_ble_eq_true rfl, Nat.le_of_ble_eq_true rfl⟩ hdy.2.2 hAn hem hlocks (Nat.le_of_ble_eq_true rfl) (Nat.le_of_ble_eq_true rfl)

set_option maxHeartbeats 4000000 in
set_option maxRecDepth 100000 in
/-- KeyMeeting.small(IJ)V throws java/lang/IndexOutOfBoundsException -/
theorem c_P_small1 (l : Launch) (hl9 : l.stackTraces = false) (dC : Nat → ClassId) (dI : Nat → Nat → Nat) (cI cAA cB cL : ClassId) (h : Nat) (w_ : Int32) (v : Int64) (sz : Nat) (sa : Nat) (hbad : w_ < 0 ∨ nI 7 ≤ w_) : kz_MetT l zy_K_small zw_K_small { frames := 9, cells := 1, slots := 6, locals := 221 } (fun a U => kz_Pc (dC, dI) vwCl [(cI, .int), (cAA, .array .int), (cB, .byte), (cL, .long)] [] [] [.ref h, .int w_, .long v] [] [] sz a U ∧ kz_PI sa U) "java/lang/IndexOutOfBoundsException" 1 6 := by
  refine kz_metT (y := zy_K_small) (ws := zw_K_small) (av := [.ref h, .int w_, .long v]) (sz := sz) (PX := kz_PI sa) (cc := zc_K_small) (maxL := 4) (ret := none) (by decide) rfl (Nat.le_of_ble_eq_true rfl) ?_
  intro p e s m below meth c A ls F hA hAn hdy hK hro hZ hN hem hPX hl
  obtain ⟨hx, hb, hml, hr, hown, hlocks, hts, hnm⟩ := id F
  have hl : lv_has ls 4 [(0, .ref h), (1, .int w_), (2, .long v)] := hl
  refine lv_iload_n hx hb zd_K_small_0 rfl (lv_at hl 1 rfl) ?_
  refine lv_bipush (v := (nI (7))) hx hb zd_K_small_1 (by decide) ?_
  exact kz_outS (As := [.int w_, .int (nI (7))]) (rest := []) ⟨hx, hb, hml, hown, hts⟩ (c_P_needIndex l hl9 dC dI cI cAA cB cL w_ (nI (7)) _ sa (hbad)) (va_cwS 2 hts (kz_g (kz_mc mw_372 (kz_mc mw_373 (kz_mc mw_39 kz_mn))) mw_374) rfl rfl rfl (by decide +kernel) ⟨Nat.le_of_ble_eq_true rfl, Nat.le_of_ble_eq_true rfl⟩) (kz_preTS (fun _ _ h => kz_PI.old h) hPX (kz_preS (As := [.int w_, .int (nI (7))]) hdy hA hK hro hZ hN [] (by decide) rfl [] rfl (by decide) [0, 1, 2, 3] rfl (fun _ h => by cases h) (fun _ h => by cases h) rfl) hdy.2.2 hAn) rfl hl.1 (Nat.le_of_ble_eq_true rfl) zd_K_small_3 ⟨Nat.le_of_ble_eq_true rfl, Nat.le_of_ble_eq_true rfl⟩ hdy.2.2 hAn hem hlocks (Nat.le_of_ble_eq_true rfl) (Nat.le_of_ble_eq_true rfl)

set_option maxHeartbeats 4000000 in
set_option maxRecDepth 100000 in
/-- KeyMeeting.secret(I)I throws java/lang/IndexOutOfBoundsException -/
theorem c_P_secret1 (l : Launch) (hl9 : l.stackTraces = false) (dC : Nat → ClassId) (dI : Nat → Nat → Nat) (cI cAA cB cL : ClassId) (h : Nat) (i_ : Int32) (sz : Nat) (sa : Nat) (hbad : i_ < 0 ∨ nI 8 ≤ i_) : kz_MetT l zy_K_secret zw_K_secret { frames := 9, cells := 1, slots := 6, locals := 221 } (fun a U => kz_Pc (dC, dI) vwCl [(cI, .int), (cAA, .array .int), (cB, .byte), (cL, .long)] [] [] [.ref h, .int i_] [] [] sz a U ∧ kz_PI sa U) "java/lang/IndexOutOfBoundsException" 1 6 := by
  refine kz_metT (y := zy_K_secret) (ws := zw_K_secret) (av := [.ref h, .int i_]) (sz := sz) (PX := kz_PI sa) (cc := zc_K_secret) (maxL := 2) (ret := some .int) (by decide) rfl (Nat.le_of_ble_eq_true rfl) ?_
  intro p e s m below meth c A ls F hA hAn hdy hK hro hZ hN hem hPX hl
  obtain ⟨hx, hb, hml, hr, hown, hlocks, hts, hnm⟩ := id F
  have hl : lv_has ls 2 [(0, .ref h), (1, .int i_)] := hl
  refine lv_iload_n hx hb zd_K_secret_0 rfl (lv_at hl 1 rfl) ?_
  refine lv_bipush (v := (nI (8))) hx hb zd_K_secret_1 (by decide) ?_
  exact kz_outS (As := [.int i_, .int (nI (8))]) (rest := []) ⟨hx, hb, hml, hown, hts⟩ (c_P_needIndex l hl9 dC dI cI cAA cB cL i_ (nI (8)) _ sa (hbad)) (va_cwS 2 hts (kz_g (kz_mc mw_372 (kz_mc mw_373 (kz_mc mw_39 kz_mn))) mw_374) rfl rfl rfl (by decide +kernel) ⟨Nat.le_of_ble_eq_true rfl, Nat.le_of_ble_eq_true rfl⟩) (kz_preTS (fun _ _ h => kz_PI.old h) hPX (kz_preS (As := [.int i_, .int (nI (8))]) hdy hA hK hro hZ hN [] (by decide) rfl [] rfl (by decide) [0, 1, 2, 3] rfl (fun _ h => by cases h) (fun _ h => by cases h) rfl) hdy.2.2 hAn) rfl hl.1 (Nat.le_of_ble_eq_true rfl) zd_K_secret_3 ⟨Nat.le_of_ble_eq_true rfl, Nat.le_of_ble_eq_true rfl⟩ hdy.2.2 hAn hem hlocks (Nat.le_of_ble_eq_true rfl) (Nat.le_of_ble_eq_true rfl)

set_option maxHeartbeats 4000000 in
set_option maxRecDepth 100000 in
/-- KeyMeeting.small(IJ)V throws java/lang/IllegalArgumentException -/
theorem c_P_small2 (l : Launch) (hl9 : l.stackTraces = false) (dC : Nat → ClassId) (dI : Nat → Nat → Nat) (cI cAA cB cL : ClassId) (h : Nat) (w_ : Nat) (v : Int64) (sz : Nat) (sa : Nat) (hw_ : w_ < 7) (hv_ : v < 0) : kz_MetT l zy_K_small zw_K_small { frames := 9, cells := 1, slots := 6, locals := 221 } (fun a U => kz_Pc (dC, dI) vwCl [(cI, .int), (cAA, .array .int), (cB, .byte), (cL, .long)] [] [] [.ref h, .int (nI (w_)), .long v] [] [] sz a U ∧ kz_PA sa U) "java/lang/IllegalArgumentException" 1 6 := by
  refine kz_metT (y := zy_K_small) (ws := zw_K_small) (av := [.ref h, .int (nI (w_)), .long v]) (sz := sz) (PX := kz_PA sa) (cc := zc_K_small) (maxL := 4) (ret := none) (by decide) rfl (Nat.le_of_ble_eq_true rfl) ?_
  intro p e s m below meth c A ls F hA hAn hdy hK hro hZ hN hem hPX hl
  obtain ⟨hx, hb, hml, hr, hown, hlocks, hts, hnm⟩ := id F
  have hl : lv_has ls 4 [(0, .ref h), (1, .int (nI (w_))), (2, .long v)] := hl
  refine lv_iload_n hx hb zd_K_small_0 rfl (lv_at hl 1 rfl) ?_
  refine lv_bipush (v := (nI (7))) hx hb zd_K_small_1 (by decide) ?_
  refine kz_callv (wk := []) (va_runS (As := [.int (nI (w_)), .int (nI (7))]) (rest := []) ⟨hx, hb, hml, hown, hts⟩ (c_K_needIndex l dC dI cI cAA cB cL w_ 7 _ (by first | omega | assumption) (by first | omega | assumption)) (va_cwS 2 hts (kz_g (kz_mc mw_372 (kz_mc mw_373 (kz_mc mw_39 kz_mn))) mw_374) rfl rfl rfl (by decide +kernel) ⟨Nat.le_of_ble_eq_true rfl, Nat.le_of_ble_eq_true rfl⟩) (kz_preS hdy hA hK hro hZ hN [] (by decide) rfl [] rfl (by decide) [0, 1, 2, 3] rfl (fun _ h => by cases h) (fun _ h => by cases h) rfl) rfl rfl hl.1 rfl (lv_room (Nat.le_of_ble_eq_true rfl)) zd_K_small_3 ⟨Nat.le_of_ble_eq_true rfl, Nat.le_of_ble_eq_true rfl⟩) hdy hA [] [] rfl rfl (by decide) (by decide) (fun u H locs hw hdy => ?_)
  have hdy : kz_dy (dC, dI) vwCl A s.heap H locs [] := hdy.sub [] (by decide) rfl
  refine lv_lload_n hx hb zd_K_small_6 rfl (lv_at hl 2 rfl) ?_
  refine lv_lconst (v := 0) hx hb zd_K_small_7 (by decide) ?_
  refine kz_lge (tgt := 22) hx hb zd_K_small_8 zd_K_small_9 (by decide) (fun hc9 => ?_) (fun hc9 => ?_)
  · exact absurd hv_ hc9
  · exact kz_throwS (names := kz_names) hx hb hl9 hown (by decide +kernel) (by decide +kernel) (hts _ (kz_c mw_451)) (hts _ (kz_c mw_48)) hPX.2 hPX.1 hdy.2.2 hAn (hl.1.trans hml.symm) zd_K_small_12 zd_K_small_15 zd_K_small_16 zd_K_small_18 zd_K_small_21 hem hlocks (Nat.le_of_ble_eq_true rfl) (Nat.le_of_ble_eq_true rfl) (Nat.le_of_ble_eq_true rfl) (Nat.le_of_ble_eq_true rfl) (Nat.le_of_ble_eq_true rfl) (Nat.le_of_ble_eq_true rfl)

set_option maxHeartbeats 4000000 in
set_option maxRecDepth 100000 in
/-- KeyMeeting.key(II)I throws java/lang/IllegalStateException -/
theorem c_P_key3 (l : Launch) (hl9 : l.stackTraces = false) (dC : Nat → ClassId) (dI : Nat → Nat → Nat) (cI cAA cB cL : ClassId) (h to wy off cm hs ks ah ar ao ho mo dg : Nat) (stg : Int32) (w_ : Nat) (i_ : Nat) (sz : Nat) (sa : Nat) (hw_ : w_ < 2) (hi_ : i_ < 16) (hst : ¬ stg = nI 3) : kz_MetT l zy_K_key zw_K_key { frames := 9, cells := 1, slots := 6, locals := 221 } (fun a U => kz_Pc (dC, dI) vwCl [(cI, .int), (cAA, .array .int), (cB, .byte), (cL, .long)] [] [] [.ref h, .int (nI (w_)), .int (nI (i_))] [] [(h, .inr (0, [.ref to, .ref wy, .ref off, .ref cm, .ref hs, .ref ks, .ref ah, .ref ar, .ref ao, .ref ho, .ref mo, .ref dg, .int stg]))] sz a U ∧ kz_PS sa U) "java/lang/IllegalStateException" 1 6 := by
  refine kz_metT (y := zy_K_key) (ws := zw_K_key) (av := [.ref h, .int (nI (w_)), .int (nI (i_))]) (sz := sz) (PX := kz_PS sa) (cc := zc_K_key) (maxL := 3) (ret := some .int) (by decide) rfl (Nat.le_of_ble_eq_true rfl) ?_
  intro p e s m below meth c A ls F hA hAn hdy hK hro hZ hN hem hPX hl
  obtain ⟨hx, hb, hml, hr, hown, hlocks, hts, hnm⟩ := id F
  have hl : lv_has ls 3 [(0, .ref h), (1, .int (nI (w_))), (2, .int (nI (i_)))] := hl
  refine lv_iload_n hx hb zd_K_key_0 rfl (lv_at hl 1 rfl) ?_
  refine lv_iconst (v := (nI (2))) hx hb zd_K_key_1 (by decide) ?_
  refine kz_callv (wk := []) (va_runS (As := [.int (nI (w_)), .int (nI (2))]) (rest := []) ⟨hx, hb, hml, hown, hts⟩ (c_K_needIndex l dC dI cI cAA cB cL w_ 2 _ (by first | omega | assumption) (by first | omega | assumption)) (va_cwS 2 hts (kz_g (kz_mc mw_372 (kz_mc mw_373 (kz_mc mw_39 kz_mn))) mw_374) rfl rfl rfl (by decide +kernel) ⟨Nat.le_of_ble_eq_true rfl, Nat.le_of_ble_eq_true rfl⟩) (kz_preS hdy hA hK hro hZ hN [] (by decide) rfl [] rfl (by decide) [0, 1, 2, 3] rfl (fun _ h => by cases h) (fun _ h => by cases h) rfl) rfl rfl hl.1 rfl (lv_room (Nat.le_of_ble_eq_true rfl)) zd_K_key_2 ⟨Nat.le_of_ble_eq_true rfl, Nat.le_of_ble_eq_true rfl⟩) hdy hA [] [] rfl rfl (by decide) (by decide) (fun u H locs hw hdy => ?_)
  have hdy : kz_dy (dC, dI) vwCl A s.heap H locs [] := hdy.sub [] (by decide) rfl
  refine lv_iload_n hx hb zd_K_key_5 rfl (lv_at hl 2 rfl) ?_
  refine lv_bipush (v := (nI (16))) hx hb zd_K_key_6 (by decide) ?_
  refine kz_callv (wk := []) (va_runS (As := [.int (nI (i_)), .int (nI (16))]) (rest := []) ⟨hx, hb, hml, hown, hts⟩ (c_K_needIndex l dC dI cI cAA cB cL i_ 16 _ (by first | omega | assumption) (by first | omega | assumption)) (va_cwS 2 hts (kz_g (kz_mc mw_372 (kz_mc mw_373 (kz_mc mw_39 kz_mn))) mw_374) rfl rfl rfl (by decide +kernel) ⟨Nat.le_of_ble_eq_true rfl, Nat.le_of_ble_eq_true rfl⟩) (kz_preS hdy hA hK hro hZ hN [] (by decide) rfl [] rfl (by decide) [0, 1, 2, 3] rfl (fun _ h => by cases h) (fun _ h => by cases h) rfl) rfl rfl hl.1 rfl (lv_room (Nat.le_of_ble_eq_true rfl)) zd_K_key_8 ⟨Nat.le_of_ble_eq_true rfl, Nat.le_of_ble_eq_true rfl⟩) hdy hA [] [] rfl rfl (by decide) (by decide) (fun u H locs hw hdy => ?_)
  have hdy : kz_dy (dC, dI) vwCl A s.heap H locs [] := hdy.sub [] (by decide) rfl
  refine lv_aload_n hx hb zd_K_key_11 rfl (lv_at hl 0 rfl) ?_
  refine va_get (D := (dC, dI)) (ci := 0) (v := .int stg) (C := zR_K) (T := zT_K) (N := 13) hx hb hts (fun w h => kz_c (zi_K w h)) hown hK (hro.ob hdy.2.2 (k := 0) rfl) 0 rfl rfl 12 (by decide) (hts _ (kz_c mw_141)) (fun _ h9 => h9) rfl zd_K_key_12 ?_
  refine lv_iconst (v := (nI (3))) hx hb zd_K_key_15 (by decide) ?_
  refine lv_icmp_eq (tgt := 29) hx hb zd_K_key_16 (by decide) (fun hc16 => ?_) (fun hc16 => ?_)
  · exact absurd hc16 hst
  · exact kz_throwS (names := kz_names) hx hb hl9 hown (by decide +kernel) (by decide +kernel) (hts _ (kz_c mw_490)) (hts _ (kz_c mw_52)) hPX.2 hPX.1 hdy.2.2 hAn (hl.1.trans hml.symm) zd_K_key_19 zd_K_key_22 zd_K_key_23 zd_K_key_25 zd_K_key_28 hem hlocks (Nat.le_of_ble_eq_true rfl) (Nat.le_of_ble_eq_true rfl) (Nat.le_of_ble_eq_true rfl) (Nat.le_of_ble_eq_true rfl) (Nat.le_of_ble_eq_true rfl) (Nat.le_of_ble_eq_true rfl)

