set_option maxHeartbeats 4000000 in
set_option maxRecDepth 100000 in
/-- KeyMeeting$Words.hasBit([II)Z -/
theorem c_E_hasBit (l : Launch) (dC : Nat → ClassId) (dI : Nat → Nat → Nat) (cI cAA cB cL : ClassId) (a : Nat) (ga : Nat → Nat) (b : Nat) (sz : Nat) (hd_ga : ∀ j, ga j < 4294967296) (hb8 : b < 256) : Met l zy_W_hasBit zw_W_hasBit { frames := 0, cells := 0, slots := 0, locals := 0 } (kz_Pc (dC, dI) vwCl [(cI, .int), (cAA, .array .int), (cB, .byte), (cL, .long)] [] [] [.ref a, .int (nI (b))] [] [(a, .inl (cI, 8, .inl (kz_dg ga)))] sz) (va_Qi (fun (r : Int32) (u : Unit) => (r = 0 ∨ r = 1) ∧ ((r = 1 ∧ kx_V 8 ga / 2 ^ (255 - b) % 2 = 1) ∨ (r = 0 ∧ kx_V 8 ga / 2 ^ (255 - b) % 2 = 0)) ∧ True) (kz_B (dC, dI) vwCl (va_A [] sz) (fun u : Unit => [])) (va_A [] sz)) 0 0 (va_A [] sz) := by
  refine kz_met (y := zy_W_hasBit) (ws := zw_W_hasBit) (av := [.ref a, .int (nI (b))]) (sz := sz) (Qc := fun A => va_Qi (fun (r : Int32) (u : Unit) => (r = 0 ∨ r = 1) ∧ ((r = 1 ∧ kx_V 8 ga / 2 ^ (255 - b) % 2 = 1) ∨ (r = 0 ∧ kx_V 8 ga / 2 ^ (255 - b) % 2 = 0)) ∧ True) (kz_B (dC, dI) vwCl A (fun u : Unit => [])) A) (cc := zc_W_hasBit) (maxL := 2) (ret := some .boolean) (by decide) rfl (Nat.le_of_ble_eq_true rfl) ?_
  intro p e s m below meth c A ls F hA hdy hK hro hZ hN hl
  obtain ⟨hx, hb, hml, hr, hown, hlocks, hts, hnm⟩ := id F
  have hl : lv_has ls 2 [(0, .ref a), (1, .int (nI (b)))] := hl
  refine lv_aload_n hx hb zd_W_hasBit_0 rfl (lv_at hl 0 rfl) ?_
  refine lv_iload_n hx hb zd_W_hasBit_1 rfl (lv_at hl 1 rfl) ?_
  refine lv_iconst (v := (nI (5))) hx hb zd_W_hasBit_2 (by decide) ?_
  refine lv_iushr (v := nI (b / 32)) hx hb zd_W_hasBit_3 (pk_ushrN (by omega) _ 5 (by decide)) ?_
  refine kz_riald hx hb hK hro hdy.2.2 0 0 rfl rfl (vp_in_nI (by omega) (by omega)) zd_W_hasBit_4 ?_
  refine lv_topi (fun x1 h9 => ?_)
  obtain rfl : x1 = nI (ga (b / 32)) := h9.trans (kz_dgl ga (by omega))
  have hbx1 := hd_ga (b / 32)
  refine lv_iload_n hx hb zd_W_hasBit_5 rfl (lv_at hl 1 rfl) ?_
  refine lv_bipush (v := (nI (31))) hx hb zd_W_hasBit_6 (by decide) ?_
  refine lv_iand hx hb zd_W_hasBit_8 ?_
  refine lv_topi (fun x2 h9 => ?_)
  obtain rfl : x2 = nI (b % 32) := h9.trans (kz_and31 _)
  refine lv_ishl hx hb zd_W_hasBit_9 ?_
  refine lv_if_ge (tgt := 17) hx hb zd_W_hasBit_10 (by decide) (fun hc10 => ?_) (fun hc10 => ?_)
  · refine lv_iconst (v := (nI (0))) hx hb zd_W_hasBit_17 (by decide) ?_
    exact kz_zret F () hdy (by first | exact Or.inl rfl | exact Or.inr rfl | assumption) (⟨by first | exact Or.inl rfl | exact Or.inr rfl | assumption, by exact Or.inr ⟨rfl, by rw [kx_bit hd_ga hb8]; exact kz_hasF (hd_ga _) (by omega) hc10⟩, trivial⟩) zd_W_hasBit_18
  · refine lv_iconst (v := (nI (1))) hx hb zd_W_hasBit_13 (by decide) ?_
    refine lv_goto (tgt := 18) hx hb zd_W_hasBit_14 (by decide) ?_
    exact kz_zret F () hdy (by first | exact Or.inl rfl | exact Or.inr rfl | assumption) (⟨by first | exact Or.inl rfl | exact Or.inr rfl | assumption, by exact Or.inl ⟨rfl, by rw [kx_bit hd_ga hb8]; exact kz_hasT (hd_ga _) (by omega) hc10⟩, trivial⟩) zd_W_hasBit_18

set_option maxHeartbeats 4000000 in
set_option maxRecDepth 100000 in
/-- KeyMeeting$Words.wordOrZero([II)J -/
theorem c_E_wordOrZero (l : Launch) (dC : Nat → ClassId) (dI : Nat → Nat → Nat) (cI cAA cB cL : ClassId) (a : Nat) (ga : Nat → Nat) (v : Int32) (sz : Nat) (hd_ga : ∀ j, ga j < 4294967296) : Met l zy_W_wordOrZero zw_W_wordOrZero { frames := 0, cells := 0, slots := 0, locals := 0 } (kz_Pc (dC, dI) vwCl [(cI, .int), (cAA, .array .int), (cB, .byte), (cL, .long)] [] [] [.ref a, .int v] [] [(a, .inl (cI, 8, .inl (kz_dg ga)))] sz) (va_Ql (fun (r : Int64) (u : Unit) => (∃ b : Nat, (b = kx_wi ga v ∧ b < 4294967296) ∧ r = kz_lz ((b : Nat) : Int)) ∧ True) (kz_B (dC, dI) vwCl (va_A [] sz) (fun u : Unit => [])) (va_A [] sz)) 0 0 (va_A [] sz) := by
  refine kz_met (y := zy_W_wordOrZero) (ws := zw_W_wordOrZero) (av := [.ref a, .int v]) (sz := sz) (Qc := fun A => va_Ql (fun (r : Int64) (u : Unit) => (∃ b : Nat, (b = kx_wi ga v ∧ b < 4294967296) ∧ r = kz_lz ((b : Nat) : Int)) ∧ True) (kz_B (dC, dI) vwCl A (fun u : Unit => [])) A) (cc := zc_W_wordOrZero) (maxL := 2) (ret := some .long) (by decide) rfl (Nat.le_of_ble_eq_true rfl) ?_
  intro p e s m below meth c A ls F hA hdy hK hro hZ hN hl
  obtain ⟨hx, hb, hml, hr, hown, hlocks, hts, hnm⟩ := id F
  have hl : lv_has ls 2 [(0, .ref a), (1, .int v)] := hl
  refine lv_iload_n hx hb zd_W_wordOrZero_0 rfl (lv_at hl 1 rfl) ?_
  refine lv_if_lt (tgt := 21) hx hb zd_W_wordOrZero_1 (by decide) (fun hc1 => ?_) (fun hc1 => ?_)
  · refine lv_lconst (v := 0) hx hb zd_W_wordOrZero_21 (by decide) ?_
    refine lv_topl (fun yl1 h9 => ?_)
    obtain rfl : yl1 = kz_lz (0) := h9.trans (kz_lz_c0)
    exact kz_lret F () hdy (⟨⟨0, by exact ⟨(kx_wi_out (by first | exact Or.inl (by assumption) | exact Or.inr (by assumption))).symm, by decide⟩, rfl⟩, trivial⟩) zd_W_wordOrZero_22
  · refine lv_iload_n hx hb zd_W_wordOrZero_4 rfl (lv_at hl 1 rfl) ?_
    refine lv_bipush (v := (nI (8))) hx hb zd_W_wordOrZero_5 (by decide) ?_
    refine lv_icmp_ge (tgt := 21) hx hb zd_W_wordOrZero_7 (by decide) (fun hc7 => ?_) (fun hc7 => ?_)
    · refine lv_lconst (v := 0) hx hb zd_W_wordOrZero_21 (by decide) ?_
      refine lv_topl (fun yl2 h9 => ?_)
      obtain rfl : yl2 = kz_lz (0) := h9.trans (kz_lz_c0)
      exact kz_lret F () hdy (⟨⟨0, by exact ⟨(kx_wi_out (by first | exact Or.inl (by assumption) | exact Or.inr (by assumption))).symm, by decide⟩, rfl⟩, trivial⟩) zd_W_wordOrZero_22
    · refine lv_aload_n hx hb zd_W_wordOrZero_10 rfl (lv_at hl 0 rfl) ?_
      refine lv_iload_n hx hb zd_W_wordOrZero_11 rfl (lv_at hl 1 rfl) ?_
      refine kz_riald hx hb hK hro hdy.2.2 0 0 rfl rfl (kz_in (by assumption) (by assumption) (by decide)) zd_W_wordOrZero_12 ?_
      refine lv_topi (fun x3 h9 => ?_)
      obtain rfl : x3 = nI (ga (v).toNatClampNeg) := h9
      have hbx3 := hd_ga (v).toNatClampNeg
      refine lv_i2l hx hb zd_W_wordOrZero_13 rfl ?_
      refine lv_ldc2 (v := (4294967295)) hx hb hown (hts _ (kz_c mw_180)) zd_W_wordOrZero_14 ?_
      refine lv_topl (fun yl4 h9 => ?_)
      obtain rfl : yl4 = kz_lz (4294967295) := h9.trans (kz_lz_c4294967295)
      refine lv_land hx hb zd_W_wordOrZero_17 ?_
      refine lv_topl (fun yl5 h9 => ?_)
      obtain rfl : yl5 = kz_lz (((ga (v).toNatClampNeg : Nat) : Int)) := h9.trans (kz_maskS (by omega))
      refine lv_goto (tgt := 22) hx hb zd_W_wordOrZero_18 (by decide) ?_
      exact kz_lret F () hdy (⟨⟨ga (v).toNatClampNeg, by exact ⟨(kx_wi_in (by assumption) (by assumption)).symm, by omega⟩, rfl⟩, trivial⟩) zd_W_wordOrZero_22

set_option maxHeartbeats 4000000 in
set_option maxRecDepth 100000 in
/-- KeyMeeting$Words.shiftLeft([II[I)V -/
theorem c_E_shiftLeft (l : Launch) (dC : Nat → ClassId) (dI : Nat → Nat → Nat) (cI cAA cB cL : ClassId) (o a : Nat) (go : Nat → Nat) (ga : Nat → Nat) (sh : Nat) (sz : Nat) (hd_go : ∀ j, go j < 4294967296) (hd_ga : ∀ j, ga j < 4294967296) (hsh : sh ≤ 256) : Met l zy_W_shiftLeft zw_W_shiftLeft { frames := 1, cells := 0, slots := 0, locals := 21 } (kz_Pc (dC, dI) vwCl [(cI, .int), (cAA, .array .int), (cB, .byte), (cL, .long)] [] [] [.ref a, .int (nI (sh)), .ref o] [(o, .inl (cI, 8, .inl (kz_dg go)))] [(a, .inl (cI, 8, .inl (kz_dg ga)))] sz) (va_Qv (fun (u : (Nat → Nat)) => (∀ j, u j < 4294967296) ∧ (∀ i, i < 8 → u i = kx_shl ga (sh / 32) (sh % 32) i) ∧ True) (kz_B (dC, dI) vwCl (va_A [(o, .inl (cI, 8, .inl (kz_dg go)))] sz) (fun u : (Nat → Nat) => [(o, .inl (cI, 8, .inl (kz_dg u)))])) (va_A [(o, .inl (cI, 8, .inl (kz_dg go)))] sz)) 0 0 (va_A [(o, .inl (cI, 8, .inl (kz_dg go)))] sz) := by
  refine kz_met (y := zy_W_shiftLeft) (ws := zw_W_shiftLeft) (av := [.ref a, .int (nI (sh)), .ref o]) (sz := sz) (Qc := fun A => va_Qv (fun (u : (Nat → Nat)) => (∀ j, u j < 4294967296) ∧ (∀ i, i < 8 → u i = kx_shl ga (sh / 32) (sh % 32) i) ∧ True) (kz_B (dC, dI) vwCl A (fun u : (Nat → Nat) => [(o, .inl (cI, 8, .inl (kz_dg u)))])) A) (cc := zc_W_shiftLeft) (maxL := 7) (ret := none) (by decide) rfl (Nat.le_of_ble_eq_true rfl) ?_
  intro p e s m below meth c A ls F hA hdy hK hro hZ hN hl
  obtain ⟨hx, hb, hml, hr, hown, hlocks, hts, hnm⟩ := id F
  have hl : lv_has ls 7 [(0, .ref a), (1, .int (nI (sh))), (2, .ref o)] := hl
  refine lv_iload_n hx hb zd_W_shiftLeft_0 rfl (lv_at hl 1 rfl) ?_
  refine lv_iconst (v := (nI (5))) hx hb zd_W_shiftLeft_1 (by decide) ?_
  refine lv_iushr (v := nI (sh / 32)) hx hb zd_W_shiftLeft_2 (pk_ushrN (by omega) _ 5 (by decide)) ?_
  refine lv_istore_n (lv' := [(3, .int (nI (sh / 32))), (0, .ref a), (1, .int (nI (sh))), (2, .ref o)]) hx hb zd_W_shiftLeft_3 rfl hl (by decide) rfl (fun ls hl => ?_)
  refine lv_iconst (v := (nI (0))) hx hb zd_W_shiftLeft_4 (by decide) ?_
  refine lv_istore (lv' := [(4, .int (nI (0))), (3, .int (nI (sh / 32))), (0, .ref a), (1, .int (nI (sh))), (2, .ref o)]) hx hb zd_W_shiftLeft_5 hl (by decide) rfl (fun ls hl => ?_)
  have lp7 : ∀ (n7 k7 : Nat) (d1 : Nat → Nat) (H : Heap) (locs : List Loc) (ls : Array Slot), k7 ≤ 8 → 8 - k7 < n7 → (∀ j, d1 j < 4294967296) → (∀ i, i < k7 → d1 i = kx_shl ga (sh / 32) (sh % 32) i) → kz_dy (dC, dI) vwCl A s.heap H locs [(o, .inl (cI, 8, .inl (kz_dg d1)))] → lv_has ls 7 [(4, .int (nI (k7))), (3, .int (nI (sh / 32))), (0, .ref a), (1, .int (nI (sh))), (2, .ref o)] → W p l e { frames := 1, cells := 0, slots := 0, locals := 21 } s m ([.ref a, .int (nI (sh)), .ref o] : List Value).toArray below meth c H locs 0 0 (MQ below (va_Qv (fun (u : (Nat → Nat)) => (∀ j, u j < 4294967296) ∧ (∀ i, i < 8 → u i = kx_shl ga (sh / 32) (sh % 32) i) ∧ True) (kz_B (dC, dI) vwCl A (fun u : (Nat → Nat) => [(o, .inl (cI, 8, .inl (kz_dg u)))])) A) ([.ref a, .int (nI (sh)), .ref o] : List Value).toArray s 0 0 A) (F0 m 7 ls []) := by
    intro n7
    induction n7 with
    | zero => intro k7; intros; omega
    | succ n7 ih7 =>
      intro k7 d1 H locs ls hi7 hn7 hd_d1 hSh hdy hl
      refine lv_iload hx hb zd_W_shiftLeft_7 (lv_at hl 0 rfl) ?_
      refine lv_bipush (v := (nI (8))) hx hb zd_W_shiftLeft_9 (by decide) ?_
      refine lv_icmp_ge (tgt := 59) hx hb zd_W_shiftLeft_11 (by decide) (fun hc11 => ?_) (fun hc11 => ?_)
      · have hc11 : 8 ≤ k7 := (nI_leI (by omega) (by omega)).mp hc11
        exact kz_vret F (d1) hdy (⟨hd_d1, by exact fun i hi => hSh i (by omega), trivial⟩) zd_W_shiftLeft_59
      · have hc11 : ¬ 8 ≤ k7 := fun h9 => hc11 ((nI_leI (by omega) (by omega)).mpr h9)
        refine lv_aload_n hx hb zd_W_shiftLeft_14 rfl (lv_at hl 2 rfl) ?_
        refine lv_iload hx hb zd_W_shiftLeft_15 (lv_at hl 0 rfl) ?_
        refine lv_iload_n hx hb zd_W_shiftLeft_17 rfl (lv_at hl 1 rfl) ?_
        refine kz_iadd hx hb zd_W_shiftLeft_18 (nI_add _ _) ?_
        refine kz_calll (wk := [(o, .inl (cI, 8, .inl (kz_dg d1)))]) (va_runS (As := [.ref a, .int (nI (k7 + (sh / 32)))]) (rest := []) ⟨hx, hb, hml, hown, hts⟩ (c_E_wordOrZero l dC dI cI cAA cB cL a ga ((nI (k7 + (sh / 32)))) _ hd_ga) (va_cwS 2 hts (kz_g (kz_mc mw_246 (kz_mc mw_247 (kz_mc mw_50 kz_mn))) mw_248) rfl rfl rfl (by decide +kernel) ⟨Nat.le_of_ble_eq_true rfl, Nat.le_of_ble_eq_true rfl⟩) (kz_preS hdy hA hK hro hZ hN [] (by decide) rfl [(true, 0)] rfl (by decide) [0, 1, 2, 3] rfl (fun _ h => by cases h) (fun _ h => by cases h) rfl) rfl rfl hl.1 rfl (lv_room (Nat.le_of_ble_eq_true rfl)) zd_W_shiftLeft_19 ⟨Nat.le_of_ble_eq_true rfl, Nat.le_of_ble_eq_true rfl⟩) hdy hA [] [0] rfl rfl (by decide) (by decide) (fun r u H locs hw hdy => ?_)
        try dsimp only at hw
        obtain ⟨⟨b2, hb2, rfl⟩, -⟩ := hw
        have hdy : kz_dy (dC, dI) vwCl A s.heap H locs [(o, .inl (cI, 8, .inl (kz_dg d1)))] := hdy.sub [0] (by decide) rfl
        refine lv_bipush (v := (nI (32))) hx hb zd_W_shiftLeft_22 (by decide) ?_
        refine lv_lshl hx hb zd_W_shiftLeft_24 (kz_lz_shl32 (((b2 : Nat) : Int))) ?_
        refine lv_aload_n hx hb zd_W_shiftLeft_25 rfl (lv_at hl 2 rfl) ?_
        refine lv_iload hx hb zd_W_shiftLeft_26 (lv_at hl 0 rfl) ?_
        refine lv_iload_n hx hb zd_W_shiftLeft_28 rfl (lv_at hl 1 rfl) ?_
        refine kz_iadd hx hb zd_W_shiftLeft_29 (nI_add _ _) ?_
        refine lv_iconst (v := (nI (1))) hx hb zd_W_shiftLeft_30 (by decide) ?_
        refine kz_iadd hx hb zd_W_shiftLeft_31 (nI_add _ _) ?_
        refine kz_calll (wk := [(o, .inl (cI, 8, .inl (kz_dg d1)))]) (va_runS (As := [.ref a, .int (nI (k7 + (sh / 32) + 1))]) (rest := [.long (kz_lz ((((b2 : Nat) : Int)) * 4294967296))]) ⟨hx, hb, hml, hown, hts⟩ (c_E_wordOrZero l dC dI cI cAA cB cL a ga ((nI (k7 + (sh / 32) + 1))) _ hd_ga) (va_cwS 2 hts (kz_g (kz_mc mw_246 (kz_mc mw_247 (kz_mc mw_50 kz_mn))) mw_248) rfl rfl rfl (by decide +kernel) ⟨Nat.le_of_ble_eq_true rfl, Nat.le_of_ble_eq_true rfl⟩) (kz_preS hdy hA hK hro hZ hN [] (by decide) rfl [(true, 0)] rfl (by decide) [0, 1, 2, 3] rfl (fun _ h => by cases h) (fun _ h => by cases h) rfl) rfl rfl hl.1 rfl (lv_room (Nat.le_of_ble_eq_true rfl)) zd_W_shiftLeft_32 ⟨Nat.le_of_ble_eq_true rfl, Nat.le_of_ble_eq_true rfl⟩) hdy hA [] [0] rfl rfl (by decide) (by decide) (fun r u H locs hw hdy => ?_)
        try dsimp only at hw
        obtain ⟨⟨b3, hb3, rfl⟩, -⟩ := hw
        have hdy : kz_dy (dC, dI) vwCl A s.heap H locs [(o, .inl (cI, 8, .inl (kz_dg d1)))] := hdy.sub [0] (by decide) rfl
        obtain ⟨eb2, lb2⟩ := hb2
        obtain ⟨eb3, lb3⟩ := hb3
        refine lv_lor hx hb zd_W_shiftLeft_35 ?_
        refine lv_topl (fun yl4 h9 => ?_)
        obtain rfl : yl4 = kz_lz ((((b2 : Nat) : Int)) * 4294967296 + (((b3 : Nat) : Int))) := h9.trans (kz_lz_or32w (by omega) (by omega) (by omega) (by omega))
        refine lv_topl (fun yl6 h9 => ?_)
        obtain ⟨n5, en5, rfl⟩ := kz_toN (e := (((b2 : Nat) : Int)) * 4294967296 + (((b3 : Nat) : Int))) h9 (by omega)
        refine lv_lstore (lv' := [(5, .long (kz_lz (((n5 : Nat) : Int)))), (4, .int (nI (k7))), (3, .int (nI (sh / 32))), (0, .ref a), (1, .int (nI (sh))), (2, .ref o)]) hx hb zd_W_shiftLeft_36 hl (by decide) rfl (fun ls hl => ?_)
        refine lv_aload_n hx hb zd_W_shiftLeft_38 rfl (lv_at hl 5 rfl) ?_
        refine lv_iload hx hb zd_W_shiftLeft_39 (lv_at hl 1 rfl) ?_
        refine lv_lload hx hb zd_W_shiftLeft_41 (lv_at hl 0 rfl) ?_
        refine lv_iload_n hx hb zd_W_shiftLeft_43 rfl (lv_at hl 4 rfl) ?_
        refine lv_bipush (v := (nI (31))) hx hb zd_W_shiftLeft_44 (by decide) ?_
        refine lv_iand hx hb zd_W_shiftLeft_46 ?_
        refine lv_topi (fun x7 h9 => ?_)
        obtain rfl : x7 = nI (sh % 32) := h9.trans (kz_and31 _)
        refine lv_lshl hx hb zd_W_shiftLeft_47 (kz_lz_shlK (n := n5) (k := sh % 32) (by omega)) ?_
        refine lv_bipush (v := (nI (32))) hx hb zd_W_shiftLeft_48 (by decide) ?_
        refine lv_lushr hx hb zd_W_shiftLeft_50 (kz_lz_ushr32m (n5 * 2 ^ (sh % 32))) ?_
        refine lv_l2i hx hb zd_W_shiftLeft_51 (kz_lz_i32N ((n5 * 2 ^ (sh % 32)) % 18446744073709551616 / 4294967296)) ?_
        refine va_iast hx hb hK hdy.1 hdy.2.1 hdy.2.2 0 0 rfl rfl (vp_in_nI (by omega) (by omega)) zd_W_shiftLeft_52 (fun H locs hP hD hS => ?_)
        have h9 := kz_dgu d1 (k := k7) (((n5 * 2 ^ (sh % 32)) % 18446744073709551616 / 4294967296) % 4294967296) (by omega)
        rw [h9] at hP hD
        obtain ⟨f8, ef8, hd_f8, hdy⟩ : ∃ f8 : Nat → Nat, f8 = kv_up d1 k7 (((n5 * 2 ^ (sh % 32)) % 18446744073709551616 / 4294967296) % 4294967296) ∧ (∀ j, f8 j < 4294967296) ∧ kz_dy (dC, dI) vwCl A s.heap H locs [(o, .inl (cI, 8, .inl (kz_dg f8)))] := ⟨_, rfl, kx_up_lt hd_d1 (by omega), hP, hD, hS⟩
        refine lv_iinc (v := (nI (k7 + 1))) (lv' := [(4, .int (nI (k7 + 1))), (5, .long (kz_lz (((n5 : Nat) : Int)))), (3, .int (nI (sh / 32))), (0, .ref a), (1, .int (nI (sh))), (2, .ref o)]) hx hb zd_W_shiftLeft_53 hl (k := 1) rfl (nI_1 _) (by decide) rfl (fun ls hl => ?_)
        refine lv_goto (tgt := 7) hx hb zd_W_shiftLeft_56 (by decide) ?_
        have hi9_hSh9 : ∀ i, i < k7 + 1 → f8 i = kx_shl ga (sh / 32) (sh % 32) i := by rw [ef8]; refine kv_fill hSh ?_; unfold kx_shl; have h7 : n5 = b2 * 4294967296 + b3 := (by omega); rw [kx_wi_n (by omega)] at eb2 eb3; rw [← eb2, ← eb3, ← h7]; exact Nat.mod_eq_of_lt (by omega)
        exact ih7 (k7 + 1) f8 _ _ _ (by omega) (by omega) hd_f8 hi9_hSh9 hdy (lv_sub hl [0, 2, 3, 4, 5] rfl)
  have hi9_hSh10 : ∀ i, i < 0 → go i = kx_shl ga (sh / 32) (sh % 32) i := by intro j hj; omega
  exact lp7 (8 - 0 + 1) 0 go _ _ _ (by omega) (by omega) hd_go hi9_hSh10 hdy (lv_sub hl [0, 1, 2, 3, 4] rfl)

set_option maxHeartbeats 4000000 in
set_option maxRecDepth 100000 in
/-- KeyMeeting$Words.shiftRight([II[I)V -/
theorem c_E_shiftRight (l : Launch) (dC : Nat → ClassId) (dI : Nat → Nat → Nat) (cI cAA cB cL : ClassId) (o a : Nat) (go : Nat → Nat) (ga : Nat → Nat) (sh : Nat) (sz : Nat) (hd_go : ∀ j, go j < 4294967296) (hd_ga : ∀ j, ga j < 4294967296) (hsh : sh ≤ 256) : Met l zy_W_shiftRight zw_W_shiftRight { frames := 1, cells := 0, slots := 0, locals := 21 } (kz_Pc (dC, dI) vwCl [(cI, .int), (cAA, .array .int), (cB, .byte), (cL, .long)] [] [] [.ref a, .int (nI (sh)), .ref o] [(o, .inl (cI, 8, .inl (kz_dg go)))] [(a, .inl (cI, 8, .inl (kz_dg ga)))] sz) (va_Qv (fun (u : (Nat → Nat)) => (∀ j, u j < 4294967296) ∧ (∀ i, i < 8 → u i = kx_shr ga (sh / 32) (sh % 32) i) ∧ True) (kz_B (dC, dI) vwCl (va_A [(o, .inl (cI, 8, .inl (kz_dg go)))] sz) (fun u : (Nat → Nat) => [(o, .inl (cI, 8, .inl (kz_dg u)))])) (va_A [(o, .inl (cI, 8, .inl (kz_dg go)))] sz)) 0 0 (va_A [(o, .inl (cI, 8, .inl (kz_dg go)))] sz) := by
  refine kz_met (y := zy_W_shiftRight) (ws := zw_W_shiftRight) (av := [.ref a, .int (nI (sh)), .ref o]) (sz := sz) (Qc := fun A => va_Qv (fun (u : (Nat → Nat)) => (∀ j, u j < 4294967296) ∧ (∀ i, i < 8 → u i = kx_shr ga (sh / 32) (sh % 32) i) ∧ True) (kz_B (dC, dI) vwCl A (fun u : (Nat → Nat) => [(o, .inl (cI, 8, .inl (kz_dg u)))])) A) (cc := zc_W_shiftRight) (maxL := 7) (ret := none) (by decide) rfl (Nat.le_of_ble_eq_true rfl) ?_
  intro p e s m below meth c A ls F hA hdy hK hro hZ hN hl
  obtain ⟨hx, hb, hml, hr, hown, hlocks, hts, hnm⟩ := id F
  have hl : lv_has ls 7 [(0, .ref a), (1, .int (nI (sh))), (2, .ref o)] := hl
  refine lv_iload_n hx hb zd_W_shiftRight_0 rfl (lv_at hl 1 rfl) ?_
  refine lv_iconst (v := (nI (5))) hx hb zd_W_shiftRight_1 (by decide) ?_
  refine lv_iushr (v := nI (sh / 32)) hx hb zd_W_shiftRight_2 (pk_ushrN (by omega) _ 5 (by decide)) ?_
  refine lv_istore_n (lv' := [(3, .int (nI (sh / 32))), (0, .ref a), (1, .int (nI (sh))), (2, .ref o)]) hx hb zd_W_shiftRight_3 rfl hl (by decide) rfl (fun ls hl => ?_)
  refine lv_bipush (v := (nI (7))) hx hb zd_W_shiftRight_4 (by decide) ?_
  refine lv_istore (lv' := [(4, .int (nI (7))), (3, .int (nI (sh / 32))), (0, .ref a), (1, .int (nI (sh))), (2, .ref o)]) hx hb zd_W_shiftRight_6 hl (by decide) rfl (fun ls hl => ?_)
  have lp8 : ∀ (k8 : Nat) (d1 : Nat → Nat) (H : Heap) (locs : List Loc) (ls : Array Slot), k8 ≤ 8 → (∀ j, d1 j < 4294967296) → (∀ i, k8 ≤ i → i < 8 → d1 i = kx_shr ga (sh / 32) (sh % 32) i) → kz_dy (dC, dI) vwCl A s.heap H locs [(o, .inl (cI, 8, .inl (kz_dg d1)))] → lv_has ls 7 [(4, .int (nI k8 - 1)), (3, .int (nI (sh / 32))), (0, .ref a), (1, .int (nI (sh))), (2, .ref o)] → W p l e { frames := 1, cells := 0, slots := 0, locals := 21 } s m ([.ref a, .int (nI (sh)), .ref o] : List Value).toArray below meth c H locs 0 0 (MQ below (va_Qv (fun (u : (Nat → Nat)) => (∀ j, u j < 4294967296) ∧ (∀ i, i < 8 → u i = kx_shr ga (sh / 32) (sh % 32) i) ∧ True) (kz_B (dC, dI) vwCl A (fun u : (Nat → Nat) => [(o, .inl (cI, 8, .inl (kz_dg u)))])) A) ([.ref a, .int (nI (sh)), .ref o] : List Value).toArray s 0 0 A) (F0 m 8 ls []) := by
    intro k8
    induction k8 with
    | zero =>
      intro d1 H locs ls hi8 hd_d1 hSh hdy hl
      refine lv_iload hx hb zd_W_shiftRight_8 (lv_at hl 0 rfl) ?_
      refine lv_if_lt (tgt := 55) hx hb zd_W_shiftRight_10 (by decide) (fun hc10 => ?_) (fun hc10 => ?_)
      · exact kz_vret F (d1) hdy (⟨hd_d1, by exact fun i hi => hSh i (Nat.zero_le _) hi, trivial⟩) zd_W_shiftRight_55
      · exact absurd (by decide) hc10
    | succ k8 ih8 =>
      intro d1 H locs ls hi8 hd_d1 hSh hdy hl
      rw [nI_pred] at hl
      refine lv_iload hx hb zd_W_shiftRight_8 (lv_at hl 0 rfl) ?_
      refine lv_if_lt (tgt := 55) hx hb zd_W_shiftRight_10 (by decide) (fun hc10 => ?_) (fun hc10 => ?_)
      · exact absurd hc10 (nI_pos (by omega))
      · refine lv_aload_n hx hb zd_W_shiftRight_13 rfl (lv_at hl 2 rfl) ?_
        refine lv_iload hx hb zd_W_shiftRight_14 (lv_at hl 0 rfl) ?_
        refine lv_iload_n hx hb zd_W_shiftRight_16 rfl (lv_at hl 1 rfl) ?_
        refine lv_isub hx hb zd_W_shiftRight_17 ?_
        refine lv_iconst (v := (nI (1))) hx hb zd_W_shiftRight_18 (by decide) ?_
        refine lv_isub hx hb zd_W_shiftRight_19 ?_
        refine kz_calll (wk := [(o, .inl (cI, 8, .inl (kz_dg d1)))]) (va_runS (As := [.ref a, .int (((nI (k8)) - (nI (sh / 32))) - (nI (1)))]) (rest := []) ⟨hx, hb, hml, hown, hts⟩ (c_E_wordOrZero l dC dI cI cAA cB cL a ga ((((nI (k8)) - (nI (sh / 32))) - (nI (1)))) _ hd_ga) (va_cwS 2 hts (kz_g (kz_mc mw_246 (kz_mc mw_247 (kz_mc mw_50 kz_mn))) mw_248) rfl rfl rfl (by decide +kernel) ⟨Nat.le_of_ble_eq_true rfl, Nat.le_of_ble_eq_true rfl⟩) (kz_preS hdy hA hK hro hZ hN [] (by decide) rfl [(true, 0)] rfl (by decide) [0, 1, 2, 3] rfl (fun _ h => by cases h) (fun _ h => by cases h) rfl) rfl rfl hl.1 rfl (lv_room (Nat.le_of_ble_eq_true rfl)) zd_W_shiftRight_20 ⟨Nat.le_of_ble_eq_true rfl, Nat.le_of_ble_eq_true rfl⟩) hdy hA [] [0] rfl rfl (by decide) (by decide) (fun r u H locs hw hdy => ?_)
        try dsimp only at hw
        obtain ⟨⟨b2, hb2, rfl⟩, -⟩ := hw
        have hdy : kz_dy (dC, dI) vwCl A s.heap H locs [(o, .inl (cI, 8, .inl (kz_dg d1)))] := hdy.sub [0] (by decide) rfl
        refine lv_bipush (v := (nI (32))) hx hb zd_W_shiftRight_23 (by decide) ?_
        refine lv_lshl hx hb zd_W_shiftRight_25 (kz_lz_shl32 (((b2 : Nat) : Int))) ?_
        refine lv_aload_n hx hb zd_W_shiftRight_26 rfl (lv_at hl 2 rfl) ?_
        refine lv_iload hx hb zd_W_shiftRight_27 (lv_at hl 0 rfl) ?_
        refine lv_iload_n hx hb zd_W_shiftRight_29 rfl (lv_at hl 1 rfl) ?_
        refine lv_isub hx hb zd_W_shiftRight_30 ?_
        refine kz_calll (wk := [(o, .inl (cI, 8, .inl (kz_dg d1)))]) (va_runS (As := [.ref a, .int ((nI (k8)) - (nI (sh / 32)))]) (rest := [.long (kz_lz ((((b2 : Nat) : Int)) * 4294967296))]) ⟨hx, hb, hml, hown, hts⟩ (c_E_wordOrZero l dC dI cI cAA cB cL a ga (((nI (k8)) - (nI (sh / 32)))) _ hd_ga) (va_cwS 2 hts (kz_g (kz_mc mw_246 (kz_mc mw_247 (kz_mc mw_50 kz_mn))) mw_248) rfl rfl rfl (by decide +kernel) ⟨Nat.le_of_ble_eq_true rfl, Nat.le_of_ble_eq_true rfl⟩) (kz_preS hdy hA hK hro hZ hN [] (by decide) rfl [(true, 0)] rfl (by decide) [0, 1, 2, 3] rfl (fun _ h => by cases h) (fun _ h => by cases h) rfl) rfl rfl hl.1 rfl (lv_room (Nat.le_of_ble_eq_true rfl)) zd_W_shiftRight_31 ⟨Nat.le_of_ble_eq_true rfl, Nat.le_of_ble_eq_true rfl⟩) hdy hA [] [0] rfl rfl (by decide) (by decide) (fun r u H locs hw hdy => ?_)
        try dsimp only at hw
        obtain ⟨⟨b3, hb3, rfl⟩, -⟩ := hw
        have hdy : kz_dy (dC, dI) vwCl A s.heap H locs [(o, .inl (cI, 8, .inl (kz_dg d1)))] := hdy.sub [0] (by decide) rfl
        obtain ⟨eb2, lb2⟩ := hb2
        obtain ⟨eb3, lb3⟩ := hb3
        refine lv_lor hx hb zd_W_shiftRight_34 ?_
        refine lv_topl (fun yl4 h9 => ?_)
        obtain rfl : yl4 = kz_lz ((((b2 : Nat) : Int)) * 4294967296 + (((b3 : Nat) : Int))) := h9.trans (kz_lz_or32w (by omega) (by omega) (by omega) (by omega))
        refine lv_topl (fun yl6 h9 => ?_)
        obtain ⟨n5, en5, rfl⟩ := kz_toN (e := (((b2 : Nat) : Int)) * 4294967296 + (((b3 : Nat) : Int))) h9 (by omega)
        refine lv_lstore (lv' := [(5, .long (kz_lz (((n5 : Nat) : Int)))), (4, .int (nI (k8))), (3, .int (nI (sh / 32))), (0, .ref a), (1, .int (nI (sh))), (2, .ref o)]) hx hb zd_W_shiftRight_35 hl (by decide) rfl (fun ls hl => ?_)
        refine lv_aload_n hx hb zd_W_shiftRight_37 rfl (lv_at hl 5 rfl) ?_
        refine lv_iload hx hb zd_W_shiftRight_38 (lv_at hl 1 rfl) ?_
        refine lv_lload hx hb zd_W_shiftRight_40 (lv_at hl 0 rfl) ?_
        refine lv_iload_n hx hb zd_W_shiftRight_42 rfl (lv_at hl 4 rfl) ?_
        refine lv_bipush (v := (nI (31))) hx hb zd_W_shiftRight_43 (by decide) ?_
        refine lv_iand hx hb zd_W_shiftRight_45 ?_
        refine lv_topi (fun x7 h9 => ?_)
        obtain rfl : x7 = nI (sh % 32) := h9.trans (kz_and31 _)
        refine lv_lushr hx hb zd_W_shiftRight_46 (kz_lz_ushrK (n := n5) (k := sh % 32) (by omega) (by omega)) ?_
        refine lv_l2i hx hb zd_W_shiftRight_47 (kz_lz_i32N (n5 / 2 ^ (sh % 32))) ?_
        refine va_iast hx hb hK hdy.1 hdy.2.1 hdy.2.2 0 0 rfl rfl (vp_in_nI (by omega) (by omega)) zd_W_shiftRight_48 (fun H locs hP hD hS => ?_)
        have h9 := kz_dgu d1 (k := k8) ((n5 / 2 ^ (sh % 32)) % 4294967296) (by omega)
        rw [h9] at hP hD
        obtain ⟨f8, ef8, hd_f8, hdy⟩ : ∃ f8 : Nat → Nat, f8 = kv_up d1 k8 ((n5 / 2 ^ (sh % 32)) % 4294967296) ∧ (∀ j, f8 j < 4294967296) ∧ kz_dy (dC, dI) vwCl A s.heap H locs [(o, .inl (cI, 8, .inl (kz_dg f8)))] := ⟨_, rfl, kx_up_lt hd_d1 (by omega), hP, hD, hS⟩
        refine lv_iinc (v := (nI (k8) - 1)) (lv' := [(4, .int (nI (k8) - 1)), (5, .long (kz_lz (((n5 : Nat) : Int)))), (3, .int (nI (sh / 32))), (0, .ref a), (1, .int (nI (sh))), (2, .ref o)]) hx hb zd_W_shiftRight_49 hl (k := 1) rfl (kz_m1 _) (by decide) rfl (fun ls hl => ?_)
        refine lv_goto (tgt := 8) hx hb zd_W_shiftRight_52 (by decide) ?_
        have hi9_hSh9 : ∀ i, k8 ≤ i → i < 8 → f8 i = kx_shr ga (sh / 32) (sh % 32) i := by rw [ef8]; intro j hj hj8; rcases (by omega : j = k8 ∨ k8 + 1 ≤ j) with h | h; (rw [h, kv_up_eq]; unfold kx_shr; have h7 : n5 = b2 * 4294967296 + b3 := (by omega); rw [kx_wi_s1 (by omega) (by omega)] at eb2; rw [kx_wi_s (by omega) (by omega)] at eb3; rw [← eb2, ← eb3, ← h7]); (rw [kv_up_ne _ _ (by omega)]; exact hSh j h hj8)
        exact ih8 f8 _ _ _ (by omega) hd_f8 hi9_hSh9 hdy (lv_sub hl [0, 2, 3, 4, 5] rfl)
  have hi9_hSh10 : ∀ i, 8 ≤ i → i < 8 → go i = kx_shr ga (sh / 32) (sh % 32) i := by intro j a b; omega
  exact lp8 8 go _ _ _ (by omega) hd_go hi9_hSh10 hdy (lv_sub hl [0, 1, 2, 3, 4] rfl)

set_option maxHeartbeats 4000000 in
set_option maxRecDepth 100000 in
/-- KeyMeeting$Words.leadingZeros([I)I -/
theorem c_E_leadingZeros (l : Launch) (dC : Nat → ClassId) (dI : Nat → Nat → Nat) (cI cAA cB cL : ClassId) (a : Nat) (ga : Nat → Nat) (sz : Nat) (hd_ga : ∀ j, ga j < 4294967296) : Met l zy_W_leadingZeros zw_W_leadingZeros { frames := 1, cells := 0, slots := 0, locals := 21 } (kz_Pc (dC, dI) vwCl [(cI, .int), (cAA, .array .int), (cB, .byte), (cL, .long)] [] [] [.ref a] [] [(a, .inl (cI, 8, .inl (kz_dg ga)))] sz) (va_Qi (fun (r : Int32) (u : Unit) => (∃ b : Nat, kx_lz (kx_V 8 ga) b ∧ r = nI b) ∧ True) (kz_B (dC, dI) vwCl (va_A [] sz) (fun u : Unit => [])) (va_A [] sz)) 0 0 (va_A [] sz) := by
  refine kz_met (y := zy_W_leadingZeros) (ws := zw_W_leadingZeros) (av := [.ref a]) (sz := sz) (Qc := fun A => va_Qi (fun (r : Int32) (u : Unit) => (∃ b : Nat, kx_lz (kx_V 8 ga) b ∧ r = nI b) ∧ True) (kz_B (dC, dI) vwCl A (fun u : Unit => [])) A) (cc := zc_W_leadingZeros) (maxL := 2) (ret := some .int) (by decide) rfl (Nat.le_of_ble_eq_true rfl) ?_
  intro p e s m below meth c A ls F hA hdy hK hro hZ hN hl
  obtain ⟨hx, hb, hml, hr, hown, hlocks, hts, hnm⟩ := id F
  have hl : lv_has ls 2 [(0, .ref a)] := hl
  refine lv_iconst (v := (nI (0))) hx hb zd_W_leadingZeros_0 (by decide) ?_
  refine lv_istore_n (lv' := [(1, .int (nI (0))), (0, .ref a)]) hx hb zd_W_leadingZeros_1 rfl hl (by decide) rfl (fun ls hl => ?_)
  have lp2 : ∀ (n2 k2 : Nat) (H : Heap) (locs : List Loc) (ls : Array Slot), k2 ≤ 256 → 256 - k2 < n2 → (kx_V 8 ga / 2 ^ (256 - (k2)) = 0) → kz_dy (dC, dI) vwCl A s.heap H locs [] → lv_has ls 2 [(1, .int (nI (k2))), (0, .ref a)] → W p l e { frames := 1, cells := 0, slots := 0, locals := 21 } s m ([.ref a] : List Value).toArray below meth c H locs 0 0 (MQ below (va_Qi (fun (r : Int32) (u : Unit) => (∃ b : Nat, kx_lz (kx_V 8 ga) b ∧ r = nI b) ∧ True) (kz_B (dC, dI) vwCl A (fun u : Unit => [])) A) ([.ref a] : List Value).toArray s 0 0 A) (F0 m 2 ls []) := by
    intro n2
    induction n2 with
    | zero => intro k2; intros; omega
    | succ n2 ih2 =>
      intro k2 H locs ls hi2 hn2 hz hdy hl
      refine lv_iload_n hx hb zd_W_leadingZeros_2 rfl (lv_at hl 0 rfl) ?_
      refine lv_sipush (v := (nI (256))) hx hb zd_W_leadingZeros_3 (by decide) ?_
      refine lv_icmp_ge (tgt := 23) hx hb zd_W_leadingZeros_6 (by decide) (fun hc6 => ?_) (fun hc6 => ?_)
      · have hc6 : 256 ≤ k2 := (nI_leI (by omega) (by omega)).mp hc6
        refine lv_iload_n hx hb zd_W_leadingZeros_23 rfl (lv_at hl 0 rfl) ?_
        exact kz_iret F () hdy (⟨⟨_, by first | exact ⟨by omega, hz, fun _ => (hz.resolve_right (fun h => hc14 h.1)).2⟩ | exact ⟨by omega, hz, fun h => absurd h (by omega)⟩, rfl⟩, trivial⟩) zd_W_leadingZeros_24
      · have hc6 : ¬ 256 ≤ k2 := fun h9 => hc6 ((nI_leI (by omega) (by omega)).mpr h9)
        refine lv_aload_n hx hb zd_W_leadingZeros_9 rfl (lv_at hl 1 rfl) ?_
        refine lv_iload_n hx hb zd_W_leadingZeros_10 rfl (lv_at hl 0 rfl) ?_
        refine kz_calli (wk := []) (va_runS (As := [.ref a, .int (nI (k2))]) (rest := []) ⟨hx, hb, hml, hown, hts⟩ (c_E_hasBit l dC dI cI cAA cB cL a ga k2 _ hd_ga (by first | omega | assumption)) (va_cwS 2 hts (kz_g (kz_mc mw_240 (kz_mc mw_241 (kz_mc mw_50 kz_mn))) mw_242) rfl rfl rfl (by decide +kernel) ⟨Nat.le_of_ble_eq_true rfl, Nat.le_of_ble_eq_true rfl⟩) (kz_preS hdy hA hK hro hZ hN [] (by decide) rfl [(true, 0)] rfl (by decide) [0, 1, 2, 3] rfl (fun _ h => by cases h) (fun _ h => by cases h) rfl) rfl rfl hl.1 rfl (lv_room (Nat.le_of_ble_eq_true rfl)) zd_W_leadingZeros_11 ⟨Nat.le_of_ble_eq_true rfl, Nat.le_of_ble_eq_true rfl⟩) hdy hA [] [] rfl rfl (by decide) (by decide) (fun r u H locs hw hdy => ?_)
        obtain ⟨r1, rfl⟩ : ∃ z, z = r := ⟨_, rfl⟩
        try dsimp only at hw
        obtain ⟨hzr1, q2, -⟩ := hw
        have hdy : kz_dy (dC, dI) vwCl A s.heap H locs [] := hdy.sub [] (by decide) rfl
        refine lv_if_ne (tgt := 23) hx hb zd_W_leadingZeros_14 (by decide) (fun hc14 => ?_) (fun hc14 => ?_)
        · refine lv_iload_n hx hb zd_W_leadingZeros_23 rfl (lv_at hl 0 rfl) ?_
          exact kz_iret F () hdy (⟨⟨_, by first | exact ⟨by omega, hz, fun _ => (q2.resolve_right (fun h => hc14 h.1)).2⟩ | exact ⟨by omega, hz, fun h => absurd h (by omega)⟩, rfl⟩, trivial⟩) zd_W_leadingZeros_24
        · refine lv_iinc (v := (nI (k2 + 1))) (lv' := [(1, .int (nI (k2 + 1))), (0, .ref a)]) hx hb zd_W_leadingZeros_17 hl (k := 0) rfl (nI_1 _) (by decide) rfl (fun ls hl => ?_)
          refine lv_goto (tgt := 2) hx hb zd_W_leadingZeros_20 (by decide) ?_
          have hi9_hz3 : kx_V 8 ga / 2 ^ (256 - (k2 + 1)) = 0 := by exact kx_lzNext (by omega) hz (q2.resolve_left (fun h => absurd (h.1.symm.trans hc14) (by decide))).2
          exact ih2 (k2 + 1) _ _ _ (by omega) (by omega) hi9_hz3 hdy (lv_sub hl [0, 1] rfl)
  have hi9_hz4 : kx_V 8 ga / 2 ^ (256 - (0)) = 0 := by exact kx_lz0 hd_ga
  exact lp2 (256 - 0 + 1) 0 _ _ _ (by omega) (by omega) hi9_hz4 hdy (lv_sub hl [0, 1] rfl)

set_option maxHeartbeats 4000000 in
set_option maxRecDepth 100000 in
/-- KeyMeeting$Words.copy([I[I)V -/
theorem c_E_copy (l : Launch) (dC : Nat → ClassId) (dI : Nat → Nat → Nat) (cI cAA cB cL : ClassId) (o a : Nat) (go : Nat → Nat) (ga : Nat → Nat) (sz : Nat) (hd_go : ∀ j, go j < 4294967296) (hd_ga : ∀ j, ga j < 4294967296) : Met l zy_W_copy zw_W_copy { frames := 1, cells := 0, slots := 0, locals := 40 } (kz_Pc (dC, dI) vwCl [(cI, .int), (cAA, .array .int), (cB, .byte), (cL, .long)] [] [] [.ref a, .ref o] [(o, .inl (cI, 8, .inl (kz_dg go)))] [(a, .inl (cI, 8, .inl (kz_dg ga)))] sz) (va_Qv (fun (u : (Nat → Nat)) => (∀ j, u j < 4294967296) ∧ (∀ j, j < 8 → u j = ga j) ∧ True) (kz_B (dC, dI) vwCl (va_A [(o, .inl (cI, 8, .inl (kz_dg go)))] sz) (fun u : (Nat → Nat) => [(o, .inl (cI, 8, .inl (kz_dg u)))])) (va_A [(o, .inl (cI, 8, .inl (kz_dg go)))] sz)) 0 0 (va_A [(o, .inl (cI, 8, .inl (kz_dg go)))] sz) := by
  refine kz_met (y := zy_W_copy) (ws := zw_W_copy) (av := [.ref a, .ref o]) (sz := sz) (Qc := fun A => va_Qv (fun (u : (Nat → Nat)) => (∀ j, u j < 4294967296) ∧ (∀ j, j < 8 → u j = ga j) ∧ True) (kz_B (dC, dI) vwCl A (fun u : (Nat → Nat) => [(o, .inl (cI, 8, .inl (kz_dg u)))])) A) (cc := zc_W_copy) (maxL := 2) (ret := none) (by decide) rfl (Nat.le_of_ble_eq_true rfl) ?_
  intro p e s m below meth c A ls F hA hdy hK hro hZ hN hl
  obtain ⟨hx, hb, hml, hr, hown, hlocks, hts, hnm⟩ := id F
  have hl : lv_has ls 2 [(0, .ref a), (1, .ref o)] := hl
  refine lv_aload_n hx hb zd_W_copy_0 rfl (lv_at hl 0 rfl) ?_
  refine lv_iconst (v := (nI (0))) hx hb zd_W_copy_1 (by decide) ?_
  refine lv_aload_n hx hb zd_W_copy_2 rfl (lv_at hl 1 rfl) ?_
  refine lv_iconst (v := (nI (0))) hx hb zd_W_copy_3 (by decide) ?_
  refine lv_bipush (v := (nI (8))) hx hb zd_W_copy_4 (by decide) ?_
  refine kz_copyr hx hb (hml.trans hl.1.symm) hown (hts _ (kz_c mw_285)) (hts _ (kz_c mw_214)) (hts _ (kz_c mw_213)) (hts _ (kz_c mw_51)) hK hdy.1 hdy.2.1 hdy.2.2 hro 0 0 0 0 rfl rfl rfl rfl rfl (nI_pos (by omega)) (nI_pos (by omega)) (nI_pos (by omega)) (by (repeat rw [nI_clamp (by omega)]) <;> omega) (by (repeat rw [nI_clamp (by omega)]) <;> omega) (fun _ _ => rfl) (Nat.le_of_ble_eq_true rfl) (Nat.le_of_ble_eq_true rfl) zd_W_copy_6 (fun H locs hP hD hS => ?_)
  rw [show (nI 0).toNatClampNeg = 0 from nI_clamp (by omega), show (nI 8).toNatClampNeg = 8 from nI_clamp (by omega), kx_cpd] at hP hD
  obtain ⟨f1, ef1, hd_f1, hdy⟩ : ∃ f1 : Nat → Nat, f1 = kx_cp ga go 0 0 8 ∧ (∀ j, f1 j < 4294967296) ∧ kz_dy (dC, dI) vwCl A s.heap H locs [(o, .inl (cI, 8, .inl (kz_dg f1)))] := ⟨_, rfl, kx_cp_lt hd_ga hd_go, hP, hD, hS⟩
  exact kz_vret F (f1) hdy (⟨hd_f1, by intro j hj; rw [ef1]; unfold kx_cp; rw [if_pos (by omega)]; congr 1; omega, trivial⟩) zd_W_copy_9

