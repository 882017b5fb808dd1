set_option maxHeartbeats 4000000 in
set_option maxRecDepth 100000 in
/-- KeyMeetingModel.number(III)V -/
theorem c_F_number (l : Launch) (dC : Nat → ClassId) (dI : Nat → Nat → Nat) (cI cAA cB cL : ClassId) (o mt mn ml mc mh mk mp mm mb mw mr mx me mP mQ ms mo mW mD mB mR mS : Nat) (th : Int32) (sta : Int32) (hs : Int32) (sz_ : Nat) (gmt : Nat → Int32) (w_ : Nat) (i_ : Nat) (v : Int32) (sz : Nat) (hw_ : w_ < 7) (hi_ : i_ < 8) : Met l zy_N_number zw_N_number { frames := 1, cells := 0, slots := 0, locals := 22 } (kz_Pc (dC, dI) vwCl [(cI, .int), (cAA, .array .int), (cB, .byte), (cL, .long)] [] [] [.ref o, .int (nI (w_)), .int (nI (i_)), .int v] [(o, .inr (4, [.int th, .int sta, .ref mt, .ref mn, .ref ml, .ref mc, .ref mh, .ref mk, .ref mp, .ref mm, .ref mb, .ref mw, .ref mr, .ref mx, .ref me, .ref mP, .ref mQ, .ref ms, .int hs, .int (nI (sz_)), .ref mo, .ref mW, .ref mD, .ref mB, .ref mR, .ref mS])), (mt, .inl (cI, 56, .inl gmt))] [] sz) (va_Qv (fun (u : Int32 × (Nat → Int32)) => (u.1 = nI 0) ∧ (u.2 = upd gmt (8 * w_ + i_) v) ∧ True) (kz_B (dC, dI) vwCl (va_A [(o, .inr (4, [.int th, .int sta, .ref mt, .ref mn, .ref ml, .ref mc, .ref mh, .ref mk, .ref mp, .ref mm, .ref mb, .ref mw, .ref mr, .ref mx, .ref me, .ref mP, .ref mQ, .ref ms, .int hs, .int (nI (sz_)), .ref mo, .ref mW, .ref mD, .ref mB, .ref mR, .ref mS])), (mt, .inl (cI, 56, .inl gmt))] sz) (fun u : Int32 × (Nat → Int32) => [(o, .inr (4, [.int u.1, .int sta, .ref mt, .ref mn, .ref ml, .ref mc, .ref mh, .ref mk, .ref mp, .ref mm, .ref mb, .ref mw, .ref mr, .ref mx, .ref me, .ref mP, .ref mQ, .ref ms, .int hs, .int (nI (sz_)), .ref mo, .ref mW, .ref mD, .ref mB, .ref mR, .ref mS])), (mt, .inl (cI, 56, .inl u.2))])) (va_A [(o, .inr (4, [.int th, .int sta, .ref mt, .ref mn, .ref ml, .ref mc, .ref mh, .ref mk, .ref mp, .ref mm, .ref mb, .ref mw, .ref mr, .ref mx, .ref me, .ref mP, .ref mQ, .ref ms, .int hs, .int (nI (sz_)), .ref mo, .ref mW, .ref mD, .ref mB, .ref mR, .ref mS])), (mt, .inl (cI, 56, .inl gmt))] sz)) 0 0 (va_A [(o, .inr (4, [.int th, .int sta, .ref mt, .ref mn, .ref ml, .ref mc, .ref mh, .ref mk, .ref mp, .ref mm, .ref mb, .ref mw, .ref mr, .ref mx, .ref me, .ref mP, .ref mQ, .ref ms, .int hs, .int (nI (sz_)), .ref mo, .ref mW, .ref mD, .ref mB, .ref mR, .ref mS])), (mt, .inl (cI, 56, .inl gmt))] sz) := by
  refine kz_met (y := zy_N_number) (ws := zw_N_number) (av := [.ref o, .int (nI (w_)), .int (nI (i_)), .int v]) (sz := sz) (Qc := fun A => va_Qv (fun (u : Int32 × (Nat → Int32)) => (u.1 = nI 0) ∧ (u.2 = upd gmt (8 * w_ + i_) v) ∧ True) (kz_B (dC, dI) vwCl A (fun u : Int32 × (Nat → Int32) => [(o, .inr (4, [.int u.1, .int sta, .ref mt, .ref mn, .ref ml, .ref mc, .ref mh, .ref mk, .ref mp, .ref mm, .ref mb, .ref mw, .ref mr, .ref mx, .ref me, .ref mP, .ref mQ, .ref ms, .int hs, .int (nI (sz_)), .ref mo, .ref mW, .ref mD, .ref mB, .ref mR, .ref mS])), (mt, .inl (cI, 56, .inl u.2))])) A) (cc := zc_N_number) (maxL := 4) (ret := none) (by decide) rfl (Nat.le_of_ble_eq_true rfl) ?_
  intro p e s m below meth c A ls F hA hdy hK hro hZ hN hl
  obtain ⟨hx, hb, hml, hr, hown, hlocks, hts, hnm⟩ := id F
  have hl : lv_has ls 4 [(0, .ref o), (1, .int (nI (w_))), (2, .int (nI (i_))), (3, .int v)] := hl
  refine lv_aload_n hx hb zd_N_number_0 rfl (lv_at hl 0 rfl) ?_
  refine lv_iload_n hx hb zd_N_number_1 rfl (lv_at hl 1 rfl) ?_
  refine lv_if_lt (tgt := 21) hx hb zd_N_number_2 (by decide) (fun hc2 => ?_) (fun hc2 => ?_)
  · exact absurd hc2 (nI_pos (by omega))
  · refine lv_iload_n hx hb zd_N_number_5 rfl (lv_at hl 1 rfl) ?_
    refine lv_bipush (v := (nI (6))) hx hb zd_N_number_6 (by decide) ?_
    refine lv_icmp_gt (tgt := 21) hx hb zd_N_number_8 (by decide) (fun hc8 => ?_) (fun hc8 => ?_)
    · have hc8 : 6 < w_ := (nI_ltI (by omega) (by omega)).mp hc8
      refine lv_iconst (v := (nI (1))) hx hb zd_N_number_21 (by decide) ?_
      refine lv_goto (tgt := 26) hx hb zd_N_number_22 (by decide) ?_
      refine lv_iconst (v := (nI (0))) hx hb zd_N_number_26 (by decide) ?_
      refine kz_calli (wk := [(mt, .inl (cI, 56, .inl gmt))]) (va_runV (As := [.int (nI (1)), .int (nI (0))]) (rest := []) ⟨hx, hb, hml, hown, hts⟩ (c_M_refused1 l dC dI cI cAA cB cL o mt mn ml mc mh mk mp mm mb mw mr mx me mP mQ ms mo mW mD mB mR mS (th) (sta) (hs) sz_ _) (cwV 2 hts (kz_g (kz_mc mw_674 (kz_mc mw_676 (kz_mc mw_20 (kz_mc mw_43 kz_mn)))) mw_677) rfl rfl rfl (by decide +kernel) ⟨Nat.le_of_ble_eq_true rfl, Nat.le_of_ble_eq_true rfl⟩) (kz_preV hdy hA hK hro hZ hN [0] (by decide) rfl [] rfl (by decide) [0, 1, 2, 3] rfl (fun _ h => by cases h) (fun _ h => by cases h) rfl (ci := 4) (q0 := 0) rfl rfl rfl) rfl rfl hl.1 rfl (lv_room (Nat.le_of_ble_eq_true rfl)) zd_N_number_27 ⟨Nat.le_of_ble_eq_true rfl, Nat.le_of_ble_eq_true rfl⟩) hdy hA [0] [1] rfl rfl (by decide) (by decide) (fun r u H locs hw hdy => ?_)
      obtain ⟨x1, rfl⟩ : ∃ z, z = u := ⟨_, rfl⟩
      try dsimp only at hw
      obtain ⟨rfl, q2, -⟩ := hw
      have hdy : kz_dy (dC, dI) vwCl A s.heap H locs [(o, .inr (4, [.int x1, .int sta, .ref mt, .ref mn, .ref ml, .ref mc, .ref mh, .ref mk, .ref mp, .ref mm, .ref mb, .ref mw, .ref mr, .ref mx, .ref me, .ref mP, .ref mQ, .ref ms, .int hs, .int (nI (sz_)), .ref mo, .ref mW, .ref mD, .ref mB, .ref mR, .ref mS])), (mt, .inl (cI, 56, .inl gmt))] := hdy.sub [1, 0] (by decide) rfl
      refine lv_if_ne (tgt := 45) hx hb zd_N_number_30 (by decide) (fun hc30 => ?_) (fun hc30 => ?_)
      · exact kz_vret F (x1, gmt) hdy (⟨by first | assumption | rfl | omega, by first | assumption | (exfalso; omega), trivial⟩) zd_N_number_45
      · exact absurd hc30 (by decide)
    · have hc8 : ¬ 6 < w_ := fun h9 => hc8 ((nI_ltI (by omega) (by omega)).mpr h9)
      refine lv_iload_n hx hb zd_N_number_11 rfl (lv_at hl 2 rfl) ?_
      refine lv_if_lt (tgt := 21) hx hb zd_N_number_12 (by decide) (fun hc12 => ?_) (fun hc12 => ?_)
      · exact absurd hc12 (nI_pos (by omega))
      · refine lv_iload_n hx hb zd_N_number_15 rfl (lv_at hl 2 rfl) ?_
        refine lv_bipush (v := (nI (7))) hx hb zd_N_number_16 (by decide) ?_
        refine lv_icmp_le (tgt := 25) hx hb zd_N_number_18 (by decide) (fun hc18 => ?_) (fun hc18 => ?_)
        · have hc18 : i_ ≤ 7 := (nI_leI (by omega) (by omega)).mp hc18
          refine lv_iconst (v := (nI (0))) hx hb zd_N_number_25 (by decide) ?_
          refine lv_iconst (v := (nI (0))) hx hb zd_N_number_26 (by decide) ?_
          refine kz_calli (wk := [(mt, .inl (cI, 56, .inl gmt))]) (va_runV (As := [.int (nI (0)), .int (nI (0))]) (rest := []) ⟨hx, hb, hml, hown, hts⟩ (c_M_refused0 l dC dI cI cAA cB cL o mt mn ml mc mh mk mp mm mb mw mr mx me mP mQ ms mo mW mD mB mR mS (th) (sta) (hs) sz_ _) (cwV 2 hts (kz_g (kz_mc mw_674 (kz_mc mw_676 (kz_mc mw_20 (kz_mc mw_43 kz_mn)))) mw_677) rfl rfl rfl (by decide +kernel) ⟨Nat.le_of_ble_eq_true rfl, Nat.le_of_ble_eq_true rfl⟩) (kz_preV hdy hA hK hro hZ hN [0] (by decide) rfl [] rfl (by decide) [0, 1, 2, 3] rfl (fun _ h => by cases h) (fun _ h => by cases h) rfl (ci := 4) (q0 := 0) rfl rfl rfl) rfl rfl hl.1 rfl (lv_room (Nat.le_of_ble_eq_true rfl)) zd_N_number_27 ⟨Nat.le_of_ble_eq_true rfl, Nat.le_of_ble_eq_true rfl⟩) hdy hA [0] [1] rfl rfl (by decide) (by decide) (fun r u H locs hw hdy => ?_)
          obtain ⟨x3, rfl⟩ : ∃ z, z = u := ⟨_, rfl⟩
          try dsimp only at hw
          obtain ⟨rfl, q4, -⟩ := hw
          have hdy : kz_dy (dC, dI) vwCl A s.heap H locs [(o, .inr (4, [.int x3, .int sta, .ref mt, .ref mn, .ref ml, .ref mc, .ref mh, .ref mk, .ref mp, .ref mm, .ref mb, .ref mw, .ref mr, .ref mx, .ref me, .ref mP, .ref mQ, .ref ms, .int hs, .int (nI (sz_)), .ref mo, .ref mW, .ref mD, .ref mB, .ref mR, .ref mS])), (mt, .inl (cI, 56, .inl gmt))] := hdy.sub [1, 0] (by decide) rfl
          refine lv_if_ne (tgt := 45) hx hb zd_N_number_30 (by decide) (fun hc30 => ?_) (fun hc30 => ?_)
          · exact absurd (by decide) hc30
          · refine lv_aload_n hx hb zd_N_number_33 rfl (lv_at hl 0 rfl) ?_
            refine va_get (D := (dC, dI)) (ci := 4) (v := .ref mt) (C := zR_N) (T := zT_N) (N := 26) hx hb hts (fun w h => kz_c (zi_N w h)) hown hK hdy.1 0 rfl rfl 2 (by decide) (hts _ (kz_c mw_593)) (fun _ h9 => h9) rfl zd_N_number_34 ?_
            refine lv_bipush (v := (nI (8))) hx hb zd_N_number_37 (by decide) ?_
            refine lv_iload_n hx hb zd_N_number_39 rfl (lv_at hl 1 rfl) ?_
            refine kz_imul hx hb zd_N_number_40 (pk_mul _ _) ?_
            refine lv_iload_n hx hb zd_N_number_41 rfl (lv_at hl 2 rfl) ?_
            refine kz_iadd hx hb zd_N_number_42 (nI_add _ _) ?_
            refine lv_iload_n hx hb zd_N_number_43 rfl (lv_at hl 3 rfl) ?_
            refine va_iast hx hb hK hdy.1 hdy.2.1 hdy.2.2 1 0 rfl rfl (vp_in_nI (by omega) (by omega)) zd_N_number_44 (fun H locs hP hD hS => ?_)
            rw [nI_clamp (by omega)] at hP hD
            obtain ⟨f5, ef5, hdy⟩ : ∃ f5 : Nat → Int32, f5 = upd gmt (8 * w_ + i_) (v) ∧ kz_dy (dC, dI) vwCl A s.heap H locs [(o, .inr (4, [.int x3, .int sta, .ref mt, .ref mn, .ref ml, .ref mc, .ref mh, .ref mk, .ref mp, .ref mm, .ref mb, .ref mw, .ref mr, .ref mx, .ref me, .ref mP, .ref mQ, .ref ms, .int hs, .int (nI (sz_)), .ref mo, .ref mW, .ref mD, .ref mB, .ref mR, .ref mS])), (mt, .inl (cI, 56, .inl f5))] := ⟨_, rfl, hP, hD, hS⟩
            exact kz_vret F (x3, f5) hdy (⟨by first | assumption | rfl | omega, by first | assumption | (exfalso; omega), trivial⟩) zd_N_number_45
        · have hc18 : ¬ i_ ≤ 7 := fun h9 => hc18 ((nI_leI (by omega) (by omega)).mpr h9)
          refine lv_iconst (v := (nI (1))) hx hb zd_N_number_21 (by decide) ?_
          refine lv_goto (tgt := 26) hx hb zd_N_number_22 (by decide) ?_
          refine lv_iconst (v := (nI (0))) hx hb zd_N_number_26 (by decide) ?_
          refine kz_calli (wk := [(mt, .inl (cI, 56, .inl gmt))]) (va_runV (As := [.int (nI (1)), .int (nI (0))]) (rest := []) ⟨hx, hb, hml, hown, hts⟩ (c_M_refused1 l dC dI cI cAA cB cL o mt mn ml mc mh mk mp mm mb mw mr mx me mP mQ ms mo mW mD mB mR mS (th) (sta) (hs) sz_ _) (cwV 2 hts (kz_g (kz_mc mw_674 (kz_mc mw_676 (kz_mc mw_20 (kz_mc mw_43 kz_mn)))) mw_677) rfl rfl rfl (by decide +kernel) ⟨Nat.le_of_ble_eq_true rfl, Nat.le_of_ble_eq_true rfl⟩) (kz_preV hdy hA hK hro hZ hN [0] (by decide) rfl [] rfl (by decide) [0, 1, 2, 3] rfl (fun _ h => by cases h) (fun _ h => by cases h) rfl (ci := 4) (q0 := 0) rfl rfl rfl) rfl rfl hl.1 rfl (lv_room (Nat.le_of_ble_eq_true rfl)) zd_N_number_27 ⟨Nat.le_of_ble_eq_true rfl, Nat.le_of_ble_eq_true rfl⟩) hdy hA [0] [1] rfl rfl (by decide) (by decide) (fun r u H locs hw hdy => ?_)
          obtain ⟨x6, rfl⟩ : ∃ z, z = u := ⟨_, rfl⟩
          try dsimp only at hw
          obtain ⟨rfl, q7, -⟩ := hw
          have hdy : kz_dy (dC, dI) vwCl A s.heap H locs [(o, .inr (4, [.int x6, .int sta, .ref mt, .ref mn, .ref ml, .ref mc, .ref mh, .ref mk, .ref mp, .ref mm, .ref mb, .ref mw, .ref mr, .ref mx, .ref me, .ref mP, .ref mQ, .ref ms, .int hs, .int (nI (sz_)), .ref mo, .ref mW, .ref mD, .ref mB, .ref mR, .ref mS])), (mt, .inl (cI, 56, .inl gmt))] := hdy.sub [1, 0] (by decide) rfl
          refine lv_if_ne (tgt := 45) hx hb zd_N_number_30 (by decide) (fun hc30 => ?_) (fun hc30 => ?_)
          · exact kz_vret F (x6, gmt) hdy (⟨by first | assumption | rfl | omega, by first | assumption | (exfalso; omega), trivial⟩) zd_N_number_45
          · exact absurd hc30 (by decide)

set_option maxHeartbeats 4000000 in
set_option maxRecDepth 100000 in
/-- KeyMeetingModel.isSmall([I)Z -/
theorem c_F_isSmall (l : Launch) (dC : Nat → ClassId) (dI : Nat → Nat → Nat) (cI cAA cB cL : ClassId) (a : Nat) (ga : Nat → Nat) (sz : Nat) (hd_ga : ∀ j, ga j < 65536) : Met l zy_N_isSmall zw_N_isSmall { frames := 0, cells := 0, slots := 0, locals := 0 } (kz_Pc (dC, dI) vwCl [(cI, .int), (cAA, .array .int), (cB, .byte), (cL, .long)] [] [] [.ref a] [] [(a, .inl (cI, 16, .inl (kz_dg ga)))] sz) (va_Qi (fun (r : Int32) (u : Unit) => (r = 0 ∨ r = 1) ∧ ((r = 0 ∧ 3 ≤ kv_val ga 16) ∨ (r = 1 ∧ kv_val ga 16 < 3)) ∧ True) (kz_B (dC, dI) vwCl (va_A [] sz) (fun u : Unit => [])) (va_A [] sz)) 0 0 (va_A [] sz) := by
  refine kz_met (y := zy_N_isSmall) (ws := zw_N_isSmall) (av := [.ref a]) (sz := sz) (Qc := fun A => va_Qi (fun (r : Int32) (u : Unit) => (r = 0 ∨ r = 1) ∧ ((r = 0 ∧ 3 ≤ kv_val ga 16) ∨ (r = 1 ∧ kv_val ga 16 < 3)) ∧ True) (kz_B (dC, dI) vwCl A (fun u : Unit => [])) A) (cc := zc_N_isSmall) (maxL := 3) (ret := some .boolean) (by decide) rfl (Nat.le_of_ble_eq_true rfl) ?_
  intro p e s m below meth c A ls F hA hdy hK hro hZ hN hl
  obtain ⟨hx, hb, hml, hr, hown, hlocks, hts, hnm⟩ := id F
  have hl : lv_has ls 3 [(0, .ref a)] := hl
  refine lv_aload_n hx hb zd_N_isSmall_0 rfl (lv_at hl 0 rfl) ?_
  refine lv_iconst (v := (nI (0))) hx hb zd_N_isSmall_1 (by decide) ?_
  refine kz_riald hx hb hK hro hdy.2.2 0 0 rfl rfl (vp_in_nI (by omega) (by omega)) zd_N_isSmall_2 ?_
  refine lv_topi (fun x1 h9 => ?_)
  obtain rfl : x1 = nI (ga 0) := h9.trans (kz_dgl ga (by omega))
  have hbx1 := hd_ga 0
  refine lv_iconst (v := (nI (2))) hx hb zd_N_isSmall_3 (by decide) ?_
  refine lv_icmp_le (tgt := 11) hx hb zd_N_isSmall_4 (by decide) (fun hc4 => ?_) (fun hc4 => ?_)
  · have hc4 : (ga 0) ≤ 2 := (nI_leI (by omega) (by omega)).mp hc4
    refine lv_iconst (v := (nI (0))) hx hb zd_N_isSmall_11 (by decide) ?_
    refine lv_istore_n (lv' := [(1, .int (nI (0))), (0, .ref a)]) hx hb zd_N_isSmall_12 rfl hl (by decide) rfl (fun ls hl => ?_)
    refine lv_iconst (v := (nI (1))) hx hb zd_N_isSmall_13 (by decide) ?_
    refine lv_istore_n (lv' := [(2, .int (nI (1))), (1, .int (nI (0))), (0, .ref a)]) hx hb zd_N_isSmall_14 rfl hl (by decide) rfl (fun ls hl => ?_)
    have lp15 : ∀ (n15 k15 : Nat) (c2 : Nat) (H : Heap) (locs : List Loc) (ls : Array Slot), k15 ≤ 16 → 16 - k15 < n15 → 1 ≤ k15 → (c2 ≤ 1) → (kv_flag (c2) (3 ≤ kv_val ga 16)) → (c2 = 0 → ga 0 ≤ 2) → (c2 = 0 → ∀ j, 0 < j → j < k15 → ga j = 0) → kz_dy (dC, dI) vwCl A s.heap H locs [] → lv_has ls 3 [(2, .int (nI (k15))), (1, .int (nI (c2))), (0, .ref a)] → W p l e { frames := 0, cells := 0, slots := 0, locals := 0 } s m ([.ref a] : List Value).toArray below meth c H locs 0 0 (MQ below (va_Qi (fun (r : Int32) (u : Unit) => (r = 0 ∨ r = 1) ∧ ((r = 0 ∧ 3 ≤ kv_val ga 16) ∨ (r = 1 ∧ kv_val ga 16 < 3)) ∧ True) (kz_B (dC, dI) vwCl A (fun u : Unit => [])) A) ([.ref a] : List Value).toArray s 0 0 A) (F0 m 15 ls []) := by
      intro n15
      induction n15 with
      | zero => intro k15; intros; omega
      | succ n15 ih15 =>
        intro k15 c2 H locs ls hi15 hn15 hblow hg1 hgr hsm hzz hdy hl
        refine lv_iload_n hx hb zd_N_isSmall_15 rfl (lv_at hl 0 rfl) ?_
        refine lv_bipush (v := (nI (16))) hx hb zd_N_isSmall_16 (by decide) ?_
        refine lv_icmp_ge (tgt := 43) hx hb zd_N_isSmall_18 (by decide) (fun hc18 => ?_) (fun hc18 => ?_)
        · have hc18 : 16 ≤ k15 := (nI_leI (by omega) (by omega)).mp hc18
          refine lv_iload_n hx hb zd_N_isSmall_43 rfl (lv_at hl 1 rfl) ?_
          refine lv_if_ne (tgt := 51) hx hb zd_N_isSmall_44 (by decide) (fun hc44 => ?_) (fun hc44 => ?_)
          · have hc44 : ¬ c2 = 0 := fun h9 => hc44 (by have h8 := (nI_eq (by omega) (by omega)).mpr h9; rw [nI_0] at h8; exact h8)
            refine lv_iconst (v := (nI (0))) hx hb zd_N_isSmall_51 (by decide) ?_
            exact kz_zret F () hdy (by first | exact Or.inl rfl | exact Or.inr rfl | assumption) (⟨by first | exact Or.inl rfl | exact Or.inr rfl | assumption, by first | exact Or.inl ⟨rfl, kv_flag_of hgr (by omega)⟩ | exact Or.inr ⟨rfl, by rw [kv_small0 (fun j a b => hzz (by omega) j a (by omega))]; have h8 := hsm (by omega); omega⟩, trivial⟩) zd_N_isSmall_52
          · have hc44 : c2 = 0 := (nI_eq (by omega) (by omega)).mp (by rw [nI_0]; exact hc44)
            refine lv_iconst (v := (nI (1))) hx hb zd_N_isSmall_47 (by decide) ?_
            refine lv_goto (tgt := 52) hx hb zd_N_isSmall_48 (by decide) ?_
            exact kz_zret F () hdy (by first | exact Or.inl rfl | exact Or.inr rfl | assumption) (⟨by first | exact Or.inl rfl | exact Or.inr rfl | assumption, by first | exact Or.inl ⟨rfl, kv_flag_of hgr (by omega)⟩ | exact Or.inr ⟨rfl, by rw [kv_small0 (fun j a b => hzz (by omega) j a (by omega))]; have h8 := hsm (by omega); omega⟩, trivial⟩) zd_N_isSmall_52
        · have hc18 : ¬ 16 ≤ k15 := fun h9 => hc18 ((nI_leI (by omega) (by omega)).mpr h9)
          refine lv_iload_n hx hb zd_N_isSmall_21 rfl (lv_at hl 1 rfl) ?_
          refine lv_if_ne (tgt := 31) hx hb zd_N_isSmall_22 (by decide) (fun hc22 => ?_) (fun hc22 => ?_)
          · have hc22 : ¬ c2 = 0 := fun h9 => hc22 (by have h8 := (nI_eq (by omega) (by omega)).mpr h9; rw [nI_0] at h8; exact h8)
            refine lv_iconst (v := (nI (1))) hx hb zd_N_isSmall_31 (by decide) ?_
            refine lv_goto (tgt := 36) hx hb zd_N_isSmall_32 (by decide) ?_
            refine lv_istore_n (lv' := [(1, .int (nI (1))), (2, .int (nI (k15))), (0, .ref a)]) hx hb zd_N_isSmall_36 rfl hl (by decide) rfl (fun ls hl => ?_)
            refine lv_iinc (v := (nI (k15 + 1))) (lv' := [(2, .int (nI (k15 + 1))), (1, .int (nI (1))), (0, .ref a)]) hx hb zd_N_isSmall_37 hl (k := 1) rfl (nI_1 _) (by decide) rfl (fun ls hl => ?_)
            refine lv_goto (tgt := 15) hx hb zd_N_isSmall_40 (by decide) ?_
            have hi9_hg13 : 1 ≤ 1 := by omega
            have hi9_hgr4 : kv_flag (1) (3 ≤ kv_val ga 16) := by first | exact hgr | exact Or.inl rfl | exact Or.inr (kv_flag_of hgr (by omega)) | exact Or.inr (kv_big (k := k15) (by omega) (by omega) (by omega))
            have hi9_hsm5 : 1 = 0 → ga 0 ≤ 2 := by first | exact hsm | (intro h; first | (exfalso; omega) | exact hsm (by omega))
            have hi9_hzz6 : 1 = 0 → ∀ j, 0 < j → j < k15 + 1 → ga j = 0 := by intro h j a b; first | (exfalso; omega) | (rcases (by omega : j = k15 ∨ j < k15) with h8 | h8; (rw [h8]; omega); exact hzz (by omega) j a h8)
            exact ih15 (k15 + 1) (1) _ _ _ (by omega) (by omega) (by omega) hi9_hg13 hi9_hgr4 hi9_hsm5 hi9_hzz6 hdy (lv_sub hl [0, 1, 2] rfl)
          · have hc22 : c2 = 0 := (nI_eq (by omega) (by omega)).mp (by rw [nI_0]; exact hc22)
            refine lv_aload_n hx hb zd_N_isSmall_25 rfl (lv_at hl 2 rfl) ?_
            refine lv_iload_n hx hb zd_N_isSmall_26 rfl (lv_at hl 0 rfl) ?_
            refine kz_riald hx hb hK hro hdy.2.2 0 0 rfl rfl (vp_in_nI (by omega) (by omega)) zd_N_isSmall_27 ?_
            refine lv_topi (fun x7 h9 => ?_)
            obtain rfl : x7 = nI (ga k15) := h9.trans (kz_dgl ga (by omega))
            have hbx7 := hd_ga k15
            refine lv_if_le (tgt := 35) hx hb zd_N_isSmall_28 (by decide) (fun hc28 => ?_) (fun hc28 => ?_)
            · have hc28 : (ga k15) ≤ 0 := (nI_leI (by omega) (by omega)).mp (by rw [nI_0]; exact hc28)
              refine lv_iconst (v := (nI (0))) hx hb zd_N_isSmall_35 (by decide) ?_
              refine lv_istore_n (lv' := [(1, .int (nI (0))), (2, .int (nI (k15))), (0, .ref a)]) hx hb zd_N_isSmall_36 rfl hl (by decide) rfl (fun ls hl => ?_)
              refine lv_iinc (v := (nI (k15 + 1))) (lv' := [(2, .int (nI (k15 + 1))), (1, .int (nI (0))), (0, .ref a)]) hx hb zd_N_isSmall_37 hl (k := 1) rfl (nI_1 _) (by decide) rfl (fun ls hl => ?_)
              refine lv_goto (tgt := 15) hx hb zd_N_isSmall_40 (by decide) ?_
              have hi9_hg18 : 0 ≤ 1 := by omega
              have hi9_hgr9 : kv_flag (0) (3 ≤ kv_val ga 16) := by first | exact hgr | exact Or.inl rfl | exact Or.inr (kv_flag_of hgr (by omega)) | exact Or.inr (kv_big (k := k15) (by omega) (by omega) (by omega))
              have hi9_hsm10 : 0 = 0 → ga 0 ≤ 2 := by first | exact hsm | (intro h; first | (exfalso; omega) | exact hsm (by omega))
              have hi9_hzz11 : 0 = 0 → ∀ j, 0 < j → j < k15 + 1 → ga j = 0 := by intro h j a b; first | (exfalso; omega) | (rcases (by omega : j = k15 ∨ j < k15) with h8 | h8; (rw [h8]; omega); exact hzz (by omega) j a h8)
              exact ih15 (k15 + 1) (0) _ _ _ (by omega) (by omega) (by omega) hi9_hg18 hi9_hgr9 hi9_hsm10 hi9_hzz11 hdy (lv_sub hl [0, 1, 2] rfl)
            · have hc28 : ¬ (ga k15) ≤ 0 := fun h9 => hc28 (by have h8 := (nI_leI (by omega) (by omega)).mpr h9; rw [nI_0] at h8; exact h8)
              refine lv_iconst (v := (nI (1))) hx hb zd_N_isSmall_31 (by decide) ?_
              refine lv_goto (tgt := 36) hx hb zd_N_isSmall_32 (by decide) ?_
              refine lv_istore_n (lv' := [(1, .int (nI (1))), (2, .int (nI (k15))), (0, .ref a)]) hx hb zd_N_isSmall_36 rfl hl (by decide) rfl (fun ls hl => ?_)
              refine lv_iinc (v := (nI (k15 + 1))) (lv' := [(2, .int (nI (k15 + 1))), (1, .int (nI (1))), (0, .ref a)]) hx hb zd_N_isSmall_37 hl (k := 1) rfl (nI_1 _) (by decide) rfl (fun ls hl => ?_)
              refine lv_goto (tgt := 15) hx hb zd_N_isSmall_40 (by decide) ?_
              have hi9_hg112 : 1 ≤ 1 := by omega
              have hi9_hgr13 : kv_flag (1) (3 ≤ kv_val ga 16) := by first | exact hgr | exact Or.inl rfl | exact Or.inr (kv_flag_of hgr (by omega)) | exact Or.inr (kv_big (k := k15) (by omega) (by omega) (by omega))
              have hi9_hsm14 : 1 = 0 → ga 0 ≤ 2 := by first | exact hsm | (intro h; first | (exfalso; omega) | exact hsm (by omega))
              have hi9_hzz15 : 1 = 0 → ∀ j, 0 < j → j < k15 + 1 → ga j = 0 := by intro h j a b; first | (exfalso; omega) | (rcases (by omega : j = k15 ∨ j < k15) with h8 | h8; (rw [h8]; omega); exact hzz (by omega) j a h8)
              exact ih15 (k15 + 1) (1) _ _ _ (by omega) (by omega) (by omega) hi9_hg112 hi9_hgr13 hi9_hsm14 hi9_hzz15 hdy (lv_sub hl [0, 1, 2] rfl)
    have hi9_hg116 : 0 ≤ 1 := by omega
    have hi9_hgr17 : kv_flag (0) (3 ≤ kv_val ga 16) := by first | exact Or.inl rfl | (have h8 := kv_ge0 ga; exact Or.inr (by omega))
    have hi9_hsm18 : 0 = 0 → ga 0 ≤ 2 := by intro h; omega
    have hi9_hzz19 : 0 = 0 → ∀ j, 0 < j → j < 1 → ga j = 0 := by intro h j a b; omega
    exact lp15 (16 - 1 + 1) 1 (0) _ _ _ (by omega) (by omega) (by omega) hi9_hg116 hi9_hgr17 hi9_hsm18 hi9_hzz19 hdy (lv_sub hl [0, 1, 2] rfl)
  · have hc4 : ¬ (ga 0) ≤ 2 := fun h9 => hc4 ((nI_leI (by omega) (by omega)).mpr h9)
    refine lv_iconst (v := (nI (1))) hx hb zd_N_isSmall_7 (by decide) ?_
    refine lv_goto (tgt := 12) hx hb zd_N_isSmall_8 (by decide) ?_
    refine lv_istore_n (lv' := [(1, .int (nI (1))), (0, .ref a)]) hx hb zd_N_isSmall_12 rfl hl (by decide) rfl (fun ls hl => ?_)
    refine lv_iconst (v := (nI (1))) hx hb zd_N_isSmall_13 (by decide) ?_
    refine lv_istore_n (lv' := [(2, .int (nI (1))), (1, .int (nI (1))), (0, .ref a)]) hx hb zd_N_isSmall_14 rfl hl (by decide) rfl (fun ls hl => ?_)
    have lp15 : ∀ (n15 k15 : Nat) (c20 : Nat) (H : Heap) (locs : List Loc) (ls : Array Slot), k15 ≤ 16 → 16 - k15 < n15 → 1 ≤ k15 → (c20 ≤ 1) → (kv_flag (c20) (3 ≤ kv_val ga 16)) → (c20 = 0 → ga 0 ≤ 2) → (c20 = 0 → ∀ j, 0 < j → j < k15 → ga j = 0) → kz_dy (dC, dI) vwCl A s.heap H locs [] → lv_has ls 3 [(2, .int (nI (k15))), (1, .int (nI (c20))), (0, .ref a)] → W p l e { frames := 0, cells := 0, slots := 0, locals := 0 } s m ([.ref a] : List Value).toArray below meth c H locs 0 0 (MQ below (va_Qi (fun (r : Int32) (u : Unit) => (r = 0 ∨ r = 1) ∧ ((r = 0 ∧ 3 ≤ kv_val ga 16) ∨ (r = 1 ∧ kv_val ga 16 < 3)) ∧ True) (kz_B (dC, dI) vwCl A (fun u : Unit => [])) A) ([.ref a] : List Value).toArray s 0 0 A) (F0 m 15 ls []) := by
      intro n15
      induction n15 with
      | zero => intro k15; intros; omega
      | succ n15 ih15 =>
        intro k15 c20 H locs ls hi15 hn15 hblow hg1 hgr hsm hzz hdy hl
        refine lv_iload_n hx hb zd_N_isSmall_15 rfl (lv_at hl 0 rfl) ?_
        refine lv_bipush (v := (nI (16))) hx hb zd_N_isSmall_16 (by decide) ?_
        refine lv_icmp_ge (tgt := 43) hx hb zd_N_isSmall_18 (by decide) (fun hc18 => ?_) (fun hc18 => ?_)
        · have hc18 : 16 ≤ k15 := (nI_leI (by omega) (by omega)).mp hc18
          refine lv_iload_n hx hb zd_N_isSmall_43 rfl (lv_at hl 1 rfl) ?_
          refine lv_if_ne (tgt := 51) hx hb zd_N_isSmall_44 (by decide) (fun hc44 => ?_) (fun hc44 => ?_)
          · have hc44 : ¬ c20 = 0 := fun h9 => hc44 (by have h8 := (nI_eq (by omega) (by omega)).mpr h9; rw [nI_0] at h8; exact h8)
            refine lv_iconst (v := (nI (0))) hx hb zd_N_isSmall_51 (by decide) ?_
            exact kz_zret F () hdy (by first | exact Or.inl rfl | exact Or.inr rfl | assumption) (⟨by first | exact Or.inl rfl | exact Or.inr rfl | assumption, by first | exact Or.inl ⟨rfl, kv_flag_of hgr (by omega)⟩ | exact Or.inr ⟨rfl, by rw [kv_small0 (fun j a b => hzz (by omega) j a (by omega))]; have h8 := hsm (by omega); omega⟩, trivial⟩) zd_N_isSmall_52
          · have hc44 : c20 = 0 := (nI_eq (by omega) (by omega)).mp (by rw [nI_0]; exact hc44)
            refine lv_iconst (v := (nI (1))) hx hb zd_N_isSmall_47 (by decide) ?_
            refine lv_goto (tgt := 52) hx hb zd_N_isSmall_48 (by decide) ?_
            exact kz_zret F () hdy (by first | exact Or.inl rfl | exact Or.inr rfl | assumption) (⟨by first | exact Or.inl rfl | exact Or.inr rfl | assumption, by first | exact Or.inl ⟨rfl, kv_flag_of hgr (by omega)⟩ | exact Or.inr ⟨rfl, by rw [kv_small0 (fun j a b => hzz (by omega) j a (by omega))]; have h8 := hsm (by omega); omega⟩, trivial⟩) zd_N_isSmall_52
        · have hc18 : ¬ 16 ≤ k15 := fun h9 => hc18 ((nI_leI (by omega) (by omega)).mpr h9)
          refine lv_iload_n hx hb zd_N_isSmall_21 rfl (lv_at hl 1 rfl) ?_
          refine lv_if_ne (tgt := 31) hx hb zd_N_isSmall_22 (by decide) (fun hc22 => ?_) (fun hc22 => ?_)
          · have hc22 : ¬ c20 = 0 := fun h9 => hc22 (by have h8 := (nI_eq (by omega) (by omega)).mpr h9; rw [nI_0] at h8; exact h8)
            refine lv_iconst (v := (nI (1))) hx hb zd_N_isSmall_31 (by decide) ?_
            refine lv_goto (tgt := 36) hx hb zd_N_isSmall_32 (by decide) ?_
            refine lv_istore_n (lv' := [(1, .int (nI (1))), (2, .int (nI (k15))), (0, .ref a)]) hx hb zd_N_isSmall_36 rfl hl (by decide) rfl (fun ls hl => ?_)
            refine lv_iinc (v := (nI (k15 + 1))) (lv' := [(2, .int (nI (k15 + 1))), (1, .int (nI (1))), (0, .ref a)]) hx hb zd_N_isSmall_37 hl (k := 1) rfl (nI_1 _) (by decide) rfl (fun ls hl => ?_)
            refine lv_goto (tgt := 15) hx hb zd_N_isSmall_40 (by decide) ?_
            have hi9_hg121 : 1 ≤ 1 := by omega
            have hi9_hgr22 : kv_flag (1) (3 ≤ kv_val ga 16) := by first | exact hgr | exact Or.inl rfl | exact Or.inr (kv_flag_of hgr (by omega)) | exact Or.inr (kv_big (k := k15) (by omega) (by omega) (by omega))
            have hi9_hsm23 : 1 = 0 → ga 0 ≤ 2 := by first | exact hsm | (intro h; first | (exfalso; omega) | exact hsm (by omega))
            have hi9_hzz24 : 1 = 0 → ∀ j, 0 < j → j < k15 + 1 → ga j = 0 := by intro h j a b; first | (exfalso; omega) | (rcases (by omega : j = k15 ∨ j < k15) with h8 | h8; (rw [h8]; omega); exact hzz (by omega) j a h8)
            exact ih15 (k15 + 1) (1) _ _ _ (by omega) (by omega) (by omega) hi9_hg121 hi9_hgr22 hi9_hsm23 hi9_hzz24 hdy (lv_sub hl [0, 1, 2] rfl)
          · have hc22 : c20 = 0 := (nI_eq (by omega) (by omega)).mp (by rw [nI_0]; exact hc22)
            refine lv_aload_n hx hb zd_N_isSmall_25 rfl (lv_at hl 2 rfl) ?_
            refine lv_iload_n hx hb zd_N_isSmall_26 rfl (lv_at hl 0 rfl) ?_
            refine kz_riald hx hb hK hro hdy.2.2 0 0 rfl rfl (vp_in_nI (by omega) (by omega)) zd_N_isSmall_27 ?_
            refine lv_topi (fun x25 h9 => ?_)
            obtain rfl : x25 = nI (ga k15) := h9.trans (kz_dgl ga (by omega))
            have hbx25 := hd_ga k15
            refine lv_if_le (tgt := 35) hx hb zd_N_isSmall_28 (by decide) (fun hc28 => ?_) (fun hc28 => ?_)
            · have hc28 : (ga k15) ≤ 0 := (nI_leI (by omega) (by omega)).mp (by rw [nI_0]; exact hc28)
              refine lv_iconst (v := (nI (0))) hx hb zd_N_isSmall_35 (by decide) ?_
              refine lv_istore_n (lv' := [(1, .int (nI (0))), (2, .int (nI (k15))), (0, .ref a)]) hx hb zd_N_isSmall_36 rfl hl (by decide) rfl (fun ls hl => ?_)
              refine lv_iinc (v := (nI (k15 + 1))) (lv' := [(2, .int (nI (k15 + 1))), (1, .int (nI (0))), (0, .ref a)]) hx hb zd_N_isSmall_37 hl (k := 1) rfl (nI_1 _) (by decide) rfl (fun ls hl => ?_)
              refine lv_goto (tgt := 15) hx hb zd_N_isSmall_40 (by decide) ?_
              have hi9_hg126 : 0 ≤ 1 := by omega
              have hi9_hgr27 : kv_flag (0) (3 ≤ kv_val ga 16) := by first | exact hgr | exact Or.inl rfl | exact Or.inr (kv_flag_of hgr (by omega)) | exact Or.inr (kv_big (k := k15) (by omega) (by omega) (by omega))
              have hi9_hsm28 : 0 = 0 → ga 0 ≤ 2 := by first | exact hsm | (intro h; first | (exfalso; omega) | exact hsm (by omega))
              have hi9_hzz29 : 0 = 0 → ∀ j, 0 < j → j < k15 + 1 → ga j = 0 := by intro h j a b; first | (exfalso; omega) | (rcases (by omega : j = k15 ∨ j < k15) with h8 | h8; (rw [h8]; omega); exact hzz (by omega) j a h8)
              exact ih15 (k15 + 1) (0) _ _ _ (by omega) (by omega) (by omega) hi9_hg126 hi9_hgr27 hi9_hsm28 hi9_hzz29 hdy (lv_sub hl [0, 1, 2] rfl)
            · have hc28 : ¬ (ga k15) ≤ 0 := fun h9 => hc28 (by have h8 := (nI_leI (by omega) (by omega)).mpr h9; rw [nI_0] at h8; exact h8)
              refine lv_iconst (v := (nI (1))) hx hb zd_N_isSmall_31 (by decide) ?_
              refine lv_goto (tgt := 36) hx hb zd_N_isSmall_32 (by decide) ?_
              refine lv_istore_n (lv' := [(1, .int (nI (1))), (2, .int (nI (k15))), (0, .ref a)]) hx hb zd_N_isSmall_36 rfl hl (by decide) rfl (fun ls hl => ?_)
              refine lv_iinc (v := (nI (k15 + 1))) (lv' := [(2, .int (nI (k15 + 1))), (1, .int (nI (1))), (0, .ref a)]) hx hb zd_N_isSmall_37 hl (k := 1) rfl (nI_1 _) (by decide) rfl (fun ls hl => ?_)
              refine lv_goto (tgt := 15) hx hb zd_N_isSmall_40 (by decide) ?_
              have hi9_hg130 : 1 ≤ 1 := by omega
              have hi9_hgr31 : kv_flag (1) (3 ≤ kv_val ga 16) := by first | exact hgr | exact Or.inl rfl | exact Or.inr (kv_flag_of hgr (by omega)) | exact Or.inr (kv_big (k := k15) (by omega) (by omega) (by omega))
              have hi9_hsm32 : 1 = 0 → ga 0 ≤ 2 := by first | exact hsm | (intro h; first | (exfalso; omega) | exact hsm (by omega))
              have hi9_hzz33 : 1 = 0 → ∀ j, 0 < j → j < k15 + 1 → ga j = 0 := by intro h j a b; first | (exfalso; omega) | (rcases (by omega : j = k15 ∨ j < k15) with h8 | h8; (rw [h8]; omega); exact hzz (by omega) j a h8)
              exact ih15 (k15 + 1) (1) _ _ _ (by omega) (by omega) (by omega) hi9_hg130 hi9_hgr31 hi9_hsm32 hi9_hzz33 hdy (lv_sub hl [0, 1, 2] rfl)
    have hi9_hg134 : 1 ≤ 1 := by omega
    have hi9_hgr35 : kv_flag (1) (3 ≤ kv_val ga 16) := by first | exact Or.inl rfl | (have h8 := kv_ge0 ga; exact Or.inr (by omega))
    have hi9_hsm36 : 1 = 0 → ga 0 ≤ 2 := by intro h; omega
    have hi9_hzz37 : 1 = 0 → ∀ j, 0 < j → j < 1 → ga j = 0 := by intro h j a b; omega
    exact lp15 (16 - 1 + 1) 1 (1) _ _ _ (by omega) (by omega) (by omega) hi9_hg134 hi9_hgr35 hi9_hsm36 hi9_hzz37 hdy (lv_sub hl [0, 1, 2] rfl)

set_option maxHeartbeats 4000000 in
set_option maxRecDepth 100000 in
/-- KeyMeetingModel.lessOne([I)V -/
theorem c_F_lessOne (l : Launch) (dC : Nat → ClassId) (dI : Nat → Nat → Nat) (cI cAA cB cL : ClassId) (o : Nat) (go : Nat → Nat) (sz : Nat) (hd_go : ∀ j, go j < 65536) (hnz : kv_some go 0 16) : Met l zy_N_lessOne zw_N_lessOne { frames := 0, cells := 0, slots := 0, locals := 0 } (kz_Pc (dC, dI) vwCl [(cI, .int), (cAA, .array .int), (cB, .byte), (cL, .long)] [] [] [.ref o] [(o, .inl (cI, 16, .inl (kz_dg go)))] [] sz) (va_Qv (fun (u : (Nat → Nat)) => (∀ j, u j < 65536) ∧ (kv_val u 16 + 1 = kv_val go 16) ∧ True) (kz_B (dC, dI) vwCl (va_A [(o, .inl (cI, 16, .inl (kz_dg go)))] sz) (fun u : (Nat → Nat) => [(o, .inl (cI, 16, .inl (kz_dg u)))])) (va_A [(o, .inl (cI, 16, .inl (kz_dg go)))] sz)) 0 0 (va_A [(o, .inl (cI, 16, .inl (kz_dg go)))] sz) := by
  refine kz_met (y := zy_N_lessOne) (ws := zw_N_lessOne) (av := [.ref o]) (sz := sz) (Qc := fun A => va_Qv (fun (u : (Nat → Nat)) => (∀ j, u j < 65536) ∧ (kv_val u 16 + 1 = kv_val go 16) ∧ True) (kz_B (dC, dI) vwCl A (fun u : (Nat → Nat) => [(o, .inl (cI, 16, .inl (kz_dg u)))])) A) (cc := zc_N_lessOne) (maxL := 2) (ret := none) (by decide) rfl (Nat.le_of_ble_eq_true rfl) ?_
  intro p e s m below meth c A ls F hA hdy hK hro hZ hN hl
  obtain ⟨hx, hb, hml, hr, hown, hlocks, hts, hnm⟩ := id F
  have hl : lv_has ls 2 [(0, .ref o)] := hl
  refine lv_iconst (v := (nI (0))) hx hb zd_N_lessOne_0 (by decide) ?_
  refine lv_istore_n (lv' := [(1, .int (nI (0))), (0, .ref o)]) hx hb zd_N_lessOne_1 rfl hl (by decide) rfl (fun ls hl => ?_)
  have lp2 : ∀ (n2 k2 : Nat) (d1 : Nat → Nat) (H : Heap) (locs : List Loc) (ls : Array Slot), k2 ≤ 16 → 16 - k2 < n2 → (∀ j, d1 j < 65536) → (kv_some d1 (k2) 16) → (kv_val d1 16 + 1 = kv_val go 16 + 65536 ^ (k2)) → kz_dy (dC, dI) vwCl A s.heap H locs [(o, .inl (cI, 16, .inl (kz_dg d1)))] → lv_has ls 2 [(1, .int (nI (k2))), (0, .ref o)] → W p l e { frames := 0, cells := 0, slots := 0, locals := 0 } s m ([.ref o] : List Value).toArray below meth c H locs 0 0 (MQ below (va_Qv (fun (u : (Nat → Nat)) => (∀ j, u j < 65536) ∧ (kv_val u 16 + 1 = kv_val go 16) ∧ True) (kz_B (dC, dI) vwCl A (fun u : (Nat → Nat) => [(o, .inl (cI, 16, .inl (kz_dg u)))])) A) ([.ref o] : List Value).toArray s 0 0 A) (F0 m 2 ls []) := by
    intro n2
    induction n2 with
    | zero => intro k2; intros; omega
    | succ n2 ih2 =>
      intro k2 d1 H locs ls hi2 hn2 hd_d1 hlo hv hdy hl
      obtain ⟨j9, h91, h92, h93⟩ := id hlo
      refine lv_aload_n hx hb zd_N_lessOne_2 rfl (lv_at hl 1 rfl) ?_
      refine lv_iload_n hx hb zd_N_lessOne_3 rfl (lv_at hl 0 rfl) ?_
      refine va_iald hx hb hK hdy.1 0 0 rfl rfl (vp_in_nI (by omega) (by omega)) zd_N_lessOne_4 ?_
      refine lv_topi (fun x2 h9 => ?_)
      obtain rfl : x2 = nI (d1 k2) := h9.trans (kz_dgl d1 (by omega))
      have hbx2 := hd_d1 k2
      refine lv_if_ne (tgt := 19) hx hb zd_N_lessOne_5 (by decide) (fun hc5 => ?_) (fun hc5 => ?_)
      · have hc5 : ¬ (d1 k2) = 0 := fun h9 => hc5 (by have h8 := (nI_eq (by omega) (by omega)).mpr h9; rw [nI_0] at h8; exact h8)
        refine lv_aload_n hx hb zd_N_lessOne_19 rfl (lv_at hl 1 rfl) ?_
        refine lv_iload_n hx hb zd_N_lessOne_20 rfl (lv_at hl 0 rfl) ?_
        refine lv_dup2_11 hx hb zd_N_lessOne_21 rfl rfl ?_
        refine va_iald hx hb hK hdy.1 0 0 rfl rfl (vp_in_nI (by omega) (by omega)) zd_N_lessOne_22 ?_
        refine lv_topi (fun x3 h9 => ?_)
        obtain rfl : x3 = nI (d1 k2) := h9.trans (kz_dgl d1 (by omega))
        have hbx3 := hd_d1 k2
        refine lv_iconst (v := (nI (1))) hx hb zd_N_lessOne_23 (by decide) ?_
        refine kz_isub hx hb zd_N_lessOne_24 (pk_sub (by omega)) ?_
        refine va_iast hx hb hK hdy.1 hdy.2.1 hdy.2.2 0 0 rfl rfl (vp_in_nI (by omega) (by omega)) zd_N_lessOne_25 (fun H locs hP hD hS => ?_)
        have h9 := kz_dgu d1 (k := k2) (d1 k2 - 1) (by omega)
        rw [h9] at hP hD
        obtain ⟨f4, ef4, hd_f4, hdy⟩ : ∃ f4 : Nat → Nat, f4 = kv_up d1 k2 (d1 k2 - 1) ∧ (∀ j, f4 j < 65536) ∧ kz_dy (dC, dI) vwCl A s.heap H locs [(o, .inl (cI, 16, .inl (kz_dg f4)))] := ⟨_, rfl, kv_up_lt hd_d1 (by omega), hP, hD, hS⟩
        exact kz_vret F (f4) hdy (⟨hd_f4, by rw [ef4]; exact kv_lessEnd (by omega) (by omega) hv, trivial⟩) zd_N_lessOne_26
      · have hc5 : (d1 k2) = 0 := (nI_eq (by omega) (by omega)).mp (by rw [nI_0]; exact hc5)
        refine lv_aload_n hx hb zd_N_lessOne_8 rfl (lv_at hl 1 rfl) ?_
        refine lv_iload_n hx hb zd_N_lessOne_9 rfl (lv_at hl 0 rfl) ?_
        refine lv_ldc (v := (nI (65535))) hx hb hown (hts _ (kz_c mw_693)) zd_N_lessOne_10 ?_
        refine va_iast hx hb hK hdy.1 hdy.2.1 hdy.2.2 0 0 rfl rfl (vp_in_nI (by omega) (by omega)) zd_N_lessOne_12 (fun H locs hP hD hS => ?_)
        have h9 := kz_dgu d1 (k := k2) 65535 (by omega)
        rw [h9] at hP hD
        obtain ⟨f5, ef5, hd_f5, hdy⟩ : ∃ f5 : Nat → Nat, f5 = kv_up d1 k2 65535 ∧ (∀ j, f5 j < 65536) ∧ kz_dy (dC, dI) vwCl A s.heap H locs [(o, .inl (cI, 16, .inl (kz_dg f5)))] := ⟨_, rfl, kv_up_lt hd_d1 (by omega), hP, hD, hS⟩
        refine lv_iinc (v := (nI (k2 + 1))) (lv' := [(1, .int (nI (k2 + 1))), (0, .ref o)]) hx hb zd_N_lessOne_13 hl (k := 0) rfl (nI_1 _) (by decide) rfl (fun ls hl => ?_)
        refine lv_goto (tgt := 2) hx hb zd_N_lessOne_16 (by decide) ?_
        have hi9_hlo6 : kv_some f5 (k2 + 1) 16 := by rw [ef5]; rcases Nat.lt_or_eq_of_le h91 with h8 | h8; exact ⟨j9, by omega, h92, by rw [kv_up_ne _ _ (by omega)]; exact h93⟩; exact absurd h93 (by rw [← h8]; omega)
        have hi9_hv7 : kv_val f5 16 + 1 = kv_val go 16 + 65536 ^ (k2 + 1) := by rw [ef5]; exact kv_lessStep (by omega) (by omega) hv
        exact ih2 (k2 + 1) f5 _ _ _ (by omega) (by omega) hd_f5 hi9_hlo6 hi9_hv7 hdy (lv_sub hl [0, 1] rfl)
  have hi9_hlo8 : kv_some go (0) 16 := by exact hnz
  have hi9_hv9 : kv_val go 16 + 1 = kv_val go 16 + 65536 ^ (0) := by show _ + 1 = _ + 1; rfl
  exact lp2 (16 - 0 + 1) 0 go _ _ _ (by omega) (by omega) hd_go hi9_hlo8 hi9_hv9 hdy (lv_sub hl [0, 1] rfl)

set_option maxHeartbeats 4000000 in
set_option maxRecDepth 100000 in
/-- KeyMeetingModel.find()V -/
theorem c_F_find (l : Launch) (dC : Nat → ClassId) (dI : Nat → Nat → Nat) (cI cAA cB cL : ClassId) (o mt mn ml mc mh mk mp mm mb mw mr mx me mP mQ ms mo mW mD mB mR mS : Nat) (th : Int32) (sta : Int32) (hs : Int32) (sz_ : Nat) (gmP : Nat → Nat) (gmQ : Nat → Nat) (gms : Nat → Nat) (gmx : Nat → Nat) (gmt : Nat → Int32) (sz : Nat) (hd_gmP : ∀ j, gmP j < 65536) (hd_gmQ : ∀ j, gmQ j < 65536) (hd_gms : ∀ j, gms j < 4294967296) (hd_gmx : ∀ j, gmx j < 65536) : Met l zy_N_find zw_N_find { frames := 1, cells := 0, slots := 0, locals := 26 } (kz_Pc (dC, dI) vwCl [(cI, .int), (cAA, .array .int), (cB, .byte), (cL, .long)] [] [] [.ref o] [(o, .inr (4, [.int th, .int sta, .ref mt, .ref mn, .ref ml, .ref mc, .ref mh, .ref mk, .ref mp, .ref mm, .ref mb, .ref mw, .ref mr, .ref mx, .ref me, .ref mP, .ref mQ, .ref ms, .int hs, .int (nI (sz_)), .ref mo, .ref mW, .ref mD, .ref mB, .ref mR, .ref mS])), (mP, .inl (cI, 16, .inl (kz_dg gmP))), (mQ, .inl (cI, 16, .inl (kz_dg gmQ))), (ms, .inl (cI, 18, .inl (kz_dg gms))), (mx, .inl (cI, 32, .inl (kz_dg gmx)))] [(mt, .inl (cI, 56, .inl gmt))] sz) (va_Qv (fun (u : Int32 × (Nat → Nat) × (Nat → Nat) × (Nat → Nat) × (Nat → Nat)) => (∀ j, u.2.1 j < 65536) ∧ (∀ j, u.2.2.1 j < 65536) ∧ (∀ j, u.2.2.2.1 j < 4294967296) ∧ (∀ j, u.2.2.2.2 j < 65536) ∧ ((u.1 = 0 ∧ ¬ kx_fit (kv_val (kv_fig gmt 16) 8) (kv_val (kv_fig gmt 24) 8)) ∨ (u.1 = 1 ∧ kx_fit (kv_val (kv_fig gmt 16) 8) (kv_val (kv_fig gmt 24) 8) ∧ kx_isD (kv_val (kv_fig gmt 16) 8) (kv_val (kv_fig gmt 24) 8) (kv_val u.2.2.2.1 18))) ∧ (u.1 = 1 → ∀ j, j < 18 → u.2.2.2.1 j < 65536) ∧ True) (kz_B (dC, dI) vwCl (va_A [(o, .inr (4, [.int th, .int sta, .ref mt, .ref mn, .ref ml, .ref mc, .ref mh, .ref mk, .ref mp, .ref mm, .ref mb, .ref mw, .ref mr, .ref mx, .ref me, .ref mP, .ref mQ, .ref ms, .int hs, .int (nI (sz_)), .ref mo, .ref mW, .ref mD, .ref mB, .ref mR, .ref mS])), (mP, .inl (cI, 16, .inl (kz_dg gmP))), (mQ, .inl (cI, 16, .inl (kz_dg gmQ))), (ms, .inl (cI, 18, .inl (kz_dg gms))), (mx, .inl (cI, 32, .inl (kz_dg gmx)))] sz) (fun u : Int32 × (Nat → Nat) × (Nat → Nat) × (Nat → Nat) × (Nat → Nat) => [(o, .inr (4, [.int th, .int sta, .ref mt, .ref mn, .ref ml, .ref mc, .ref mh, .ref mk, .ref mp, .ref mm, .ref mb, .ref mw, .ref mr, .ref mx, .ref me, .ref mP, .ref mQ, .ref ms, .int u.1, .int (nI (sz_)), .ref mo, .ref mW, .ref mD, .ref mB, .ref mR, .ref mS])), (mP, .inl (cI, 16, .inl (kz_dg u.2.1))), (mQ, .inl (cI, 16, .inl (kz_dg u.2.2.1))), (ms, .inl (cI, 18, .inl (kz_dg u.2.2.2.1))), (mx, .inl (cI, 32, .inl (kz_dg u.2.2.2.2)))])) (va_A [(o, .inr (4, [.int th, .int sta, .ref mt, .ref mn, .ref ml, .ref mc, .ref mh, .ref mk, .ref mp, .ref mm, .ref mb, .ref mw, .ref mr, .ref mx, .ref me, .ref mP, .ref mQ, .ref ms, .int hs, .int (nI (sz_)), .ref mo, .ref mW, .ref mD, .ref mB, .ref mR, .ref mS])), (mP, .inl (cI, 16, .inl (kz_dg gmP))), (mQ, .inl (cI, 16, .inl (kz_dg gmQ))), (ms, .inl (cI, 18, .inl (kz_dg gms))), (mx, .inl (cI, 32, .inl (kz_dg gmx)))] sz)) 0 0 (va_A [(o, .inr (4, [.int th, .int sta, .ref mt, .ref mn, .ref ml, .ref mc, .ref mh, .ref mk, .ref mp, .ref mm, .ref mb, .ref mw, .ref mr, .ref mx, .ref me, .ref mP, .ref mQ, .ref ms, .int hs, .int (nI (sz_)), .ref mo, .ref mW, .ref mD, .ref mB, .ref mR, .ref mS])), (mP, .inl (cI, 16, .inl (kz_dg gmP))), (mQ, .inl (cI, 16, .inl (kz_dg gmQ))), (ms, .inl (cI, 18, .inl (kz_dg gms))), (mx, .inl (cI, 32, .inl (kz_dg gmx)))] sz) := by
  refine kz_met (y := zy_N_find) (ws := zw_N_find) (av := [.ref o]) (sz := sz) (Qc := fun A => va_Qv (fun (u : Int32 × (Nat → Nat) × (Nat → Nat) × (Nat → Nat) × (Nat → Nat)) => (∀ j, u.2.1 j < 65536) ∧ (∀ j, u.2.2.1 j < 65536) ∧ (∀ j, u.2.2.2.1 j < 4294967296) ∧ (∀ j, u.2.2.2.2 j < 65536) ∧ ((u.1 = 0 ∧ ¬ kx_fit (kv_val (kv_fig gmt 16) 8) (kv_val (kv_fig gmt 24) 8)) ∨ (u.1 = 1 ∧ kx_fit (kv_val (kv_fig gmt 16) 8) (kv_val (kv_fig gmt 24) 8) ∧ kx_isD (kv_val (kv_fig gmt 16) 8) (kv_val (kv_fig gmt 24) 8) (kv_val u.2.2.2.1 18))) ∧ (u.1 = 1 → ∀ j, j < 18 → u.2.2.2.1 j < 65536) ∧ True) (kz_B (dC, dI) vwCl A (fun u : Int32 × (Nat → Nat) × (Nat → Nat) × (Nat → Nat) × (Nat → Nat) => [(o, .inr (4, [.int th, .int sta, .ref mt, .ref mn, .ref ml, .ref mc, .ref mh, .ref mk, .ref mp, .ref mm, .ref mb, .ref mw, .ref mr, .ref mx, .ref me, .ref mP, .ref mQ, .ref ms, .int u.1, .int (nI (sz_)), .ref mo, .ref mW, .ref mD, .ref mB, .ref mR, .ref mS])), (mP, .inl (cI, 16, .inl (kz_dg u.2.1))), (mQ, .inl (cI, 16, .inl (kz_dg u.2.2.1))), (ms, .inl (cI, 18, .inl (kz_dg u.2.2.2.1))), (mx, .inl (cI, 32, .inl (kz_dg u.2.2.2.2)))])) A) (cc := zc_N_find) (maxL := 9) (ret := none) (by decide) rfl (Nat.le_of_ble_eq_true rfl) ?_
  intro p e s m below meth c A ls F hA hdy hK hro hZ hN hl
  obtain ⟨hx, hb, hml, hr, hown, hlocks, hts, hnm⟩ := id F
  have hl : lv_has ls 9 [(0, .ref o)] := hl
  refine lv_aload_n hx hb zd_N_find_0 rfl (lv_at hl 0 rfl) ?_
  refine va_get (D := (dC, dI)) (ci := 4) (v := .ref mt) (C := zR_N) (T := zT_N) (N := 26) hx hb hts (fun w h => kz_c (zi_N w h)) hown hK hdy.1 0 rfl rfl 2 (by decide) (hts _ (kz_c mw_593)) (fun _ h9 => h9) rfl zd_N_find_1 ?_
  refine lv_bipush (v := (nI (16))) hx hb zd_N_find_4 (by decide) ?_
  refine lv_aload_n hx hb zd_N_find_6 rfl (lv_at hl 0 rfl) ?_
  refine va_get (D := (dC, dI)) (ci := 4) (v := .ref mP) (C := zR_N) (T := zT_N) (N := 26) hx hb hts (fun w h => kz_c (zi_N w h)) hown hK hdy.1 0 rfl rfl 15 (by decide) (hts _ (kz_c mw_606)) (fun _ h9 => h9) rfl zd_N_find_7 ?_
  refine kz_callv (wk := [(o, .inr (4, [.int th, .int sta, .ref mt, .ref mn, .ref ml, .ref mc, .ref mh, .ref mk, .ref mp, .ref mm, .ref mb, .ref mw, .ref mr, .ref mx, .ref me, .ref mP, .ref mQ, .ref ms, .int hs, .int (nI (sz_)), .ref mo, .ref mW, .ref mD, .ref mB, .ref mR, .ref mS])), (mQ, .inl (cI, 16, .inl (kz_dg gmQ))), (ms, .inl (cI, 18, .inl (kz_dg gms))), (mx, .inl (cI, 32, .inl (kz_dg gmx)))]) (va_runS (As := [.ref mt, .int (nI (16)), .ref mP]) (rest := []) ⟨hx, hb, hml, hown, hts⟩ (c_X_figures56 l dC dI cI cAA cB cL mP mt gmP gmt 16 _ hd_gmP (by first | omega | assumption)) (va_cwS 3 hts (kz_g (kz_mc mw_690 (kz_mc mw_691 (kz_mc mw_43 kz_mn))) mw_692) rfl rfl rfl (by decide +kernel) ⟨Nat.le_of_ble_eq_true rfl, Nat.le_of_ble_eq_true rfl⟩) (kz_preS hdy hA hK hro hZ hN [1] (by decide) rfl [(true, 0)] rfl (by decide) [0, 1, 2, 3] rfl (fun _ h => by cases h) (fun _ h => by cases h) rfl) rfl rfl hl.1 rfl (lv_room (Nat.le_of_ble_eq_true rfl)) zd_N_find_10 ⟨Nat.le_of_ble_eq_true rfl, Nat.le_of_ble_eq_true rfl⟩) hdy hA [1] [0, 2, 3, 4] rfl rfl (by decide) (by decide) (fun u H locs hw hdy => ?_)
  obtain ⟨d1, rfl⟩ : ∃ z, z = u := ⟨_, rfl⟩
  try dsimp only at hw
  obtain ⟨hd_d1, q2, -⟩ := hw
  have hdy : kz_dy (dC, dI) vwCl A s.heap H locs [(o, .inr (4, [.int th, .int sta, .ref mt, .ref mn, .ref ml, .ref mc, .ref mh, .ref mk, .ref mp, .ref mm, .ref mb, .ref mw, .ref mr, .ref mx, .ref me, .ref mP, .ref mQ, .ref ms, .int hs, .int (nI (sz_)), .ref mo, .ref mW, .ref mD, .ref mB, .ref mR, .ref mS])), (mP, .inl (cI, 16, .inl (kz_dg d1))), (mQ, .inl (cI, 16, .inl (kz_dg gmQ))), (ms, .inl (cI, 18, .inl (kz_dg gms))), (mx, .inl (cI, 32, .inl (kz_dg gmx)))] := hdy.sub [0, 4, 1, 2, 3] (by decide) rfl
  refine lv_aload_n hx hb zd_N_find_13 rfl (lv_at hl 0 rfl) ?_
  refine va_get (D := (dC, dI)) (ci := 4) (v := .ref mt) (C := zR_N) (T := zT_N) (N := 26) hx hb hts (fun w h => kz_c (zi_N w h)) hown hK hdy.1 0 rfl rfl 2 (by decide) (hts _ (kz_c mw_593)) (fun _ h9 => h9) rfl zd_N_find_14 ?_
  refine lv_bipush (v := (nI (24))) hx hb zd_N_find_17 (by decide) ?_
  refine lv_aload_n hx hb zd_N_find_19 rfl (lv_at hl 0 rfl) ?_
  refine va_get (D := (dC, dI)) (ci := 4) (v := .ref mQ) (C := zR_N) (T := zT_N) (N := 26) hx hb hts (fun w h => kz_c (zi_N w h)) hown hK hdy.1 0 rfl rfl 16 (by decide) (hts _ (kz_c mw_607)) (fun _ h9 => h9) rfl zd_N_find_20 ?_
  refine kz_callv (wk := [(o, .inr (4, [.int th, .int sta, .ref mt, .ref mn, .ref ml, .ref mc, .ref mh, .ref mk, .ref mp, .ref mm, .ref mb, .ref mw, .ref mr, .ref mx, .ref me, .ref mP, .ref mQ, .ref ms, .int hs, .int (nI (sz_)), .ref mo, .ref mW, .ref mD, .ref mB, .ref mR, .ref mS])), (mP, .inl (cI, 16, .inl (kz_dg d1))), (ms, .inl (cI, 18, .inl (kz_dg gms))), (mx, .inl (cI, 32, .inl (kz_dg gmx)))]) (va_runS (As := [.ref mt, .int (nI (24)), .ref mQ]) (rest := []) ⟨hx, hb, hml, hown, hts⟩ (c_X_figures56 l dC dI cI cAA cB cL mQ mt gmQ gmt 24 _ hd_gmQ (by first | omega | assumption)) (va_cwS 3 hts (kz_g (kz_mc mw_690 (kz_mc mw_691 (kz_mc mw_43 kz_mn))) mw_692) rfl rfl rfl (by decide +kernel) ⟨Nat.le_of_ble_eq_true rfl, Nat.le_of_ble_eq_true rfl⟩) (kz_preS hdy hA hK hro hZ hN [2] (by decide) rfl [(true, 0)] rfl (by decide) [0, 1, 2, 3] rfl (fun _ h => by cases h) (fun _ h => by cases h) rfl) rfl rfl hl.1 rfl (lv_room (Nat.le_of_ble_eq_true rfl)) zd_N_find_23 ⟨Nat.le_of_ble_eq_true rfl, Nat.le_of_ble_eq_true rfl⟩) hdy hA [2] [0, 1, 3, 4] rfl rfl (by decide) (by decide) (fun u H locs hw hdy => ?_)
  obtain ⟨d3, rfl⟩ : ∃ z, z = u := ⟨_, rfl⟩
  try dsimp only at hw
  obtain ⟨hd_d3, q4, -⟩ := hw
  have hdy : kz_dy (dC, dI) vwCl A s.heap H locs [(o, .inr (4, [.int th, .int sta, .ref mt, .ref mn, .ref ml, .ref mc, .ref mh, .ref mk, .ref mp, .ref mm, .ref mb, .ref mw, .ref mr, .ref mx, .ref me, .ref mP, .ref mQ, .ref ms, .int hs, .int (nI (sz_)), .ref mo, .ref mW, .ref mD, .ref mB, .ref mR, .ref mS])), (mP, .inl (cI, 16, .inl (kz_dg d1))), (mQ, .inl (cI, 16, .inl (kz_dg d3))), (ms, .inl (cI, 18, .inl (kz_dg gms))), (mx, .inl (cI, 32, .inl (kz_dg gmx)))] := hdy.sub [0, 1, 4, 2, 3] (by decide) rfl
  refine lv_bipush (v := (nI (8))) hx hb zd_N_find_26 (by decide) ?_
  refine lv_istore_n (lv' := [(1, .int (nI (8))), (0, .ref o)]) hx hb zd_N_find_28 rfl hl (by decide) rfl (fun ls hl => ?_)
  have lp29 : ∀ (n29 k29 : Nat) (d5 : Nat → Nat) (d6 : Nat → Nat) (H : Heap) (locs : List Loc) (ls : Array Slot), k29 ≤ 16 → 16 - k29 < n29 → 8 ≤ k29 → (∀ j, d5 j < 65536) → (∀ j, d6 j < 65536) → (∀ j, j < 8 → d5 j = kv_fig gmt 16 j) → (∀ j, 8 ≤ j → j < k29 → d5 j = 0) → (∀ j, j < 8 → d6 j = kv_fig gmt 24 j) → (∀ j, 8 ≤ j → j < k29 → d6 j = 0) → kz_dy (dC, dI) vwCl A s.heap H locs [(o, .inr (4, [.int th, .int sta, .ref mt, .ref mn, .ref ml, .ref mc, .ref mh, .ref mk, .ref mp, .ref mm, .ref mb, .ref mw, .ref mr, .ref mx, .ref me, .ref mP, .ref mQ, .ref ms, .int hs, .int (nI (sz_)), .ref mo, .ref mW, .ref mD, .ref mB, .ref mR, .ref mS])), (mP, .inl (cI, 16, .inl (kz_dg d5))), (mQ, .inl (cI, 16, .inl (kz_dg d6))), (ms, .inl (cI, 18, .inl (kz_dg gms))), (mx, .inl (cI, 32, .inl (kz_dg gmx)))] → lv_has ls 9 [(1, .int (nI (k29))), (0, .ref o)] → W p l e { frames := 1, cells := 0, slots := 0, locals := 26 } s m ([.ref o] : List Value).toArray below meth c H locs 0 0 (MQ below (va_Qv (fun (u : Int32 × (Nat → Nat) × (Nat → Nat) × (Nat → Nat) × (Nat → Nat)) => (∀ j, u.2.1 j < 65536) ∧ (∀ j, u.2.2.1 j < 65536) ∧ (∀ j, u.2.2.2.1 j < 4294967296) ∧ (∀ j, u.2.2.2.2 j < 65536) ∧ ((u.1 = 0 ∧ ¬ kx_fit (kv_val (kv_fig gmt 16) 8) (kv_val (kv_fig gmt 24) 8)) ∨ (u.1 = 1 ∧ kx_fit (kv_val (kv_fig gmt 16) 8) (kv_val (kv_fig gmt 24) 8) ∧ kx_isD (kv_val (kv_fig gmt 16) 8) (kv_val (kv_fig gmt 24) 8) (kv_val u.2.2.2.1 18))) ∧ (u.1 = 1 → ∀ j, j < 18 → u.2.2.2.1 j < 65536) ∧ True) (kz_B (dC, dI) vwCl A (fun u : Int32 × (Nat → Nat) × (Nat → Nat) × (Nat → Nat) × (Nat → Nat) => [(o, .inr (4, [.int th, .int sta, .ref mt, .ref mn, .ref ml, .ref mc, .ref mh, .ref mk, .ref mp, .ref mm, .ref mb, .ref mw, .ref mr, .ref mx, .ref me, .ref mP, .ref mQ, .ref ms, .int u.1, .int (nI (sz_)), .ref mo, .ref mW, .ref mD, .ref mB, .ref mR, .ref mS])), (mP, .inl (cI, 16, .inl (kz_dg u.2.1))), (mQ, .inl (cI, 16, .inl (kz_dg u.2.2.1))), (ms, .inl (cI, 18, .inl (kz_dg u.2.2.2.1))), (mx, .inl (cI, 32, .inl (kz_dg u.2.2.2.2)))])) A) ([.ref o] : List Value).toArray s 0 0 A) (F0 m 29 ls []) := by
    intro n29
    induction n29 with
    | zero => intro k29; intros; omega
    | succ n29 ih29 =>
      intro k29 d5 d6 H locs ls hi29 hn29 hblow hd_d5 hd_d6 hfp hfp0 hfq hfq0 hdy hl
      refine lv_iload_n hx hb zd_N_find_29 rfl (lv_at hl 0 rfl) ?_
      refine lv_bipush (v := (nI (16))) hx hb zd_N_find_30 (by decide) ?_
      refine lv_icmp_ge (tgt := 55) hx hb zd_N_find_32 (by decide) (fun hc32 => ?_) (fun hc32 => ?_)
      · have hc32 : 16 ≤ k29 := (nI_leI (by omega) (by omega)).mp hc32
        have hVP : kv_val d5 16 = kv_val (kv_fig gmt 16) 8 := kv_valLow hfp (fun j a b => hfp0 j a (by omega))
        have hVQ : kv_val d6 16 = kv_val (kv_fig gmt 24) 8 := kv_valLow hfq (fun j a b => hfq0 j a (by omega))
        have hPl := kv_lt (kv_fig_lt gmt 16) 8
        have hQl := kv_lt (kv_fig_lt gmt 24) 8
        refine lv_aload_n hx hb zd_N_find_55 rfl (lv_at hl 1 rfl) ?_
        refine lv_iconst (v := (nI (0))) hx hb zd_N_find_56 (by decide) ?_
        refine va_put (D := (dC, dI)) (ci := 4) (v := .int (nI (0))) (ty := .boolean) (C := zR_N) (T := zT_N) (N := 26) hx hb hts (fun w h => kz_c (zi_N w h)) zt_N zo_N zn_N hown hK hdy.1 hdy.2.1 hdy.2.2 0 rfl rfl 18 (by decide) (hts _ (kz_c mw_609)) (fun _ h9 => h9) rfl (by decide +kernel) rfl rfl (Nat.le_of_ble_eq_true rfl) zd_N_find_57 (fun H locs hP hD hS => ?_)
        have hdy : kz_dy (dC, dI) vwCl A s.heap H locs [(o, .inr (4, [.int th, .int sta, .ref mt, .ref mn, .ref ml, .ref mc, .ref mh, .ref mk, .ref mp, .ref mm, .ref mb, .ref mw, .ref mr, .ref mx, .ref me, .ref mP, .ref mQ, .ref ms, .int (nI (0)), .int (nI (sz_)), .ref mo, .ref mW, .ref mD, .ref mB, .ref mR, .ref mS])), (mP, .inl (cI, 16, .inl (kz_dg d5))), (mQ, .inl (cI, 16, .inl (kz_dg d6))), (ms, .inl (cI, 18, .inl (kz_dg gms))), (mx, .inl (cI, 32, .inl (kz_dg gmx)))] := ⟨hP, hD, hS⟩
        refine lv_iconst (v := (nI (0))) hx hb zd_N_find_60 (by decide) ?_
        refine lv_istore_n (lv' := [(1, .int (nI (0))), (0, .ref o)]) hx hb zd_N_find_61 rfl hl (by decide) rfl (fun ls hl => ?_)
        have lp62 : ∀ (n62 k62 : Nat) (d7 : Nat → Nat) (H : Heap) (locs : List Loc) (ls : Array Slot), k62 ≤ 18 → 18 - k62 < n62 → (∀ j, d7 j < 4294967296) → kz_dy (dC, dI) vwCl A s.heap H locs [(o, .inr (4, [.int th, .int sta, .ref mt, .ref mn, .ref ml, .ref mc, .ref mh, .ref mk, .ref mp, .ref mm, .ref mb, .ref mw, .ref mr, .ref mx, .ref me, .ref mP, .ref mQ, .ref ms, .int (nI (0)), .int (nI (sz_)), .ref mo, .ref mW, .ref mD, .ref mB, .ref mR, .ref mS])), (mP, .inl (cI, 16, .inl (kz_dg d5))), (mQ, .inl (cI, 16, .inl (kz_dg d6))), (ms, .inl (cI, 18, .inl (kz_dg d7))), (mx, .inl (cI, 32, .inl (kz_dg gmx)))] → lv_has ls 9 [(1, .int (nI (k62))), (0, .ref o)] → W p l e { frames := 1, cells := 0, slots := 0, locals := 26 } s m ([.ref o] : List Value).toArray below meth c H locs 0 0 (MQ below (va_Qv (fun (u : Int32 × (Nat → Nat) × (Nat → Nat) × (Nat → Nat) × (Nat → Nat)) => (∀ j, u.2.1 j < 65536) ∧ (∀ j, u.2.2.1 j < 65536) ∧ (∀ j, u.2.2.2.1 j < 4294967296) ∧ (∀ j, u.2.2.2.2 j < 65536) ∧ ((u.1 = 0 ∧ ¬ kx_fit (kv_val (kv_fig gmt 16) 8) (kv_val (kv_fig gmt 24) 8)) ∨ (u.1 = 1 ∧ kx_fit (kv_val (kv_fig gmt 16) 8) (kv_val (kv_fig gmt 24) 8) ∧ kx_isD (kv_val (kv_fig gmt 16) 8) (kv_val (kv_fig gmt 24) 8) (kv_val u.2.2.2.1 18))) ∧ (u.1 = 1 → ∀ j, j < 18 → u.2.2.2.1 j < 65536) ∧ True) (kz_B (dC, dI) vwCl A (fun u : Int32 × (Nat → Nat) × (Nat → Nat) × (Nat → Nat) × (Nat → Nat) => [(o, .inr (4, [.int th, .int sta, .ref mt, .ref mn, .ref ml, .ref mc, .ref mh, .ref mk, .ref mp, .ref mm, .ref mb, .ref mw, .ref mr, .ref mx, .ref me, .ref mP, .ref mQ, .ref ms, .int u.1, .int (nI (sz_)), .ref mo, .ref mW, .ref mD, .ref mB, .ref mR, .ref mS])), (mP, .inl (cI, 16, .inl (kz_dg u.2.1))), (mQ, .inl (cI, 16, .inl (kz_dg u.2.2.1))), (ms, .inl (cI, 18, .inl (kz_dg u.2.2.2.1))), (mx, .inl (cI, 32, .inl (kz_dg u.2.2.2.2)))])) A) ([.ref o] : List Value).toArray s 0 0 A) (F0 m 62 ls []) := by
          intro n62
          induction n62 with
          | zero => intro k62; intros; omega
          | succ n62 ih62 =>
            intro k62 d7 H locs ls hi62 hn62 hd_d7 hdy hl
            refine lv_iload_n hx hb zd_N_find_62 rfl (lv_at hl 0 rfl) ?_
            refine lv_bipush (v := (nI (18))) hx hb zd_N_find_63 (by decide) ?_
            refine lv_icmp_ge (tgt := 81) hx hb zd_N_find_65 (by decide) (fun hc65 => ?_) (fun hc65 => ?_)
            · have hc65 : 18 ≤ k62 := (nI_leI (by omega) (by omega)).mp hc65
              refine lv_aload_n hx hb zd_N_find_81 rfl (lv_at hl 1 rfl) ?_
              refine va_get (D := (dC, dI)) (ci := 4) (v := .ref mP) (C := zR_N) (T := zT_N) (N := 26) hx hb hts (fun w h => kz_c (zi_N w h)) hown hK hdy.1 0 rfl rfl 15 (by decide) (hts _ (kz_c mw_606)) (fun _ h9 => h9) rfl zd_N_find_82 ?_
              refine kz_calli (wk := [(o, .inr (4, [.int th, .int sta, .ref mt, .ref mn, .ref ml, .ref mc, .ref mh, .ref mk, .ref mp, .ref mm, .ref mb, .ref mw, .ref mr, .ref mx, .ref me, .ref mP, .ref mQ, .ref ms, .int (nI (0)), .int (nI (sz_)), .ref mo, .ref mW, .ref mD, .ref mB, .ref mR, .ref mS])), (mP, .inl (cI, 16, .inl (kz_dg d5))), (mQ, .inl (cI, 16, .inl (kz_dg d6))), (ms, .inl (cI, 18, .inl (kz_dg d7))), (mx, .inl (cI, 32, .inl (kz_dg gmx)))]) (va_runS (As := [.ref mP]) (rest := []) ⟨hx, hb, hml, hown, hts⟩ (c_F_isSmall l dC dI cI cAA cB cL mP d5 _ hd_d5) (va_cwS 1 hts (kz_g (kz_mc mw_698 (kz_mc mw_699 (kz_mc mw_43 kz_mn))) mw_700) rfl rfl rfl (by decide +kernel) ⟨Nat.le_of_ble_eq_true rfl, Nat.le_of_ble_eq_true rfl⟩) (kz_preS hdy hA hK hro hZ hN [] (by decide) rfl [(false, 1)] rfl (by decide) [0, 1, 2, 3] rfl (fun _ h => by cases h) (fun _ h => by cases h) rfl) rfl rfl hl.1 rfl (lv_room (Nat.le_of_ble_eq_true rfl)) zd_N_find_85 ⟨Nat.le_of_ble_eq_true rfl, Nat.le_of_ble_eq_true rfl⟩) hdy hA [] [0, 1, 2, 3, 4] rfl rfl (by decide) (by decide) (fun r u H locs hw hdy => ?_)
              obtain ⟨r8, rfl⟩ : ∃ z, z = r := ⟨_, rfl⟩
              try dsimp only at hw
              obtain ⟨hzr8, q9, -⟩ := hw
              have hdy : kz_dy (dC, dI) vwCl A s.heap H locs [(o, .inr (4, [.int th, .int sta, .ref mt, .ref mn, .ref ml, .ref mc, .ref mh, .ref mk, .ref mp, .ref mm, .ref mb, .ref mw, .ref mr, .ref mx, .ref me, .ref mP, .ref mQ, .ref ms, .int (nI (0)), .int (nI (sz_)), .ref mo, .ref mW, .ref mD, .ref mB, .ref mR, .ref mS])), (mP, .inl (cI, 16, .inl (kz_dg d5))), (mQ, .inl (cI, 16, .inl (kz_dg d6))), (ms, .inl (cI, 18, .inl (kz_dg d7))), (mx, .inl (cI, 32, .inl (kz_dg gmx)))] := hdy.sub [0, 1, 2, 3, 4] (by decide) rfl
              refine lv_if_ne (tgt := 101) hx hb zd_N_find_88 (by decide) (fun hc88 => ?_) (fun hc88 => ?_)
              · exact kz_vret F ((nI (0)), d5, d6, d7, gmx) hdy (⟨hd_d5, hd_d6, hd_d7, hd_gmx, by (exact Or.inl ⟨rfl, fun h9 => by have h8 := h9.1; rcases q9 with h7 | h7; exact absurd h7.1 hc88; omega⟩), by intro h; exact absurd (show nI 0 = 1 from h) (by decide), trivial⟩) zd_N_find_101
              · have hP3 := (q9.resolve_right (fun h => absurd (hc88.symm.trans h.1) (by decide))).2
                refine lv_aload_n hx hb zd_N_find_91 rfl (lv_at hl 1 rfl) ?_
                refine va_get (D := (dC, dI)) (ci := 4) (v := .ref mQ) (C := zR_N) (T := zT_N) (N := 26) hx hb hts (fun w h => kz_c (zi_N w h)) hown hK hdy.1 0 rfl rfl 16 (by decide) (hts _ (kz_c mw_607)) (fun _ h9 => h9) rfl zd_N_find_92 ?_
                refine kz_calli (wk := [(o, .inr (4, [.int th, .int sta, .ref mt, .ref mn, .ref ml, .ref mc, .ref mh, .ref mk, .ref mp, .ref mm, .ref mb, .ref mw, .ref mr, .ref mx, .ref me, .ref mP, .ref mQ, .ref ms, .int (nI (0)), .int (nI (sz_)), .ref mo, .ref mW, .ref mD, .ref mB, .ref mR, .ref mS])), (mP, .inl (cI, 16, .inl (kz_dg d5))), (mQ, .inl (cI, 16, .inl (kz_dg d6))), (ms, .inl (cI, 18, .inl (kz_dg d7))), (mx, .inl (cI, 32, .inl (kz_dg gmx)))]) (va_runS (As := [.ref mQ]) (rest := []) ⟨hx, hb, hml, hown, hts⟩ (c_F_isSmall l dC dI cI cAA cB cL mQ d6 _ hd_d6) (va_cwS 1 hts (kz_g (kz_mc mw_698 (kz_mc mw_699 (kz_mc mw_43 kz_mn))) mw_700) rfl rfl rfl (by decide +kernel) ⟨Nat.le_of_ble_eq_true rfl, Nat.le_of_ble_eq_true rfl⟩) (kz_preS hdy hA hK hro hZ hN [] (by decide) rfl [(false, 2)] rfl (by decide) [0, 1, 2, 3] rfl (fun _ h => by cases h) (fun _ h => by cases h) rfl) rfl rfl hl.1 rfl (lv_room (Nat.le_of_ble_eq_true rfl)) zd_N_find_95 ⟨Nat.le_of_ble_eq_true rfl, Nat.le_of_ble_eq_true rfl⟩) hdy hA [] [0, 1, 2, 3, 4] rfl rfl (by decide) (by decide) (fun r u H locs hw hdy => ?_)
                obtain ⟨r10, rfl⟩ : ∃ z, z = r := ⟨_, rfl⟩
                try dsimp only at hw
                obtain ⟨hzr10, q11, -⟩ := hw
                have hdy : kz_dy (dC, dI) vwCl A s.heap H locs [(o, .inr (4, [.int th, .int sta, .ref mt, .ref mn, .ref ml, .ref mc, .ref mh, .ref mk, .ref mp, .ref mm, .ref mb, .ref mw, .ref mr, .ref mx, .ref me, .ref mP, .ref mQ, .ref ms, .int (nI (0)), .int (nI (sz_)), .ref mo, .ref mW, .ref mD, .ref mB, .ref mR, .ref mS])), (mP, .inl (cI, 16, .inl (kz_dg d5))), (mQ, .inl (cI, 16, .inl (kz_dg d6))), (ms, .inl (cI, 18, .inl (kz_dg d7))), (mx, .inl (cI, 32, .inl (kz_dg gmx)))] := hdy.sub [0, 1, 2, 3, 4] (by decide) rfl
                refine lv_if_eq (tgt := 102) hx hb zd_N_find_98 (by decide) (fun hc98 => ?_) (fun hc98 => ?_)
                · have hQ3 := (q11.resolve_right (fun h => absurd (hc98.symm.trans h.1) (by decide))).2
                  have hsP := kv_some_of (d := d5) (n := 16) (by omega)
                  have hsQ := kv_some_of (d := d6) (n := 16) (by omega)
                  refine lv_aload_n hx hb zd_N_find_102 rfl (lv_at hl 1 rfl) ?_
                  refine va_get (D := (dC, dI)) (ci := 4) (v := .ref mP) (C := zR_N) (T := zT_N) (N := 26) hx hb hts (fun w h => kz_c (zi_N w h)) hown hK hdy.1 0 rfl rfl 15 (by decide) (hts _ (kz_c mw_606)) (fun _ h9 => h9) rfl zd_N_find_103 ?_
                  refine kz_callv (wk := [(o, .inr (4, [.int th, .int sta, .ref mt, .ref mn, .ref ml, .ref mc, .ref mh, .ref mk, .ref mp, .ref mm, .ref mb, .ref mw, .ref mr, .ref mx, .ref me, .ref mP, .ref mQ, .ref ms, .int (nI (0)), .int (nI (sz_)), .ref mo, .ref mW, .ref mD, .ref mB, .ref mR, .ref mS])), (mQ, .inl (cI, 16, .inl (kz_dg d6))), (ms, .inl (cI, 18, .inl (kz_dg d7))), (mx, .inl (cI, 32, .inl (kz_dg gmx)))]) (va_runS (As := [.ref mP]) (rest := []) ⟨hx, hb, hml, hown, hts⟩ (c_F_lessOne l dC dI cI cAA cB cL mP d5 _ hd_d5 (by first | omega | assumption)) (va_cwS 1 hts (kz_g (kz_mc mw_701 (kz_mc mw_702 (kz_mc mw_43 kz_mn))) mw_703) rfl rfl rfl (by decide +kernel) ⟨Nat.le_of_ble_eq_true rfl, Nat.le_of_ble_eq_true rfl⟩) (kz_preS hdy hA hK hro hZ hN [1] (by decide) rfl [] rfl (by decide) [0, 1, 2, 3] rfl (fun _ h => by cases h) (fun _ h => by cases h) rfl) rfl rfl hl.1 rfl (lv_room (Nat.le_of_ble_eq_true rfl)) zd_N_find_106 ⟨Nat.le_of_ble_eq_true rfl, Nat.le_of_ble_eq_true rfl⟩) hdy hA [1] [0, 2, 3, 4] rfl rfl (by decide) (by decide) (fun u H locs hw hdy => ?_)
                  obtain ⟨d12, rfl⟩ : ∃ z, z = u := ⟨_, rfl⟩
                  try dsimp only at hw
                  obtain ⟨hd_d12, q13, -⟩ := hw
                  have hdy : kz_dy (dC, dI) vwCl A s.heap H locs [(o, .inr (4, [.int th, .int sta, .ref mt, .ref mn, .ref ml, .ref mc, .ref mh, .ref mk, .ref mp, .ref mm, .ref mb, .ref mw, .ref mr, .ref mx, .ref me, .ref mP, .ref mQ, .ref ms, .int (nI (0)), .int (nI (sz_)), .ref mo, .ref mW, .ref mD, .ref mB, .ref mR, .ref mS])), (mP, .inl (cI, 16, .inl (kz_dg d12))), (mQ, .inl (cI, 16, .inl (kz_dg d6))), (ms, .inl (cI, 18, .inl (kz_dg d7))), (mx, .inl (cI, 32, .inl (kz_dg gmx)))] := hdy.sub [0, 4, 1, 2, 3] (by decide) rfl
                  refine lv_aload_n hx hb zd_N_find_109 rfl (lv_at hl 1 rfl) ?_
                  refine va_get (D := (dC, dI)) (ci := 4) (v := .ref mQ) (C := zR_N) (T := zT_N) (N := 26) hx hb hts (fun w h => kz_c (zi_N w h)) hown hK hdy.1 0 rfl rfl 16 (by decide) (hts _ (kz_c mw_607)) (fun _ h9 => h9) rfl zd_N_find_110 ?_
                  refine kz_callv (wk := [(o, .inr (4, [.int th, .int sta, .ref mt, .ref mn, .ref ml, .ref mc, .ref mh, .ref mk, .ref mp, .ref mm, .ref mb, .ref mw, .ref mr, .ref mx, .ref me, .ref mP, .ref mQ, .ref ms, .int (nI (0)), .int (nI (sz_)), .ref mo, .ref mW, .ref mD, .ref mB, .ref mR, .ref mS])), (mP, .inl (cI, 16, .inl (kz_dg d12))), (ms, .inl (cI, 18, .inl (kz_dg d7))), (mx, .inl (cI, 32, .inl (kz_dg gmx)))]) (va_runS (As := [.ref mQ]) (rest := []) ⟨hx, hb, hml, hown, hts⟩ (c_F_lessOne l dC dI cI cAA cB cL mQ d6 _ hd_d6 (by first | omega | assumption)) (va_cwS 1 hts (kz_g (kz_mc mw_701 (kz_mc mw_702 (kz_mc mw_43 kz_mn))) mw_703) rfl rfl rfl (by decide +kernel) ⟨Nat.le_of_ble_eq_true rfl, Nat.le_of_ble_eq_true rfl⟩) (kz_preS hdy hA hK hro hZ hN [2] (by decide) rfl [] rfl (by decide) [0, 1, 2, 3] rfl (fun _ h => by cases h) (fun _ h => by cases h) rfl) rfl rfl hl.1 rfl (lv_room (Nat.le_of_ble_eq_true rfl)) zd_N_find_113 ⟨Nat.le_of_ble_eq_true rfl, Nat.le_of_ble_eq_true rfl⟩) hdy hA [2] [0, 1, 3, 4] rfl rfl (by decide) (by decide) (fun u H locs hw hdy => ?_)
                  obtain ⟨d14, rfl⟩ : ∃ z, z = u := ⟨_, rfl⟩
                  try dsimp only at hw
                  obtain ⟨hd_d14, q15, -⟩ := hw
                  have hdy : kz_dy (dC, dI) vwCl A s.heap H locs [(o, .inr (4, [.int th, .int sta, .ref mt, .ref mn, .ref ml, .ref mc, .ref mh, .ref mk, .ref mp, .ref mm, .ref mb, .ref mw, .ref mr, .ref mx, .ref me, .ref mP, .ref mQ, .ref ms, .int (nI (0)), .int (nI (sz_)), .ref mo, .ref mW, .ref mD, .ref mB, .ref mR, .ref mS])), (mP, .inl (cI, 16, .inl (kz_dg d12))), (mQ, .inl (cI, 16, .inl (kz_dg d14))), (ms, .inl (cI, 18, .inl (kz_dg d7))), (mx, .inl (cI, 32, .inl (kz_dg gmx)))] := hdy.sub [0, 1, 4, 2, 3] (by decide) rfl
                  refine lv_aload_n hx hb zd_N_find_116 rfl (lv_at hl 1 rfl) ?_
                  refine lv_aload_n hx hb zd_N_find_117 rfl (lv_at hl 1 rfl) ?_
                  refine va_get (D := (dC, dI)) (ci := 4) (v := .ref mP) (C := zR_N) (T := zT_N) (N := 26) hx hb hts (fun w h => kz_c (zi_N w h)) hown hK hdy.1 0 rfl rfl 15 (by decide) (hts _ (kz_c mw_606)) (fun _ h9 => h9) rfl zd_N_find_118 ?_
                  refine lv_aload_n hx hb zd_N_find_121 rfl (lv_at hl 1 rfl) ?_
                  refine va_get (D := (dC, dI)) (ci := 4) (v := .ref mQ) (C := zR_N) (T := zT_N) (N := 26) hx hb hts (fun w h => kz_c (zi_N w h)) hown hK hdy.1 0 rfl rfl 16 (by decide) (hts _ (kz_c mw_607)) (fun _ h9 => h9) rfl zd_N_find_122 ?_
                  refine kz_callv (wk := [(o, .inr (4, [.int th, .int sta, .ref mt, .ref mn, .ref ml, .ref mc, .ref mh, .ref mk, .ref mp, .ref mm, .ref mb, .ref mw, .ref mr, .ref mx, .ref me, .ref mP, .ref mQ, .ref ms, .int (nI (0)), .int (nI (sz_)), .ref mo, .ref mW, .ref mD, .ref mB, .ref mR, .ref mS])), (mP, .inl (cI, 16, .inl (kz_dg d12))), (mQ, .inl (cI, 16, .inl (kz_dg d14))), (ms, .inl (cI, 18, .inl (kz_dg d7)))]) (va_runV (As := [.ref mP, .ref mQ]) (rest := []) ⟨hx, hb, hml, hown, hts⟩ (c_Y_multiply l dC dI cI cAA cB cL mx o mt mn ml mc mh mk mp mm mb mw mr me mP mQ ms mo mW mD mB mR mS mP mQ gmx (th) (sta) ((nI (0))) sz_ d12 d14 _ hd_gmx hd_d12 hd_d14) (cwV 2 hts (kz_g (kz_mc mw_704 (kz_mc mw_706 (kz_mc mw_23 (kz_mc mw_43 kz_mn)))) mw_707) rfl rfl rfl (by decide +kernel) ⟨Nat.le_of_ble_eq_true rfl, Nat.le_of_ble_eq_true rfl⟩) (kz_preV hdy hA hK hro hZ hN [4] (by decide) rfl [(false, 0), (false, 1), (false, 2)] rfl (by decide) [0, 1, 2, 3] rfl (fun _ h => by cases h) (fun _ h => by cases h) rfl (ci := 4) (q0 := 0) rfl rfl rfl) rfl rfl hl.1 rfl (lv_room (Nat.le_of_ble_eq_true rfl)) zd_N_find_125 ⟨Nat.le_of_ble_eq_true rfl, Nat.le_of_ble_eq_true rfl⟩) hdy hA [4] [0, 1, 2, 3] rfl rfl (by decide) (by decide) (fun u H locs hw hdy => ?_)
                  obtain ⟨d16, rfl⟩ : ∃ z, z = u := ⟨_, rfl⟩
                  try dsimp only at hw
                  obtain ⟨hd_d16, q17, -⟩ := hw
                  have hdy : kz_dy (dC, dI) vwCl A s.heap H locs [(o, .inr (4, [.int th, .int sta, .ref mt, .ref mn, .ref ml, .ref mc, .ref mh, .ref mk, .ref mp, .ref mm, .ref mb, .ref mw, .ref mr, .ref mx, .ref me, .ref mP, .ref mQ, .ref ms, .int (nI (0)), .int (nI (sz_)), .ref mo, .ref mW, .ref mD, .ref mB, .ref mR, .ref mS])), (mP, .inl (cI, 16, .inl (kz_dg d12))), (mQ, .inl (cI, 16, .inl (kz_dg d14))), (ms, .inl (cI, 18, .inl (kz_dg d7))), (mx, .inl (cI, 32, .inl (kz_dg d16)))] := hdy.sub [0, 1, 2, 3, 4] (by decide) rfl
                  obtain ⟨hMv, hMl⟩ := kv_prodM q17 (q13.trans hVP) (q15.trans hVQ) hPl hQl
                  refine lv_lconst (v := 0) hx hb zd_N_find_128 (by decide) ?_
                  refine lv_topl (fun yl18 h9 => ?_)
                  obtain rfl : yl18 = kz_lz (0) := h9.trans (kz_lz_c0)
                  refine lv_topl (fun yl20 h9 => ?_)
                  obtain ⟨n19, en19, rfl⟩ := kz_toN (e := 0) h9 (by omega)
                  refine lv_lstore_n (lv' := [(1, .long (kz_lz (((n19 : Nat) : Int)))), (0, .ref o)]) hx hb zd_N_find_129 rfl hl (by decide) rfl (fun ls hl => ?_)
                  refine lv_bipush (v := (nI (15))) hx hb zd_N_find_130 (by decide) ?_
                  refine lv_istore_n (lv' := [(3, .int (nI (15))), (1, .long (kz_lz (((n19 : Nat) : Int)))), (0, .ref o)]) hx hb zd_N_find_132 rfl hl (by decide) rfl (fun ls hl => ?_)
                  have lp133 : ∀ (n133 k133 : Nat) (c21 : Nat) (H : Heap) (locs : List Loc) (ls : Array Slot), k133 ≤ 16 → k133 < n133 → (c21 = kv_hiN 16 d16 (k133) % 65537) → kz_dy (dC, dI) vwCl A s.heap H locs [(o, .inr (4, [.int th, .int sta, .ref mt, .ref mn, .ref ml, .ref mc, .ref mh, .ref mk, .ref mp, .ref mm, .ref mb, .ref mw, .ref mr, .ref mx, .ref me, .ref mP, .ref mQ, .ref ms, .int (nI (0)), .int (nI (sz_)), .ref mo, .ref mW, .ref mD, .ref mB, .ref mR, .ref mS])), (mP, .inl (cI, 16, .inl (kz_dg d12))), (mQ, .inl (cI, 16, .inl (kz_dg d14))), (ms, .inl (cI, 18, .inl (kz_dg d7))), (mx, .inl (cI, 32, .inl (kz_dg d16)))] → lv_has ls 9 [(3, .int (nI (k133) - 1)), (1, .long (kz_lz (((c21 : Nat) : Int)))), (0, .ref o)] → W p l e { frames := 1, cells := 0, slots := 0, locals := 26 } s m ([.ref o] : List Value).toArray below meth c H locs 0 0 (MQ below (va_Qv (fun (u : Int32 × (Nat → Nat) × (Nat → Nat) × (Nat → Nat) × (Nat → Nat)) => (∀ j, u.2.1 j < 65536) ∧ (∀ j, u.2.2.1 j < 65536) ∧ (∀ j, u.2.2.2.1 j < 4294967296) ∧ (∀ j, u.2.2.2.2 j < 65536) ∧ ((u.1 = 0 ∧ ¬ kx_fit (kv_val (kv_fig gmt 16) 8) (kv_val (kv_fig gmt 24) 8)) ∨ (u.1 = 1 ∧ kx_fit (kv_val (kv_fig gmt 16) 8) (kv_val (kv_fig gmt 24) 8) ∧ kx_isD (kv_val (kv_fig gmt 16) 8) (kv_val (kv_fig gmt 24) 8) (kv_val u.2.2.2.1 18))) ∧ (u.1 = 1 → ∀ j, j < 18 → u.2.2.2.1 j < 65536) ∧ True) (kz_B (dC, dI) vwCl A (fun u : Int32 × (Nat → Nat) × (Nat → Nat) × (Nat → Nat) × (Nat → Nat) => [(o, .inr (4, [.int th, .int sta, .ref mt, .ref mn, .ref ml, .ref mc, .ref mh, .ref mk, .ref mp, .ref mm, .ref mb, .ref mw, .ref mr, .ref mx, .ref me, .ref mP, .ref mQ, .ref ms, .int u.1, .int (nI (sz_)), .ref mo, .ref mW, .ref mD, .ref mB, .ref mR, .ref mS])), (mP, .inl (cI, 16, .inl (kz_dg u.2.1))), (mQ, .inl (cI, 16, .inl (kz_dg u.2.2.1))), (ms, .inl (cI, 18, .inl (kz_dg u.2.2.2.1))), (mx, .inl (cI, 32, .inl (kz_dg u.2.2.2.2)))])) A) ([.ref o] : List Value).toArray s 0 0 A) (F0 m 133 ls []) := by
                    intro n133
                    induction n133 with
                    | zero => intro k133 c21 H locs ls hi133 hn133; exact absurd hn133 (Nat.not_lt_zero _)
                    | succ n133 ih133 =>
                      intro k133 c21 H locs ls hi133 hn133 hp hdy hl
                      refine lv_iload_n hx hb zd_N_find_133 rfl (lv_at hl 0 rfl) ?_
                      refine lv_if_lt (tgt := 161) hx hb zd_N_find_134 (by decide) (fun hc134 => ?_) (fun hc134 => ?_)
                      · have hc134 : k133 = 0 := (kz_neg (by omega)).mp hc134
                        have hpe : c21 = ((kv_val (kv_fig gmt 16) 8) - 1) * ((kv_val (kv_fig gmt 24) 8) - 1) % 65537 := (by rw [hp, hc134, kv_hiN_0, hMv])
                        refine lv_lload_n hx hb zd_N_find_161 rfl (lv_at hl 1 rfl) ?_
                        refine lv_lconst (v := 0) hx hb zd_N_find_162 (by decide) ?_
                        refine lv_topl (fun yl22 h9 => ?_)
                        obtain rfl : yl22 = kz_lz (0) := h9.trans (kz_lz_c0)
                        refine kz_lne (tgt := 168) hx hb zd_N_find_163 zd_N_find_164 (by decide) (fun hc164 => ?_) (fun hc164 => ?_)
                        · have hc164 : ¬ (((c21 : Nat) : Int)) = 0 := fun h9 => hc164 ((kz_lz_eq (by omega) (by omega) (by omega) (by omega)).mpr h9)
                          obtain ⟨x9, hx9, hx7⟩ := kv_invZ (z := ((c21 : Nat) : Int)) (by omega) (by omega) hc164
                          refine lv_iconst (v := (nI (0))) hx hb zd_N_find_168 (by decide) ?_
                          refine lv_istore_n (lv' := [(3, .int (nI (0))), (1, .long (kz_lz (((c21 : Nat) : Int)))), (0, .ref o)]) hx hb zd_N_find_169 rfl hl (by decide) rfl (fun ls hl => ?_)
                          have lp170 : ∀ (n170 k170 : Nat) (H : Heap) (locs : List Loc) (ls : Array Slot), k170 ≤ x9 → x9 - k170 < n170 → kz_dy (dC, dI) vwCl A s.heap H locs [(o, .inr (4, [.int th, .int sta, .ref mt, .ref mn, .ref ml, .ref mc, .ref mh, .ref mk, .ref mp, .ref mm, .ref mb, .ref mw, .ref mr, .ref mx, .ref me, .ref mP, .ref mQ, .ref ms, .int (nI (0)), .int (nI (sz_)), .ref mo, .ref mW, .ref mD, .ref mB, .ref mR, .ref mS])), (mP, .inl (cI, 16, .inl (kz_dg d12))), (mQ, .inl (cI, 16, .inl (kz_dg d14))), (ms, .inl (cI, 18, .inl (kz_dg d7))), (mx, .inl (cI, 32, .inl (kz_dg d16)))] → lv_has ls 9 [(3, .int (nI (k170))), (1, .long (kz_lz (((c21 : Nat) : Int)))), (0, .ref o)] → W p l e { frames := 1, cells := 0, slots := 0, locals := 26 } s m ([.ref o] : List Value).toArray below meth c H locs 0 0 (MQ below (va_Qv (fun (u : Int32 × (Nat → Nat) × (Nat → Nat) × (Nat → Nat) × (Nat → Nat)) => (∀ j, u.2.1 j < 65536) ∧ (∀ j, u.2.2.1 j < 65536) ∧ (∀ j, u.2.2.2.1 j < 4294967296) ∧ (∀ j, u.2.2.2.2 j < 65536) ∧ ((u.1 = 0 ∧ ¬ kx_fit (kv_val (kv_fig gmt 16) 8) (kv_val (kv_fig gmt 24) 8)) ∨ (u.1 = 1 ∧ kx_fit (kv_val (kv_fig gmt 16) 8) (kv_val (kv_fig gmt 24) 8) ∧ kx_isD (kv_val (kv_fig gmt 16) 8) (kv_val (kv_fig gmt 24) 8) (kv_val u.2.2.2.1 18))) ∧ (u.1 = 1 → ∀ j, j < 18 → u.2.2.2.1 j < 65536) ∧ True) (kz_B (dC, dI) vwCl A (fun u : Int32 × (Nat → Nat) × (Nat → Nat) × (Nat → Nat) × (Nat → Nat) => [(o, .inr (4, [.int th, .int sta, .ref mt, .ref mn, .ref ml, .ref mc, .ref mh, .ref mk, .ref mp, .ref mm, .ref mb, .ref mw, .ref mr, .ref mx, .ref me, .ref mP, .ref mQ, .ref ms, .int u.1, .int (nI (sz_)), .ref mo, .ref mW, .ref mD, .ref mB, .ref mR, .ref mS])), (mP, .inl (cI, 16, .inl (kz_dg u.2.1))), (mQ, .inl (cI, 16, .inl (kz_dg u.2.2.1))), (ms, .inl (cI, 18, .inl (kz_dg u.2.2.2.1))), (mx, .inl (cI, 32, .inl (kz_dg u.2.2.2.2)))])) A) ([.ref o] : List Value).toArray s 0 0 A) (F0 m 170 ls []) := by
                            intro n170
                            induction n170 with
                            | zero => intro k170; intros; omega
                            | succ n170 ih170 =>
                              intro k170 H locs ls hi170 hn170 hdy hl
                              refine lv_lconst (v := 1) hx hb zd_N_find_170 (by decide) ?_
                              refine lv_topl (fun yl23 h9 => ?_)
                              obtain rfl : yl23 = kz_lz (1) := h9.trans (kz_lz_c1)
                              refine lv_iload_n hx hb zd_N_find_171 rfl (lv_at hl 0 rfl) ?_
                              refine lv_i2l hx hb zd_N_find_172 (kz_lz_i (n := k170) (by omega)) ?_
                              refine lv_lload_n hx hb zd_N_find_173 rfl (lv_at hl 1 rfl) ?_
                              refine lv_lmul hx hb zd_N_find_174 ?_
                              refine lv_topl (fun yl24 h9 => ?_)
                              obtain rfl : yl24 = kz_lz ((((k170 : Nat) : Int)) * (((c21 : Nat) : Int))) := h9.trans (kz_lz_mul _ _)
                              refine lv_ladd hx hb zd_N_find_175 ?_
                              refine lv_topl (fun yl25 h9 => ?_)
                              obtain rfl : yl25 = kz_lz (1 + ((((k170 : Nat) : Int)) * (((c21 : Nat) : Int)))) := h9.trans (kz_lz_add _ _)
                              have hkz := kv_kz (k := k170) (z := ((c21 : Nat) : Int)) (by omega) (by omega) (by omega)
                              refine lv_ldc2 (v := (65537)) hx hb hown (hts _ (kz_c mw_710)) zd_N_find_176 ?_
                              refine lv_topl (fun yl26 h9 => ?_)
                              obtain rfl : yl26 = kz_lz (65537) := h9.trans (kz_lz_c65537)
                              refine lv_lrem hx hb zd_N_find_179 (kz_lz_ne0 (by omega) (by omega)) ?_
                              refine lv_topl (fun yl27 h9 => ?_)
                              obtain rfl : yl27 = kz_lz ((1 + ((((k170 : Nat) : Int)) * (((c21 : Nat) : Int)))) % 65537) := h9.trans (kz_lz_remz (by omega) (by omega) (by omega) (by omega))
                              refine lv_lconst (v := 0) hx hb zd_N_find_180 (by decide) ?_
                              refine lv_topl (fun yl28 h9 => ?_)
                              obtain rfl : yl28 = kz_lz (0) := h9.trans (kz_lz_c0)
                              refine kz_leq (tgt := 191) hx hb zd_N_find_181 zd_N_find_182 (by decide) (fun hc182 => ?_) (fun hc182 => ?_)
                              · have hc182 : ((1 + ((((k170 : Nat) : Int)) * (((c21 : Nat) : Int)))) % 65537) = 0 := (kz_lz_eq (by omega) (by omega) (by omega) (by omega)).mp hc182
                                have hof : (1 + k170 * (((kv_val (kv_fig gmt 16) 8) - 1) * ((kv_val (kv_fig gmt 24) 8) - 1))) % 65537 = 0 := (by have h8 : (1 + k170 * c21) % 65537 = 0 := (by have h7 : (((k170 * c21 : Nat)) : Int) = ((k170 : Nat) : Int) * ((c21 : Nat) : Int) := Int.natCast_mul _ _; omega); rw [hpe, Nat.add_mod, Nat.mul_mod_mod, ← Nat.add_mod] at h8; exact h8)
                                refine lv_lconst (v := 1) hx hb zd_N_find_191 (by decide) ?_
                                refine lv_topl (fun yl29 h9 => ?_)
                                obtain rfl : yl29 = kz_lz (1) := h9.trans (kz_lz_c1)
                                refine lv_topl (fun yl31 h9 => ?_)
                                obtain ⟨n30, en30, rfl⟩ := kz_toN (e := 1) h9 (by omega)
                                refine lv_lstore (lv' := [(4, .long (kz_lz (((n30 : Nat) : Int)))), (3, .int (nI (k170))), (1, .long (kz_lz (((c21 : Nat) : Int)))), (0, .ref o)]) hx hb zd_N_find_192 hl (by decide) rfl (fun ls hl => ?_)
                                refine lv_iconst (v := (nI (0))) hx hb zd_N_find_194 (by decide) ?_
                                refine lv_istore (lv' := [(6, .int (nI (0))), (4, .long (kz_lz (((n30 : Nat) : Int)))), (3, .int (nI (k170))), (1, .long (kz_lz (((c21 : Nat) : Int)))), (0, .ref o)]) hx hb zd_N_find_195 hl (by decide) rfl (fun ls hl => ?_)
                                have lp197 : ∀ (n197 k197 : Nat) (c32 : Nat) (d33 : Nat → Nat) (H : Heap) (locs : List Loc) (ls : Array Slot), k197 ≤ 18 → 18 - k197 < n197 → (∀ j, d33 j < 4294967296) → (c32 < 262144) → (kv_val d33 (k197) + c32 * 65536 ^ (k197) = 1 + k170 * kv_val (kv_m18 d16) (k197)) → (∀ j, j < k197 → d33 j < 65536) → kz_dy (dC, dI) vwCl A s.heap H locs [(o, .inr (4, [.int th, .int sta, .ref mt, .ref mn, .ref ml, .ref mc, .ref mh, .ref mk, .ref mp, .ref mm, .ref mb, .ref mw, .ref mr, .ref mx, .ref me, .ref mP, .ref mQ, .ref ms, .int (nI (0)), .int (nI (sz_)), .ref mo, .ref mW, .ref mD, .ref mB, .ref mR, .ref mS])), (mP, .inl (cI, 16, .inl (kz_dg d12))), (mQ, .inl (cI, 16, .inl (kz_dg d14))), (ms, .inl (cI, 18, .inl (kz_dg d33))), (mx, .inl (cI, 32, .inl (kz_dg d16)))] → lv_has ls 9 [(6, .int (nI (k197))), (4, .long (kz_lz (((c32 : Nat) : Int)))), (3, .int (nI (k170))), (1, .long (kz_lz (((c21 : Nat) : Int)))), (0, .ref o)] → W p l e { frames := 1, cells := 0, slots := 0, locals := 26 } s m ([.ref o] : List Value).toArray below meth c H locs 0 0 (MQ below (va_Qv (fun (u : Int32 × (Nat → Nat) × (Nat → Nat) × (Nat → Nat) × (Nat → Nat)) => (∀ j, u.2.1 j < 65536) ∧ (∀ j, u.2.2.1 j < 65536) ∧ (∀ j, u.2.2.2.1 j < 4294967296) ∧ (∀ j, u.2.2.2.2 j < 65536) ∧ ((u.1 = 0 ∧ ¬ kx_fit (kv_val (kv_fig gmt 16) 8) (kv_val (kv_fig gmt 24) 8)) ∨ (u.1 = 1 ∧ kx_fit (kv_val (kv_fig gmt 16) 8) (kv_val (kv_fig gmt 24) 8) ∧ kx_isD (kv_val (kv_fig gmt 16) 8) (kv_val (kv_fig gmt 24) 8) (kv_val u.2.2.2.1 18))) ∧ (u.1 = 1 → ∀ j, j < 18 → u.2.2.2.1 j < 65536) ∧ True) (kz_B (dC, dI) vwCl A (fun u : Int32 × (Nat → Nat) × (Nat → Nat) × (Nat → Nat) × (Nat → Nat) => [(o, .inr (4, [.int th, .int sta, .ref mt, .ref mn, .ref ml, .ref mc, .ref mh, .ref mk, .ref mp, .ref mm, .ref mb, .ref mw, .ref mr, .ref mx, .ref me, .ref mP, .ref mQ, .ref ms, .int u.1, .int (nI (sz_)), .ref mo, .ref mW, .ref mD, .ref mB, .ref mR, .ref mS])), (mP, .inl (cI, 16, .inl (kz_dg u.2.1))), (mQ, .inl (cI, 16, .inl (kz_dg u.2.2.1))), (ms, .inl (cI, 18, .inl (kz_dg u.2.2.2.1))), (mx, .inl (cI, 32, .inl (kz_dg u.2.2.2.2)))])) A) ([.ref o] : List Value).toArray s 0 0 A) (F0 m 197 ls []) := by
                                  intro n197
                                  induction n197 with
                                  | zero => intro k197; intros; omega
                                  | succ n197 ih197 =>
                                    intro k197 c32 d33 H locs ls hi197 hn197 hd_d33 hcb hI hfl hdy hl
                                    refine lv_iload hx hb zd_N_find_197 (lv_at hl 0 rfl) ?_
                                    refine lv_bipush (v := (nI (18))) hx hb zd_N_find_199 (by decide) ?_
                                    refine lv_icmp_ge (tgt := 258) hx hb zd_N_find_201 (by decide) (fun hc201 => ?_) (fun hc201 => ?_)
                                    · have hc201 : 18 ≤ k197 := (nI_leI (by omega) (by omega)).mp hc201
                                      have h18 : k197 = 18 := (by omega)
                                      rw [h18] at hI hfl
                                      have hSv := kv_carryEnd hMv hMl (by omega) hI
                                      refine lv_lconst (v := 0) hx hb zd_N_find_258 (by decide) ?_
                                      refine lv_topl (fun yl34 h9 => ?_)
                                      obtain rfl : yl34 = kz_lz (0) := h9.trans (kz_lz_c0)
                                      refine lv_topl (fun yl36 h9 => ?_)
                                      obtain ⟨n35, en35, rfl⟩ := kz_toN (e := 0) h9 (by omega)
                                      refine lv_lstore (lv' := [(6, .long (kz_lz (((n35 : Nat) : Int)))), (4, .long (kz_lz (((c32 : Nat) : Int)))), (3, .int (nI (k170))), (1, .long (kz_lz (((c21 : Nat) : Int)))), (0, .ref o)]) hx hb zd_N_find_259 hl (by decide) rfl (fun ls hl => ?_)
                                      refine lv_bipush (v := (nI (17))) hx hb zd_N_find_261 (by decide) ?_
                                      refine lv_istore (lv' := [(8, .int (nI (17))), (6, .long (kz_lz (((n35 : Nat) : Int)))), (4, .long (kz_lz (((c32 : Nat) : Int)))), (3, .int (nI (k170))), (1, .long (kz_lz (((c21 : Nat) : Int)))), (0, .ref o)]) hx hb zd_N_find_263 hl (by decide) rfl (fun ls hl => ?_)
                                      have lp265 : ∀ (n265 k265 : Nat) (c37 : Nat) (d38 : Nat → Nat) (H : Heap) (locs : List Loc) (ls : Array Slot), k265 ≤ 18 → k265 < n265 → (∀ j, d38 j < 4294967296) → (c37 < 65537) → (65537 * kv_hiN 18 d38 (k265) + c37 = kv_hiN 18 d33 (k265)) → (∀ j, j < k265 → d38 j = d33 j) → (∀ j, k265 ≤ j → j < 18 → d38 j < 65536) → kz_dy (dC, dI) vwCl A s.heap H locs [(o, .inr (4, [.int th, .int sta, .ref mt, .ref mn, .ref ml, .ref mc, .ref mh, .ref mk, .ref mp, .ref mm, .ref mb, .ref mw, .ref mr, .ref mx, .ref me, .ref mP, .ref mQ, .ref ms, .int (nI (0)), .int (nI (sz_)), .ref mo, .ref mW, .ref mD, .ref mB, .ref mR, .ref mS])), (mP, .inl (cI, 16, .inl (kz_dg d12))), (mQ, .inl (cI, 16, .inl (kz_dg d14))), (ms, .inl (cI, 18, .inl (kz_dg d38))), (mx, .inl (cI, 32, .inl (kz_dg d16)))] → lv_has ls 9 [(8, .int (nI (k265) - 1)), (6, .long (kz_lz (((c37 : Nat) : Int)))), (4, .long (kz_lz (((c32 : Nat) : Int)))), (3, .int (nI (k170))), (1, .long (kz_lz (((c21 : Nat) : Int)))), (0, .ref o)] → W p l e { frames := 1, cells := 0, slots := 0, locals := 26 } s m ([.ref o] : List Value).toArray below meth c H locs 0 0 (MQ below (va_Qv (fun (u : Int32 × (Nat → Nat) × (Nat → Nat) × (Nat → Nat) × (Nat → Nat)) => (∀ j, u.2.1 j < 65536) ∧ (∀ j, u.2.2.1 j < 65536) ∧ (∀ j, u.2.2.2.1 j < 4294967296) ∧ (∀ j, u.2.2.2.2 j < 65536) ∧ ((u.1 = 0 ∧ ¬ kx_fit (kv_val (kv_fig gmt 16) 8) (kv_val (kv_fig gmt 24) 8)) ∨ (u.1 = 1 ∧ kx_fit (kv_val (kv_fig gmt 16) 8) (kv_val (kv_fig gmt 24) 8) ∧ kx_isD (kv_val (kv_fig gmt 16) 8) (kv_val (kv_fig gmt 24) 8) (kv_val u.2.2.2.1 18))) ∧ (u.1 = 1 → ∀ j, j < 18 → u.2.2.2.1 j < 65536) ∧ True) (kz_B (dC, dI) vwCl A (fun u : Int32 × (Nat → Nat) × (Nat → Nat) × (Nat → Nat) × (Nat → Nat) => [(o, .inr (4, [.int th, .int sta, .ref mt, .ref mn, .ref ml, .ref mc, .ref mh, .ref mk, .ref mp, .ref mm, .ref mb, .ref mw, .ref mr, .ref mx, .ref me, .ref mP, .ref mQ, .ref ms, .int u.1, .int (nI (sz_)), .ref mo, .ref mW, .ref mD, .ref mB, .ref mR, .ref mS])), (mP, .inl (cI, 16, .inl (kz_dg u.2.1))), (mQ, .inl (cI, 16, .inl (kz_dg u.2.2.1))), (ms, .inl (cI, 18, .inl (kz_dg u.2.2.2.1))), (mx, .inl (cI, 32, .inl (kz_dg u.2.2.2.2)))])) A) ([.ref o] : List Value).toArray s 0 0 A) (F0 m 265 ls []) := by
                                        intro n265
                                        induction n265 with
                                        | zero => intro k265 c37 d38 H locs ls hi265 hn265; exact absurd hn265 (Nat.not_lt_zero _)
                                        | succ n265 ih265 =>
                                          intro k265 c37 d38 H locs ls hi265 hn265 hd_d38 hr hDv hlo hfs hdy hl
                                          refine lv_iload hx hb zd_N_find_265 (lv_at hl 0 rfl) ?_
                                          refine lv_if_lt (tgt := 315) hx hb zd_N_find_267 (by decide) (fun hc267 => ?_) (fun hc267 => ?_)
                                          · have hc267 : k265 = 0 := (kz_neg (by omega)).mp hc267
                                            refine lv_aload_n hx hb zd_N_find_315 rfl (lv_at hl 5 rfl) ?_
                                            refine lv_iconst (v := (nI (1))) hx hb zd_N_find_316 (by decide) ?_
                                            refine va_put (D := (dC, dI)) (ci := 4) (v := .int (nI (1))) (ty := .boolean) (C := zR_N) (T := zT_N) (N := 26) hx hb hts (fun w h => kz_c (zi_N w h)) zt_N zo_N zn_N hown hK hdy.1 hdy.2.1 hdy.2.2 0 rfl rfl 18 (by decide) (hts _ (kz_c mw_609)) (fun _ h9 => h9) rfl (by decide +kernel) rfl rfl (Nat.le_of_ble_eq_true rfl) zd_N_find_317 (fun H locs hP hD hS => ?_)
                                            have hdy : kz_dy (dC, dI) vwCl A s.heap H locs [(o, .inr (4, [.int th, .int sta, .ref mt, .ref mn, .ref ml, .ref mc, .ref mh, .ref mk, .ref mp, .ref mm, .ref mb, .ref mw, .ref mr, .ref mx, .ref me, .ref mP, .ref mQ, .ref ms, .int (nI (1)), .int (nI (sz_)), .ref mo, .ref mW, .ref mD, .ref mB, .ref mR, .ref mS])), (mP, .inl (cI, 16, .inl (kz_dg d12))), (mQ, .inl (cI, 16, .inl (kz_dg d14))), (ms, .inl (cI, 18, .inl (kz_dg d38))), (mx, .inl (cI, 32, .inl (kz_dg d16)))] := ⟨hP, hD, hS⟩
                                            exact kz_vret F ((nI (1)), d12, d14, d38, d16) hdy (⟨hd_d12, hd_d14, hd_d38, hd_d16, by exact Or.inr ⟨rfl, ⟨by omega, by omega, fun h9 => hc164 (by rw [hpe, h9]; rfl)⟩, kv_findD hr (by omega) hof hSv (by rw [hc267] at hDv; exact hDv)⟩, by exact fun _ j hj => hfs j (by omega) hj, trivial⟩) zd_N_find_320
                                          · have hc267 : ¬ k265 = 0 := fun h9 => hc267 ((kz_neg (by omega)).mpr h9)
                                            obtain ⟨k265p, rfl⟩ : ∃ j, k265 = j + 1 := ⟨k265 - 1, by omega⟩
                                            rw [nI_pred] at hl
                                            refine lv_ldc2 (v := (65536)) hx hb hown (hts _ (kz_c mw_709)) zd_N_find_270 ?_
                                            refine lv_topl (fun yl39 h9 => ?_)
                                            obtain rfl : yl39 = kz_lz (65536) := h9.trans (kz_lz_c65536)
                                            refine lv_lload hx hb zd_N_find_273 (lv_at hl 1 rfl) ?_
                                            refine lv_lmul hx hb zd_N_find_275 ?_
                                            refine lv_topl (fun yl40 h9 => ?_)
                                            obtain rfl : yl40 = kz_lz (65536 * (((c37 : Nat) : Int))) := h9.trans (kz_lz_mul _ _)
                                            refine lv_aload_n hx hb zd_N_find_276 rfl (lv_at hl 5 rfl) ?_
                                            refine va_get (D := (dC, dI)) (ci := 4) (v := .ref ms) (C := zR_N) (T := zT_N) (N := 26) hx hb hts (fun w h => kz_c (zi_N w h)) hown hK hdy.1 0 rfl rfl 17 (by decide) (hts _ (kz_c mw_608)) (fun _ h9 => h9) rfl zd_N_find_277 ?_
                                            refine lv_iload hx hb zd_N_find_280 (lv_at hl 0 rfl) ?_
                                            refine va_iald hx hb hK hdy.1 3 0 rfl rfl (vp_in_nI (by omega) (by omega)) zd_N_find_282 ?_
                                            refine lv_topi (fun x41 h9 => ?_)
                                            obtain rfl : x41 = nI (d38 k265p) := h9.trans (kz_dgl d38 (by omega))
                                            have hbx41 := hd_d38 k265p
                                            have hsk : d38 k265p = d33 k265p := hlo k265p (by omega)
                                            have hsl := hfl k265p (by omega)
                                            refine lv_i2l hx hb zd_N_find_283 (kz_lz_i (n := d38 k265p) (by omega)) ?_
                                            refine lv_ladd hx hb zd_N_find_284 ?_
                                            refine lv_topl (fun yl42 h9 => ?_)
                                            obtain rfl : yl42 = kz_lz ((65536 * (((c37 : Nat) : Int))) + (((d38 k265p : Nat) : Int))) := h9.trans (kz_lz_add _ _)
                                            refine lv_topl (fun yl44 h9 => ?_)
                                            obtain ⟨n43, en43, rfl⟩ := kz_toN (e := (65536 * (((c37 : Nat) : Int))) + (((d38 k265p : Nat) : Int))) h9 (by omega)
                                            refine lv_lstore (lv' := [(6, .long (kz_lz (((n43 : Nat) : Int)))), (8, .int (nI (k265p))), (4, .long (kz_lz (((c32 : Nat) : Int)))), (3, .int (nI (k170))), (1, .long (kz_lz (((c21 : Nat) : Int)))), (0, .ref o)]) hx hb zd_N_find_285 hl (by decide) rfl (fun ls hl => ?_)
                                            have hn6 : n43 < 65536 * 65537 := (by omega)
                                            have hq6 : n43 / 65537 < 65536 := (Nat.div_lt_iff_lt_mul (by omega)).mpr hn6
                                            refine lv_aload_n hx hb zd_N_find_287 rfl (lv_at hl 5 rfl) ?_
                                            refine va_get (D := (dC, dI)) (ci := 4) (v := .ref ms) (C := zR_N) (T := zT_N) (N := 26) hx hb hts (fun w h => kz_c (zi_N w h)) hown hK hdy.1 0 rfl rfl 17 (by decide) (hts _ (kz_c mw_608)) (fun _ h9 => h9) rfl zd_N_find_288 ?_
                                            refine lv_iload hx hb zd_N_find_291 (lv_at hl 1 rfl) ?_
                                            refine lv_lload hx hb zd_N_find_293 (lv_at hl 0 rfl) ?_
                                            refine lv_ldc2 (v := (65537)) hx hb hown (hts _ (kz_c mw_710)) zd_N_find_295 ?_
                                            refine lv_topl (fun yl45 h9 => ?_)
                                            obtain rfl : yl45 = kz_lz (65537) := h9.trans (kz_lz_c65537)
                                            refine lv_ldiv hx hb zd_N_find_298 (kz_lz_ne0 (by omega) (by omega)) ?_
                                            refine lv_topl (fun yl46 h9 => ?_)
                                            obtain rfl : yl46 = kz_lz ((((n43 : Nat) : Int)) / 65537) := h9.trans (kz_lz_divz (by omega) (by omega) (by omega) (by omega))
                                            refine lv_l2i hx hb zd_N_find_299 (kz_lz_i32 ((((n43 : Nat) : Int)) / 65537)) ?_
                                            refine va_iast hx hb hK hdy.1 hdy.2.1 hdy.2.2 3 0 rfl rfl (vp_in_nI (by omega) (by omega)) zd_N_find_300 (fun H locs hP hD hS => ?_)
                                            have h9 := kz_dgu d38 (k := k265p) ((((((n43 : Nat) : Int)) / 65537) % 4294967296).toNat) (by omega)
                                            rw [h9] at hP hD
                                            obtain ⟨f47, ef47, hd_f47, hdy⟩ : ∃ f47 : Nat → Nat, f47 = kv_up d38 k265p ((((((n43 : Nat) : Int)) / 65537) % 4294967296).toNat) ∧ (∀ j, f47 j < 4294967296) ∧ kz_dy (dC, dI) vwCl A s.heap H locs [(o, .inr (4, [.int th, .int sta, .ref mt, .ref mn, .ref ml, .ref mc, .ref mh, .ref mk, .ref mp, .ref mm, .ref mb, .ref mw, .ref mr, .ref mx, .ref me, .ref mP, .ref mQ, .ref ms, .int (nI (0)), .int (nI (sz_)), .ref mo, .ref mW, .ref mD, .ref mB, .ref mR, .ref mS])), (mP, .inl (cI, 16, .inl (kz_dg d12))), (mQ, .inl (cI, 16, .inl (kz_dg d14))), (ms, .inl (cI, 18, .inl (kz_dg f47))), (mx, .inl (cI, 32, .inl (kz_dg d16)))] := ⟨_, rfl, kx_up_lt hd_d38 (by omega), hP, hD, hS⟩
                                            refine lv_lload hx hb zd_N_find_301 (lv_at hl 0 rfl) ?_
                                            refine lv_ldc2 (v := (65537)) hx hb hown (hts _ (kz_c mw_710)) zd_N_find_303 ?_
                                            refine lv_topl (fun yl48 h9 => ?_)
                                            obtain rfl : yl48 = kz_lz (65537) := h9.trans (kz_lz_c65537)
                                            refine lv_lrem hx hb zd_N_find_306 (kz_lz_ne0 (by omega) (by omega)) ?_
                                            refine lv_topl (fun yl49 h9 => ?_)
                                            obtain rfl : yl49 = kz_lz ((((n43 : Nat) : Int)) % 65537) := h9.trans (kz_lz_remz (by omega) (by omega) (by omega) (by omega))
                                            refine lv_topl (fun yl51 h9 => ?_)
                                            obtain ⟨n50, en50, rfl⟩ := kz_toN (e := (((n43 : Nat) : Int)) % 65537) h9 (by omega)
                                            refine lv_lstore (lv' := [(6, .long (kz_lz (((n50 : Nat) : Int)))), (8, .int (nI (k265p))), (4, .long (kz_lz (((c32 : Nat) : Int)))), (3, .int (nI (k170))), (1, .long (kz_lz (((c21 : Nat) : Int)))), (0, .ref o)]) hx hb zd_N_find_307 hl (by decide) rfl (fun ls hl => ?_)
                                            refine lv_iinc (v := (nI (k265p) - 1)) (lv' := [(8, .int (nI (k265p) - 1)), (6, .long (kz_lz (((n50 : Nat) : Int)))), (4, .long (kz_lz (((c32 : Nat) : Int)))), (3, .int (nI (k170))), (1, .long (kz_lz (((c21 : Nat) : Int)))), (0, .ref o)]) hx hb zd_N_find_309 hl (k := 1) rfl (kz_m1 _) (by decide) rfl (fun ls hl => ?_)
                                            refine lv_goto (tgt := 265) hx hb zd_N_find_312 (by decide) ?_
                                            have hi9_hr52 : n50 < 65537 := by omega
                                            have hi9_hDv53 : 65537 * kv_hiN 18 f47 (k265p) + n50 = kv_hiN 18 d33 (k265p) := by rw [ef47]; have h7 : ((((n43 : Nat) : Int) / 65537) % 4294967296).toNat = n43 / 65537 := (by omega); have h6 : n50 = n43 % 65537 := (by omega); rw [h7, h6]; exact kv_divStep (by omega) (by rw [← hsk]; omega) hDv
                                            have hi9_hlo54 : ∀ j, j < k265p → f47 j = d33 j := by intro j hj; rw [ef47, kv_up_ne _ _ (by omega)]; exact hlo j (by omega)
                                            have hi9_hfs55 : ∀ j, k265p ≤ j → j < 18 → f47 j < 65536 := by intro j a b; rw [ef47]; unfold kv_up; split; (have h7 : ((((n43 : Nat) : Int) / 65537) % 4294967296).toNat = n43 / 65537 := (by omega); rw [h7]; exact hq6); exact hfs j (by omega) b
                                            exact ih265 k265p (n50) f47 _ _ _ (by omega) (by omega) hd_f47 hi9_hr52 hi9_hDv53 hi9_hlo54 hi9_hfs55 hdy (lv_sub hl [0, 1, 2, 3, 4, 5] rfl)
                                      have hi9_hr56 : n35 < 65537 := by omega
                                      have hi9_hDv57 : 65537 * kv_hiN 18 d33 (18) + n35 = kv_hiN 18 d33 (18) := by have h0 : n35 = 0 := (by omega); rw [h0, kv_hiN_top]
                                      have hi9_hlo58 : ∀ j, j < 18 → d33 j = d33 j := by exact fun _ _ => rfl
                                      have hi9_hfs59 : ∀ j, 18 ≤ j → j < 18 → d33 j < 65536 := by intro j a b; omega
                                      exact lp265 (18 + 1) 18 (n35) d33 _ _ _ (by omega) (by omega) hd_d33 hi9_hr56 hi9_hDv57 hi9_hlo58 hi9_hfs59 hdy (lv_sub hl [0, 1, 2, 3, 4, 5] rfl)
                                    · have hc201 : ¬ 18 ≤ k197 := fun h9 => hc201 ((nI_leI (by omega) (by omega)).mpr h9)
                                      refine lv_lload hx hb zd_N_find_204 (lv_at hl 1 rfl) ?_
                                      refine lv_iload hx hb zd_N_find_206 (lv_at hl 0 rfl) ?_
                                      refine lv_bipush (v := (nI (16))) hx hb zd_N_find_208 (by decide) ?_
                                      refine lv_icmp_ge (tgt := 227) hx hb zd_N_find_210 (by decide) (fun hc210 => ?_) (fun hc210 => ?_)
                                      · have hc210 : 16 ≤ k197 := (nI_leI (by omega) (by omega)).mp hc210
                                        refine lv_lconst (v := 0) hx hb zd_N_find_227 (by decide) ?_
                                        refine lv_topl (fun yl60 h9 => ?_)
                                        obtain rfl : yl60 = kz_lz (0) := h9.trans (kz_lz_c0)
                                        refine lv_ladd hx hb zd_N_find_228 ?_
                                        refine lv_topl (fun yl61 h9 => ?_)
                                        obtain rfl : yl61 = kz_lz ((((c32 : Nat) : Int)) + 0) := h9.trans (kz_lz_add _ _)
                                        refine lv_topl (fun yl63 h9 => ?_)
                                        obtain ⟨n62, en62, rfl⟩ := kz_toN (e := (((c32 : Nat) : Int)) + 0) h9 (by omega)
                                        refine lv_lstore (lv' := [(4, .long (kz_lz (((n62 : Nat) : Int)))), (6, .int (nI (k197))), (3, .int (nI (k170))), (1, .long (kz_lz (((c21 : Nat) : Int)))), (0, .ref o)]) hx hb zd_N_find_229 hl (by decide) rfl (fun ls hl => ?_)
                                        refine lv_aload_n hx hb zd_N_find_231 rfl (lv_at hl 4 rfl) ?_
                                        refine va_get (D := (dC, dI)) (ci := 4) (v := .ref ms) (C := zR_N) (T := zT_N) (N := 26) hx hb hts (fun w h => kz_c (zi_N w h)) hown hK hdy.1 0 rfl rfl 17 (by decide) (hts _ (kz_c mw_608)) (fun _ h9 => h9) rfl zd_N_find_232 ?_
                                        refine lv_iload hx hb zd_N_find_235 (lv_at hl 1 rfl) ?_
                                        refine lv_lload hx hb zd_N_find_237 (lv_at hl 0 rfl) ?_
                                        refine lv_ldc2 (v := (65535)) hx hb hown (hts _ (kz_c mw_708)) zd_N_find_239 ?_
                                        refine lv_topl (fun yl64 h9 => ?_)
                                        obtain rfl : yl64 = kz_lz (65535) := h9.trans (kz_lz_c65535)
                                        refine lv_land hx hb zd_N_find_242 ?_
                                        refine lv_topl (fun yl65 h9 => ?_)
                                        obtain rfl : yl65 = kz_lz ((((n62 : Nat) : Int)) % 65536) := h9.trans (kz_lz_andz _)
                                        refine lv_l2i hx hb zd_N_find_243 (kz_lz_i32 ((((n62 : Nat) : Int)) % 65536)) ?_
                                        refine va_iast hx hb hK hdy.1 hdy.2.1 hdy.2.2 3 0 rfl rfl (vp_in_nI (by omega) (by omega)) zd_N_find_244 (fun H locs hP hD hS => ?_)
                                        have h9 := kz_dgu d33 (k := k197) ((((((n62 : Nat) : Int)) % 65536) % 4294967296).toNat) (by omega)
                                        rw [h9] at hP hD
                                        obtain ⟨f66, ef66, hd_f66, hdy⟩ : ∃ f66 : Nat → Nat, f66 = kv_up d33 k197 ((((((n62 : Nat) : Int)) % 65536) % 4294967296).toNat) ∧ (∀ j, f66 j < 4294967296) ∧ kz_dy (dC, dI) vwCl A s.heap H locs [(o, .inr (4, [.int th, .int sta, .ref mt, .ref mn, .ref ml, .ref mc, .ref mh, .ref mk, .ref mp, .ref mm, .ref mb, .ref mw, .ref mr, .ref mx, .ref me, .ref mP, .ref mQ, .ref ms, .int (nI (0)), .int (nI (sz_)), .ref mo, .ref mW, .ref mD, .ref mB, .ref mR, .ref mS])), (mP, .inl (cI, 16, .inl (kz_dg d12))), (mQ, .inl (cI, 16, .inl (kz_dg d14))), (ms, .inl (cI, 18, .inl (kz_dg f66))), (mx, .inl (cI, 32, .inl (kz_dg d16)))] := ⟨_, rfl, kx_up_lt hd_d33 (by omega), hP, hD, hS⟩
                                        refine lv_lload hx hb zd_N_find_245 (lv_at hl 0 rfl) ?_
                                        refine lv_bipush (v := (nI (16))) hx hb zd_N_find_247 (by decide) ?_
                                        refine lv_lshr hx hb zd_N_find_249 (kz_lz_shr (z := (((n62 : Nat) : Int))) (by omega) (by omega)) ?_
                                        refine lv_topl (fun yl68 h9 => ?_)
                                        obtain ⟨n67, en67, rfl⟩ := kz_toN (e := (((n62 : Nat) : Int)) / 65536) h9 (by omega)
                                        refine lv_lstore (lv' := [(4, .long (kz_lz (((n67 : Nat) : Int)))), (6, .int (nI (k197))), (3, .int (nI (k170))), (1, .long (kz_lz (((c21 : Nat) : Int)))), (0, .ref o)]) hx hb zd_N_find_250 hl (by decide) rfl (fun ls hl => ?_)
                                        refine lv_iinc (v := (nI (k197 + 1))) (lv' := [(6, .int (nI (k197 + 1))), (4, .long (kz_lz (((n67 : Nat) : Int)))), (3, .int (nI (k170))), (1, .long (kz_lz (((c21 : Nat) : Int)))), (0, .ref o)]) hx hb zd_N_find_252 hl (k := 1) rfl (nI_1 _) (by decide) rfl (fun ls hl => ?_)
                                        refine lv_goto (tgt := 197) hx hb zd_N_find_255 (by decide) ?_
                                        have hi9_hcb69 : n67 < 262144 := by omega
                                        have hi9_hI70 : kv_val f66 (k197 + 1) + n67 * 65536 ^ (k197 + 1) = 1 + k170 * kv_val (kv_m18 d16) (k197 + 1) := by rw [ef66]; have h7 : ((((n62 : Nat) : Int) % 65536) % 4294967296).toNat = n62 % 65536 := (by omega); have h6 : n67 = n62 / 65536 := (by omega); rw [h7, h6]; exact kv_carry (by unfold kv_m18; first | (rw [if_pos (by omega), ← hm7]; omega) | (rw [if_neg (by omega)]; omega)) hI
                                        have hi9_hfl71 : ∀ j, j < k197 + 1 → f66 j < 65536 := by intro j hj; rw [ef66]; unfold kv_up; split; omega; exact hfl j (by omega)
                                        exact ih197 (k197 + 1) (n67) f66 _ _ _ (by omega) (by omega) hd_f66 hi9_hcb69 hi9_hI70 hi9_hfl71 hdy (lv_sub hl [0, 1, 2, 3, 4] rfl)
                                      · have hc210 : ¬ 16 ≤ k197 := fun h9 => hc210 ((nI_leI (by omega) (by omega)).mpr h9)
                                        obtain ⟨m9, hm7⟩ : ∃ m : Nat, m = k170 * d16 k197 := ⟨_, rfl⟩
                                        have hm9 : m9 ≤ 65536 * 65535 := (by rw [hm7]; exact Nat.mul_le_mul (by omega) (by have h9 := hd_d16 k197; omega))
                                        have hm8 : ((k170 : Nat) : Int) * ((d16 k197 : Nat) : Int) = (m9 : Int) := (by rw [hm7, Int.natCast_mul])
                                        refine lv_iload_n hx hb zd_N_find_213 rfl (lv_at hl 2 rfl) ?_
                                        refine lv_i2l hx hb zd_N_find_214 (kz_lz_i (n := k170) (by omega)) ?_
                                        refine lv_aload_n hx hb zd_N_find_215 rfl (lv_at hl 4 rfl) ?_
                                        refine va_get (D := (dC, dI)) (ci := 4) (v := .ref mx) (C := zR_N) (T := zT_N) (N := 26) hx hb hts (fun w h => kz_c (zi_N w h)) hown hK hdy.1 0 rfl rfl 13 (by decide) (hts _ (kz_c mw_604)) (fun _ h9 => h9) rfl zd_N_find_216 ?_
                                        refine lv_iload hx hb zd_N_find_219 (lv_at hl 0 rfl) ?_
                                        refine va_iald hx hb hK hdy.1 4 0 rfl rfl (vp_in_nI (by omega) (by omega)) zd_N_find_221 ?_
                                        refine lv_topi (fun x72 h9 => ?_)
                                        obtain rfl : x72 = nI (d16 k197) := h9.trans (kz_dgl d16 (by omega))
                                        have hbx72 := hd_d16 k197
                                        refine lv_i2l hx hb zd_N_find_222 (kz_lz_i (n := d16 k197) (by omega)) ?_
                                        refine lv_lmul hx hb zd_N_find_223 ?_
                                        refine lv_topl (fun yl73 h9 => ?_)
                                        obtain rfl : yl73 = kz_lz ((((k170 : Nat) : Int)) * (((d16 k197 : Nat) : Int))) := h9.trans (kz_lz_mul _ _)
                                        refine lv_goto (tgt := 228) hx hb zd_N_find_224 (by decide) ?_
                                        refine lv_ladd hx hb zd_N_find_228 ?_
                                        refine lv_topl (fun yl74 h9 => ?_)
                                        obtain rfl : yl74 = kz_lz ((((c32 : Nat) : Int)) + ((((k170 : Nat) : Int)) * (((d16 k197 : Nat) : Int)))) := h9.trans (kz_lz_add _ _)
                                        refine lv_topl (fun yl76 h9 => ?_)
                                        obtain ⟨n75, en75, rfl⟩ := kz_toN (e := (((c32 : Nat) : Int)) + ((((k170 : Nat) : Int)) * (((d16 k197 : Nat) : Int)))) h9 (by omega)
                                        refine lv_lstore (lv' := [(4, .long (kz_lz (((n75 : Nat) : Int)))), (6, .int (nI (k197))), (3, .int (nI (k170))), (1, .long (kz_lz (((c21 : Nat) : Int)))), (0, .ref o)]) hx hb zd_N_find_229 hl (by decide) rfl (fun ls hl => ?_)
                                        refine lv_aload_n hx hb zd_N_find_231 rfl (lv_at hl 4 rfl) ?_
                                        refine va_get (D := (dC, dI)) (ci := 4) (v := .ref ms) (C := zR_N) (T := zT_N) (N := 26) hx hb hts (fun w h => kz_c (zi_N w h)) hown hK hdy.1 0 rfl rfl 17 (by decide) (hts _ (kz_c mw_608)) (fun _ h9 => h9) rfl zd_N_find_232 ?_
                                        refine lv_iload hx hb zd_N_find_235 (lv_at hl 1 rfl) ?_
                                        refine lv_lload hx hb zd_N_find_237 (lv_at hl 0 rfl) ?_
                                        refine lv_ldc2 (v := (65535)) hx hb hown (hts _ (kz_c mw_708)) zd_N_find_239 ?_
                                        refine lv_topl (fun yl77 h9 => ?_)
                                        obtain rfl : yl77 = kz_lz (65535) := h9.trans (kz_lz_c65535)
                                        refine lv_land hx hb zd_N_find_242 ?_
                                        refine lv_topl (fun yl78 h9 => ?_)
                                        obtain rfl : yl78 = kz_lz ((((n75 : Nat) : Int)) % 65536) := h9.trans (kz_lz_andz _)
                                        refine lv_l2i hx hb zd_N_find_243 (kz_lz_i32 ((((n75 : Nat) : Int)) % 65536)) ?_
                                        refine va_iast hx hb hK hdy.1 hdy.2.1 hdy.2.2 3 0 rfl rfl (vp_in_nI (by omega) (by omega)) zd_N_find_244 (fun H locs hP hD hS => ?_)
                                        have h9 := kz_dgu d33 (k := k197) ((((((n75 : Nat) : Int)) % 65536) % 4294967296).toNat) (by omega)
                                        rw [h9] at hP hD
                                        obtain ⟨f79, ef79, hd_f79, hdy⟩ : ∃ f79 : Nat → Nat, f79 = kv_up d33 k197 ((((((n75 : Nat) : Int)) % 65536) % 4294967296).toNat) ∧ (∀ j, f79 j < 4294967296) ∧ kz_dy (dC, dI) vwCl A s.heap H locs [(o, .inr (4, [.int th, .int sta, .ref mt, .ref mn, .ref ml, .ref mc, .ref mh, .ref mk, .ref mp, .ref mm, .ref mb, .ref mw, .ref mr, .ref mx, .ref me, .ref mP, .ref mQ, .ref ms, .int (nI (0)), .int (nI (sz_)), .ref mo, .ref mW, .ref mD, .ref mB, .ref mR, .ref mS])), (mP, .inl (cI, 16, .inl (kz_dg d12))), (mQ, .inl (cI, 16, .inl (kz_dg d14))), (ms, .inl (cI, 18, .inl (kz_dg f79))), (mx, .inl (cI, 32, .inl (kz_dg d16)))] := ⟨_, rfl, kx_up_lt hd_d33 (by omega), hP, hD, hS⟩
                                        refine lv_lload hx hb zd_N_find_245 (lv_at hl 0 rfl) ?_
                                        refine lv_bipush (v := (nI (16))) hx hb zd_N_find_247 (by decide) ?_
                                        refine lv_lshr hx hb zd_N_find_249 (kz_lz_shr (z := (((n75 : Nat) : Int))) (by omega) (by omega)) ?_
                                        refine lv_topl (fun yl81 h9 => ?_)
                                        obtain ⟨n80, en80, rfl⟩ := kz_toN (e := (((n75 : Nat) : Int)) / 65536) h9 (by omega)
                                        refine lv_lstore (lv' := [(4, .long (kz_lz (((n80 : Nat) : Int)))), (6, .int (nI (k197))), (3, .int (nI (k170))), (1, .long (kz_lz (((c21 : Nat) : Int)))), (0, .ref o)]) hx hb zd_N_find_250 hl (by decide) rfl (fun ls hl => ?_)
                                        refine lv_iinc (v := (nI (k197 + 1))) (lv' := [(6, .int (nI (k197 + 1))), (4, .long (kz_lz (((n80 : Nat) : Int)))), (3, .int (nI (k170))), (1, .long (kz_lz (((c21 : Nat) : Int)))), (0, .ref o)]) hx hb zd_N_find_252 hl (k := 1) rfl (nI_1 _) (by decide) rfl (fun ls hl => ?_)
                                        refine lv_goto (tgt := 197) hx hb zd_N_find_255 (by decide) ?_
                                        have hi9_hcb82 : n80 < 262144 := by omega
                                        have hi9_hI83 : kv_val f79 (k197 + 1) + n80 * 65536 ^ (k197 + 1) = 1 + k170 * kv_val (kv_m18 d16) (k197 + 1) := by rw [ef79]; have h7 : ((((n75 : Nat) : Int) % 65536) % 4294967296).toNat = n75 % 65536 := (by omega); have h6 : n80 = n75 / 65536 := (by omega); rw [h7, h6]; exact kv_carry (by unfold kv_m18; first | (rw [if_pos (by omega), ← hm7]; omega) | (rw [if_neg (by omega)]; omega)) hI
                                        have hi9_hfl84 : ∀ j, j < k197 + 1 → f79 j < 65536 := by intro j hj; rw [ef79]; unfold kv_up; split; omega; exact hfl j (by omega)
                                        exact ih197 (k197 + 1) (n80) f79 _ _ _ (by omega) (by omega) hd_f79 hi9_hcb82 hi9_hI83 hi9_hfl84 hdy (lv_sub hl [0, 1, 2, 3, 4] rfl)
                                have hi9_hcb85 : n30 < 262144 := by omega
                                have hi9_hI86 : kv_val d7 (0) + n30 * 65536 ^ (0) = 1 + k170 * kv_val (kv_m18 d16) (0) := by have h0 : n30 = 1 := (by omega); rw [h0]; show 0 + 1 * 1 = 1 + _ * 0; omega
                                have hi9_hfl87 : ∀ j, j < 0 → d7 j < 65536 := by intro j hj; omega
                                exact lp197 (18 - 0 + 1) 0 (n30) d7 _ _ _ (by omega) (by omega) hd_d7 hi9_hcb85 hi9_hI86 hi9_hfl87 hdy (lv_sub hl [0, 1, 2, 3, 4] rfl)
                              · have hc182 : ¬ ((1 + ((((k170 : Nat) : Int)) * (((c21 : Nat) : Int)))) % 65537) = 0 := fun h9 => hc182 ((kz_lz_eq (by omega) (by omega) (by omega) (by omega)).mpr h9)
                                have hne : k170 ≠ x9 := fun q => hc182 (by rw [q]; exact hx7)
                                refine lv_iinc (v := (nI (k170 + 1))) (lv' := [(3, .int (nI (k170 + 1))), (1, .long (kz_lz (((c21 : Nat) : Int)))), (0, .ref o)]) hx hb zd_N_find_185 hl (k := 0) rfl (nI_1 _) (by decide) rfl (fun ls hl => ?_)
                                refine lv_goto (tgt := 170) hx hb zd_N_find_188 (by decide) ?_
                                exact ih170 (k170 + 1) _ _ _ (by omega) (by omega) hdy (lv_sub hl [0, 1, 2] rfl)
                          exact lp170 (x9 - 0 + 1) 0 _ _ _ (by omega) (by omega) hdy (lv_sub hl [0, 1, 2] rfl)
                        · have hc164 : (((c21 : Nat) : Int)) = 0 := (kz_lz_eq (by omega) (by omega) (by omega) (by omega)).mp hc164
                          exact kz_vret F ((nI (0)), d12, d14, d7, d16) hdy (⟨hd_d12, hd_d14, hd_d7, hd_d16, by exact Or.inl ⟨rfl, fun h9 => h9.2.2 (by rw [← hpe]; omega)⟩, by intro h; exact absurd (show nI 0 = 1 from h) (by decide), trivial⟩) zd_N_find_167
                      · have hc134 : ¬ k133 = 0 := fun h9 => hc134 ((kz_neg (by omega)).mpr h9)
                        obtain ⟨k133p, rfl⟩ : ∃ j, k133 = j + 1 := ⟨k133 - 1, by omega⟩
                        rw [nI_pred] at hl
                        refine lv_ldc2 (v := (65536)) hx hb hown (hts _ (kz_c mw_709)) zd_N_find_137 ?_
                        refine lv_topl (fun yl88 h9 => ?_)
                        obtain rfl : yl88 = kz_lz (65536) := h9.trans (kz_lz_c65536)
                        refine lv_lload_n hx hb zd_N_find_140 rfl (lv_at hl 1 rfl) ?_
                        refine lv_lmul hx hb zd_N_find_141 ?_
                        refine lv_topl (fun yl89 h9 => ?_)
                        obtain rfl : yl89 = kz_lz (65536 * (((c21 : Nat) : Int))) := h9.trans (kz_lz_mul _ _)
                        refine lv_aload_n hx hb zd_N_find_142 rfl (lv_at hl 2 rfl) ?_
                        refine va_get (D := (dC, dI)) (ci := 4) (v := .ref mx) (C := zR_N) (T := zT_N) (N := 26) hx hb hts (fun w h => kz_c (zi_N w h)) hown hK hdy.1 0 rfl rfl 13 (by decide) (hts _ (kz_c mw_604)) (fun _ h9 => h9) rfl zd_N_find_143 ?_
                        refine lv_iload_n hx hb zd_N_find_146 rfl (lv_at hl 0 rfl) ?_
                        refine va_iald hx hb hK hdy.1 4 0 rfl rfl (vp_in_nI (by omega) (by omega)) zd_N_find_147 ?_
                        refine lv_topi (fun x90 h9 => ?_)
                        obtain rfl : x90 = nI (d16 k133p) := h9.trans (kz_dgl d16 (by omega))
                        have hbx90 := hd_d16 k133p
                        refine lv_i2l hx hb zd_N_find_148 (kz_lz_i (n := d16 k133p) (by omega)) ?_
                        refine lv_ladd hx hb zd_N_find_149 ?_
                        refine lv_topl (fun yl91 h9 => ?_)
                        obtain rfl : yl91 = kz_lz ((65536 * (((c21 : Nat) : Int))) + (((d16 k133p : Nat) : Int))) := h9.trans (kz_lz_add _ _)
                        refine lv_ldc2 (v := (65537)) hx hb hown (hts _ (kz_c mw_710)) zd_N_find_150 ?_
                        refine lv_topl (fun yl92 h9 => ?_)
                        obtain rfl : yl92 = kz_lz (65537) := h9.trans (kz_lz_c65537)
                        refine lv_lrem hx hb zd_N_find_153 (kz_lz_ne0 (by omega) (by omega)) ?_
                        refine lv_topl (fun yl93 h9 => ?_)
                        obtain rfl : yl93 = kz_lz (((65536 * (((c21 : Nat) : Int))) + (((d16 k133p : Nat) : Int))) % 65537) := h9.trans (kz_lz_remz (by omega) (by omega) (by omega) (by omega))
                        refine lv_topl (fun yl95 h9 => ?_)
                        obtain ⟨n94, en94, rfl⟩ := kz_toN (e := ((65536 * (((c21 : Nat) : Int))) + (((d16 k133p : Nat) : Int))) % 65537) h9 (by omega)
                        refine lv_lstore_n (lv' := [(1, .long (kz_lz (((n94 : Nat) : Int)))), (3, .int (nI (k133p))), (0, .ref o)]) hx hb zd_N_find_154 rfl hl (by decide) rfl (fun ls hl => ?_)
                        refine lv_iinc (v := (nI (k133p) - 1)) (lv' := [(3, .int (nI (k133p) - 1)), (1, .long (kz_lz (((n94 : Nat) : Int)))), (0, .ref o)]) hx hb zd_N_find_155 hl (k := 1) rfl (kz_m1 _) (by decide) rfl (fun ls hl => ?_)
                        refine lv_goto (tgt := 133) hx hb zd_N_find_158 (by decide) ?_
                        have hi9_hp96 : n94 = kv_hiN 16 d16 (k133p) % 65537 := by rw [← kv_modStep (by omega) hp]; omega
                        exact ih133 k133p (n94) _ _ _ (by omega) (by omega) hi9_hp96 hdy (lv_sub hl [0, 1, 2] rfl)
                  have hi9_hp97 : n19 = kv_hiN 16 d16 (16) % 65537 := by have h0 : n19 = 0 := (by omega); rw [h0, kv_hiN_top]
                  exact lp133 (16 + 1) 16 (n19) _ _ _ (by omega) (by omega) hi9_hp97 hdy (lv_sub hl [0, 1, 2] rfl)
                · exact kz_vret F ((nI (0)), d5, d6, d7, gmx) hdy (⟨hd_d5, hd_d6, hd_d7, hd_gmx, by first | (exact Or.inl ⟨rfl, fun h9 => by have h8 := h9.2.1; rcases q11 with h7 | h7; exact absurd h7.1 hc98; omega⟩) | (exact Or.inl ⟨rfl, fun h9 => by have h8 := h9.1; rcases q9 with h7 | h7; exact absurd h7.1 hc88; omega⟩), by intro h; exact absurd (show nI 0 = 1 from h) (by decide), trivial⟩) zd_N_find_101
            · have hc65 : ¬ 18 ≤ k62 := fun h9 => hc65 ((nI_leI (by omega) (by omega)).mpr h9)
              refine lv_aload_n hx hb zd_N_find_68 rfl (lv_at hl 1 rfl) ?_
              refine va_get (D := (dC, dI)) (ci := 4) (v := .ref ms) (C := zR_N) (T := zT_N) (N := 26) hx hb hts (fun w h => kz_c (zi_N w h)) hown hK hdy.1 0 rfl rfl 17 (by decide) (hts _ (kz_c mw_608)) (fun _ h9 => h9) rfl zd_N_find_69 ?_
              refine lv_iload_n hx hb zd_N_find_72 rfl (lv_at hl 0 rfl) ?_
              refine lv_iconst (v := (nI (0))) hx hb zd_N_find_73 (by decide) ?_
              refine va_iast hx hb hK hdy.1 hdy.2.1 hdy.2.2 3 0 rfl rfl (vp_in_nI (by omega) (by omega)) zd_N_find_74 (fun H locs hP hD hS => ?_)
              have h9 := kz_dgu d7 (k := k62) 0 (by omega)
              rw [h9] at hP hD
              obtain ⟨f98, ef98, hd_f98, hdy⟩ : ∃ f98 : Nat → Nat, f98 = kv_up d7 k62 0 ∧ (∀ j, f98 j < 4294967296) ∧ kz_dy (dC, dI) vwCl A s.heap H locs [(o, .inr (4, [.int th, .int sta, .ref mt, .ref mn, .ref ml, .ref mc, .ref mh, .ref mk, .ref mp, .ref mm, .ref mb, .ref mw, .ref mr, .ref mx, .ref me, .ref mP, .ref mQ, .ref ms, .int (nI (0)), .int (nI (sz_)), .ref mo, .ref mW, .ref mD, .ref mB, .ref mR, .ref mS])), (mP, .inl (cI, 16, .inl (kz_dg d5))), (mQ, .inl (cI, 16, .inl (kz_dg d6))), (ms, .inl (cI, 18, .inl (kz_dg f98))), (mx, .inl (cI, 32, .inl (kz_dg gmx)))] := ⟨_, rfl, kx_up_lt hd_d7 (by omega), hP, hD, hS⟩
              refine lv_iinc (v := (nI (k62 + 1))) (lv' := [(1, .int (nI (k62 + 1))), (0, .ref o)]) hx hb zd_N_find_75 hl (k := 0) rfl (nI_1 _) (by decide) rfl (fun ls hl => ?_)
              refine lv_goto (tgt := 62) hx hb zd_N_find_78 (by decide) ?_
              exact ih62 (k62 + 1) f98 _ _ _ (by omega) (by omega) hd_f98 hdy (lv_sub hl [0, 1] rfl)
        exact lp62 (18 - 0 + 1) 0 gms _ _ _ (by omega) (by omega) hd_gms hdy (lv_sub hl [0, 1] rfl)
      · have hc32 : ¬ 16 ≤ k29 := fun h9 => hc32 ((nI_leI (by omega) (by omega)).mpr h9)
        refine lv_aload_n hx hb zd_N_find_35 rfl (lv_at hl 1 rfl) ?_
        refine va_get (D := (dC, dI)) (ci := 4) (v := .ref mP) (C := zR_N) (T := zT_N) (N := 26) hx hb hts (fun w h => kz_c (zi_N w h)) hown hK hdy.1 0 rfl rfl 15 (by decide) (hts _ (kz_c mw_606)) (fun _ h9 => h9) rfl zd_N_find_36 ?_
        refine lv_iload_n hx hb zd_N_find_39 rfl (lv_at hl 0 rfl) ?_
        refine lv_iconst (v := (nI (0))) hx hb zd_N_find_40 (by decide) ?_
        refine va_iast hx hb hK hdy.1 hdy.2.1 hdy.2.2 1 0 rfl rfl (vp_in_nI (by omega) (by omega)) zd_N_find_41 (fun H locs hP hD hS => ?_)
        have h9 := kz_dgu d5 (k := k29) 0 (by omega)
        rw [h9] at hP hD
        obtain ⟨f99, ef99, hd_f99, hdy⟩ : ∃ f99 : Nat → Nat, f99 = kv_up d5 k29 0 ∧ (∀ j, f99 j < 65536) ∧ kz_dy (dC, dI) vwCl A s.heap H locs [(o, .inr (4, [.int th, .int sta, .ref mt, .ref mn, .ref ml, .ref mc, .ref mh, .ref mk, .ref mp, .ref mm, .ref mb, .ref mw, .ref mr, .ref mx, .ref me, .ref mP, .ref mQ, .ref ms, .int hs, .int (nI (sz_)), .ref mo, .ref mW, .ref mD, .ref mB, .ref mR, .ref mS])), (mP, .inl (cI, 16, .inl (kz_dg f99))), (mQ, .inl (cI, 16, .inl (kz_dg d6))), (ms, .inl (cI, 18, .inl (kz_dg gms))), (mx, .inl (cI, 32, .inl (kz_dg gmx)))] := ⟨_, rfl, kv_up_lt hd_d5 (by omega), hP, hD, hS⟩
        refine lv_aload_n hx hb zd_N_find_42 rfl (lv_at hl 1 rfl) ?_
        refine va_get (D := (dC, dI)) (ci := 4) (v := .ref mQ) (C := zR_N) (T := zT_N) (N := 26) hx hb hts (fun w h => kz_c (zi_N w h)) hown hK hdy.1 0 rfl rfl 16 (by decide) (hts _ (kz_c mw_607)) (fun _ h9 => h9) rfl zd_N_find_43 ?_
        refine lv_iload_n hx hb zd_N_find_46 rfl (lv_at hl 0 rfl) ?_
        refine lv_iconst (v := (nI (0))) hx hb zd_N_find_47 (by decide) ?_
        refine va_iast hx hb hK hdy.1 hdy.2.1 hdy.2.2 2 0 rfl rfl (vp_in_nI (by omega) (by omega)) zd_N_find_48 (fun H locs hP hD hS => ?_)
        have h9 := kz_dgu d6 (k := k29) 0 (by omega)
        rw [h9] at hP hD
        obtain ⟨f100, ef100, hd_f100, hdy⟩ : ∃ f100 : Nat → Nat, f100 = kv_up d6 k29 0 ∧ (∀ j, f100 j < 65536) ∧ kz_dy (dC, dI) vwCl A s.heap H locs [(o, .inr (4, [.int th, .int sta, .ref mt, .ref mn, .ref ml, .ref mc, .ref mh, .ref mk, .ref mp, .ref mm, .ref mb, .ref mw, .ref mr, .ref mx, .ref me, .ref mP, .ref mQ, .ref ms, .int hs, .int (nI (sz_)), .ref mo, .ref mW, .ref mD, .ref mB, .ref mR, .ref mS])), (mP, .inl (cI, 16, .inl (kz_dg f99))), (mQ, .inl (cI, 16, .inl (kz_dg f100))), (ms, .inl (cI, 18, .inl (kz_dg gms))), (mx, .inl (cI, 32, .inl (kz_dg gmx)))] := ⟨_, rfl, kv_up_lt hd_d6 (by omega), hP, hD, hS⟩
        refine lv_iinc (v := (nI (k29 + 1))) (lv' := [(1, .int (nI (k29 + 1))), (0, .ref o)]) hx hb zd_N_find_49 hl (k := 0) rfl (nI_1 _) (by decide) rfl (fun ls hl => ?_)
        refine lv_goto (tgt := 29) hx hb zd_N_find_52 (by decide) ?_
        have hi9_hfp101 : ∀ j, j < 8 → f99 j = kv_fig gmt 16 j := by intro j hj; rw [ef99, kv_up_ne _ _ (by omega)]; exact hfp j hj
        have hi9_hfp0102 : ∀ j, 8 ≤ j → j < k29 + 1 → f99 j = 0 := by intro j a b; rw [ef99]; unfold kv_up; split; rfl; exact hfp0 j a (by omega)
        have hi9_hfq103 : ∀ j, j < 8 → f100 j = kv_fig gmt 24 j := by intro j hj; rw [ef100, kv_up_ne _ _ (by omega)]; exact hfq j hj
        have hi9_hfq0104 : ∀ j, 8 ≤ j → j < k29 + 1 → f100 j = 0 := by intro j a b; rw [ef100]; unfold kv_up; split; rfl; exact hfq0 j a (by omega)
        exact ih29 (k29 + 1) f99 f100 _ _ _ (by omega) (by omega) (by omega) hd_f99 hd_f100 hi9_hfp101 hi9_hfp0102 hi9_hfq103 hi9_hfq0104 hdy (lv_sub hl [0, 1] rfl)
  have hi9_hfp105 : ∀ j, j < 8 → d1 j = kv_fig gmt 16 j := by exact fun j hj => q2 j (by omega)
  have hi9_hfp0106 : ∀ j, 8 ≤ j → j < 8 → d1 j = 0 := by intro j a b; omega
  have hi9_hfq107 : ∀ j, j < 8 → d3 j = kv_fig gmt 24 j := by exact fun j hj => q4 j (by omega)
  have hi9_hfq0108 : ∀ j, 8 ≤ j → j < 8 → d3 j = 0 := by intro j a b; omega
  exact lp29 (16 - 8 + 1) 8 d1 d3 _ _ _ (by omega) (by omega) (by omega) hd_d1 hd_d3 hi9_hfp105 hi9_hfp0106 hi9_hfq107 hi9_hfq0108 hdy (lv_sub hl [0, 1] rfl)

set_option maxHeartbeats 4000000 in
set_option maxRecDepth 100000 in
/-- KeyMeetingModel.small(IJ)V -/
theorem c_F_small0 (l : Launch) (dC : Nat → ClassId) (dI : Nat → Nat → Nat) (cI cAA cB cL : ClassId) (o mt mn ml mc mh mk mp mm mb mw mr mx me mP mQ ms mo mW mD mB mR mS : Nat) (th : Int32) (sta : Int32) (hs : Int32) (sz_ : Nat) (gmt : Nat → Int32) (w_ : Nat) (vn : Nat) (sz : Nat) (hw_ : w_ < 7) (hv_ : vn < 9223372036854775808) : Met l zy_N_small zw_N_small { frames := 1, cells := 0, slots := 0, locals := 22 } (kz_Pc (dC, dI) vwCl [(cI, .int), (cAA, .array .int), (cB, .byte), (cL, .long)] [] [] [.ref o, .int (nI (w_)), .long (kz_lz (((vn : Nat) : Int)))] [(o, .inr (4, [.int th, .int sta, .ref mt, .ref mn, .ref ml, .ref mc, .ref mh, .ref mk, .ref mp, .ref mm, .ref mb, .ref mw, .ref mr, .ref mx, .ref me, .ref mP, .ref mQ, .ref ms, .int hs, .int (nI (sz_)), .ref mo, .ref mW, .ref mD, .ref mB, .ref mR, .ref mS])), (mt, .inl (cI, 56, .inl gmt))] [] sz) (va_Qv (fun (u : Int32 × (Nat → Int32)) => (u.1 = nI 0) ∧ (∀ j, j < 8 → u.2 (8 * w_ + j) = nI (kx_smallrow vn j)) ∧ (∀ j, (j < 8 * w_ ∨ 8 * w_ + 8 ≤ j) → u.2 j = gmt j) ∧ True) (kz_B (dC, dI) vwCl (va_A [(o, .inr (4, [.int th, .int sta, .ref mt, .ref mn, .ref ml, .ref mc, .ref mh, .ref mk, .ref mp, .ref mm, .ref mb, .ref mw, .ref mr, .ref mx, .ref me, .ref mP, .ref mQ, .ref ms, .int hs, .int (nI (sz_)), .ref mo, .ref mW, .ref mD, .ref mB, .ref mR, .ref mS])), (mt, .inl (cI, 56, .inl gmt))] sz) (fun u : Int32 × (Nat → Int32) => [(o, .inr (4, [.int u.1, .int sta, .ref mt, .ref mn, .ref ml, .ref mc, .ref mh, .ref mk, .ref mp, .ref mm, .ref mb, .ref mw, .ref mr, .ref mx, .ref me, .ref mP, .ref mQ, .ref ms, .int hs, .int (nI (sz_)), .ref mo, .ref mW, .ref mD, .ref mB, .ref mR, .ref mS])), (mt, .inl (cI, 56, .inl u.2))])) (va_A [(o, .inr (4, [.int th, .int sta, .ref mt, .ref mn, .ref ml, .ref mc, .ref mh, .ref mk, .ref mp, .ref mm, .ref mb, .ref mw, .ref mr, .ref mx, .ref me, .ref mP, .ref mQ, .ref ms, .int hs, .int (nI (sz_)), .ref mo, .ref mW, .ref mD, .ref mB, .ref mR, .ref mS])), (mt, .inl (cI, 56, .inl gmt))] sz)) 0 0 (va_A [(o, .inr (4, [.int th, .int sta, .ref mt, .ref mn, .ref ml, .ref mc, .ref mh, .ref mk, .ref mp, .ref mm, .ref mb, .ref mw, .ref mr, .ref mx, .ref me, .ref mP, .ref mQ, .ref ms, .int hs, .int (nI (sz_)), .ref mo, .ref mW, .ref mD, .ref mB, .ref mR, .ref mS])), (mt, .inl (cI, 56, .inl gmt))] sz) := by
  refine kz_met (y := zy_N_small) (ws := zw_N_small) (av := [.ref o, .int (nI (w_)), .long (kz_lz (((vn : Nat) : Int)))]) (sz := sz) (Qc := fun A => va_Qv (fun (u : Int32 × (Nat → Int32)) => (u.1 = nI 0) ∧ (∀ j, j < 8 → u.2 (8 * w_ + j) = nI (kx_smallrow vn j)) ∧ (∀ j, (j < 8 * w_ ∨ 8 * w_ + 8 ≤ j) → u.2 j = gmt j) ∧ True) (kz_B (dC, dI) vwCl A (fun u : Int32 × (Nat → Int32) => [(o, .inr (4, [.int u.1, .int sta, .ref mt, .ref mn, .ref ml, .ref mc, .ref mh, .ref mk, .ref mp, .ref mm, .ref mb, .ref mw, .ref mr, .ref mx, .ref me, .ref mP, .ref mQ, .ref ms, .int hs, .int (nI (sz_)), .ref mo, .ref mW, .ref mD, .ref mB, .ref mR, .ref mS])), (mt, .inl (cI, 56, .inl u.2))])) A) (cc := zc_N_small) (maxL := 6) (ret := none) (by decide) rfl (Nat.le_of_ble_eq_true rfl) ?_
  intro p e s m below meth c A ls F hA hdy hK hro hZ hN hl
  obtain ⟨hx, hb, hml, hr, hown, hlocks, hts, hnm⟩ := id F
  have hl : lv_has ls 6 [(0, .ref o), (1, .int (nI (w_))), (2, .long (kz_lz (((vn : Nat) : Int))))] := hl
  refine lv_iload_n hx hb zd_N_small_0 rfl (lv_at hl 1 rfl) ?_
  refine lv_if_lt (tgt := 10) hx hb zd_N_small_1 (by decide) (fun hc1 => ?_) (fun hc1 => ?_)
  · exact absurd hc1 (nI_pos (by omega))
  · refine lv_iload_n hx hb zd_N_small_4 rfl (lv_at hl 1 rfl) ?_
    refine lv_bipush (v := (nI (6))) hx hb zd_N_small_5 (by decide) ?_
    refine lv_icmp_le (tgt := 14) hx hb zd_N_small_7 (by decide) (fun hc7 => ?_) (fun hc7 => ?_)
    · have hc7 : w_ ≤ 6 := (nI_leI (by omega) (by omega)).mp hc7
      refine lv_iconst (v := (nI (0))) hx hb zd_N_small_14 (by decide) ?_
      refine lv_istore (lv' := [(4, .int (nI (0))), (0, .ref o), (1, .int (nI (w_))), (2, .long (kz_lz (((vn : Nat) : Int))))]) hx hb zd_N_small_15 hl (by decide) rfl (fun ls hl => ?_)
      refine lv_aload_n hx hb zd_N_small_17 rfl (lv_at hl 1 rfl) ?_
      refine lv_iload hx hb zd_N_small_18 (lv_at hl 0 rfl) ?_
      refine lv_lload_n hx hb zd_N_small_20 rfl (lv_at hl 3 rfl) ?_
      refine lv_lconst (v := 0) hx hb zd_N_small_21 (by decide) ?_
      refine lv_topl (fun yl1 h9 => ?_)
      obtain rfl : yl1 = kz_lz (0) := h9.trans (kz_lz_c0)
      refine kz_lge (tgt := 30) hx hb zd_N_small_22 zd_N_small_23 (by decide) (fun hc23 => ?_) (fun hc23 => ?_)
      · have hc23 : ¬ (((vn : Nat) : Int)) < 0 := fun h9 => hc23 ((kz_lz_lt (by omega) (by omega) (by omega) (by omega)).mpr h9)
        refine lv_iconst (v := (nI (0))) hx hb zd_N_small_30 (by decide) ?_
        refine kz_calli (wk := [(mt, .inl (cI, 56, .inl gmt))]) (va_runV (As := [.int (nI (0)), .int (nI (0))]) (rest := []) ⟨hx, hb, hml, hown, hts⟩ (c_M_refused0 l dC dI cI cAA cB cL o mt mn ml mc mh mk mp mm mb mw mr mx me mP mQ ms mo mW mD mB mR mS (th) (sta) (hs) sz_ _) (cwV 2 hts (kz_g (kz_mc mw_674 (kz_mc mw_676 (kz_mc mw_20 (kz_mc mw_43 kz_mn)))) mw_677) rfl rfl rfl (by decide +kernel) ⟨Nat.le_of_ble_eq_true rfl, Nat.le_of_ble_eq_true rfl⟩) (kz_preV hdy hA hK hro hZ hN [0] (by decide) rfl [] rfl (by decide) [0, 1, 2, 3] rfl (fun _ h => by cases h) (fun _ h => by cases h) rfl (ci := 4) (q0 := 0) rfl rfl rfl) rfl rfl hl.1 rfl (lv_room (Nat.le_of_ble_eq_true rfl)) zd_N_small_31 ⟨Nat.le_of_ble_eq_true rfl, Nat.le_of_ble_eq_true rfl⟩) hdy hA [0] [1] rfl rfl (by decide) (by decide) (fun r u H locs hw hdy => ?_)
        obtain ⟨x2, rfl⟩ : ∃ z, z = u := ⟨_, rfl⟩
        try dsimp only at hw
        obtain ⟨rfl, q3, -⟩ := hw
        have hdy : kz_dy (dC, dI) vwCl A s.heap H locs [(o, .inr (4, [.int x2, .int sta, .ref mt, .ref mn, .ref ml, .ref mc, .ref mh, .ref mk, .ref mp, .ref mm, .ref mb, .ref mw, .ref mr, .ref mx, .ref me, .ref mP, .ref mQ, .ref ms, .int hs, .int (nI (sz_)), .ref mo, .ref mW, .ref mD, .ref mB, .ref mR, .ref mS])), (mt, .inl (cI, 56, .inl gmt))] := hdy.sub [1, 0] (by decide) rfl
        refine lv_if_ne (tgt := 92) hx hb zd_N_small_34 (by decide) (fun hc34 => ?_) (fun hc34 => ?_)
        · exact absurd (by decide) hc34
        · refine lv_iconst (v := (nI (0))) hx hb zd_N_small_37 (by decide) ?_
          refine lv_istore (lv' := [(5, .int (nI (0))), (4, .int (nI (0))), (0, .ref o), (1, .int (nI (w_))), (2, .long (kz_lz (((vn : Nat) : Int))))]) hx hb zd_N_small_38 hl (by decide) rfl (fun ls hl => ?_)
          have lp40 : ∀ (n40 k40 : Nat) (f4 : Nat → Int32) (H : Heap) (locs : List Loc) (ls : Array Slot), k40 ≤ 8 → 8 - k40 < n40 → (∀ j, j < k40 → f4 (8 * w_ + j) = nI (kx_smallrow vn j)) → (∀ j, (j < 8 * w_ ∨ 8 * w_ + 8 ≤ j) → f4 j = gmt j) → kz_dy (dC, dI) vwCl A s.heap H locs [(o, .inr (4, [.int x2, .int sta, .ref mt, .ref mn, .ref ml, .ref mc, .ref mh, .ref mk, .ref mp, .ref mm, .ref mb, .ref mw, .ref mr, .ref mx, .ref me, .ref mP, .ref mQ, .ref ms, .int hs, .int (nI (sz_)), .ref mo, .ref mW, .ref mD, .ref mB, .ref mR, .ref mS])), (mt, .inl (cI, 56, .inl f4))] → lv_has ls 6 [(5, .int (nI (k40))), (4, .int (nI (0))), (0, .ref o), (1, .int (nI (w_))), (2, .long (kz_lz (((vn : Nat) : Int))))] → W p l e { frames := 1, cells := 0, slots := 0, locals := 22 } s m ([.ref o, .int (nI (w_)), .long (kz_lz (((vn : Nat) : Int)))] : List Value).toArray below meth c H locs 0 0 (MQ below (va_Qv (fun (u : Int32 × (Nat → Int32)) => (u.1 = nI 0) ∧ (∀ j, j < 8 → u.2 (8 * w_ + j) = nI (kx_smallrow vn j)) ∧ (∀ j, (j < 8 * w_ ∨ 8 * w_ + 8 ≤ j) → u.2 j = gmt j) ∧ True) (kz_B (dC, dI) vwCl A (fun u : Int32 × (Nat → Int32) => [(o, .inr (4, [.int u.1, .int sta, .ref mt, .ref mn, .ref ml, .ref mc, .ref mh, .ref mk, .ref mp, .ref mm, .ref mb, .ref mw, .ref mr, .ref mx, .ref me, .ref mP, .ref mQ, .ref ms, .int hs, .int (nI (sz_)), .ref mo, .ref mW, .ref mD, .ref mB, .ref mR, .ref mS])), (mt, .inl (cI, 56, .inl u.2))])) A) ([.ref o, .int (nI (w_)), .long (kz_lz (((vn : Nat) : Int)))] : List Value).toArray s 0 0 A) (F0 m 40 ls []) := by
            intro n40
            induction n40 with
            | zero => intro k40; intros; omega
            | succ n40 ih40 =>
              intro k40 f4 H locs ls hi40 hn40 hA1 hB1 hdy hl
              refine lv_iload hx hb zd_N_small_40 (lv_at hl 0 rfl) ?_
              refine lv_bipush (v := (nI (8))) hx hb zd_N_small_42 (by decide) ?_
              refine lv_icmp_ge (tgt := 92) hx hb zd_N_small_44 (by decide) (fun hc44 => ?_) (fun hc44 => ?_)
              · have hc44 : 8 ≤ k40 := (nI_leI (by omega) (by omega)).mp hc44
                exact kz_vret F (x2, f4) hdy (⟨by first | assumption | rfl | omega, by first | exact (fun j hj => hA1 j (by omega)) | (exfalso; omega), by first | exact hB1 | (exfalso; omega), trivial⟩) zd_N_small_92
              · have hc44 : ¬ 8 ≤ k40 := fun h9 => hc44 ((nI_leI (by omega) (by omega)).mpr h9)
                refine lv_aload_n hx hb zd_N_small_47 rfl (lv_at hl 2 rfl) ?_
                refine va_get (D := (dC, dI)) (ci := 4) (v := .ref mt) (C := zR_N) (T := zT_N) (N := 26) hx hb hts (fun w h => kz_c (zi_N w h)) hown hK hdy.1 0 rfl rfl 2 (by decide) (hts _ (kz_c mw_593)) (fun _ h9 => h9) rfl zd_N_small_48 ?_
                refine lv_bipush (v := (nI (8))) hx hb zd_N_small_51 (by decide) ?_
                refine lv_iload_n hx hb zd_N_small_53 rfl (lv_at hl 3 rfl) ?_
                refine kz_imul hx hb zd_N_small_54 (pk_mul _ _) ?_
                refine lv_iload hx hb zd_N_small_55 (lv_at hl 0 rfl) ?_
                refine kz_iadd hx hb zd_N_small_57 (nI_add _ _) ?_
                refine lv_iload hx hb zd_N_small_58 (lv_at hl 0 rfl) ?_
                refine lv_bipush (v := (nI (6))) hx hb zd_N_small_60 (by decide) ?_
                refine lv_icmp_ge (tgt := 69) hx hb zd_N_small_62 (by decide) (fun hc62 => ?_) (fun hc62 => ?_)
                · have hc62 : 6 ≤ k40 := (nI_leI (by omega) (by omega)).mp hc62
                  refine lv_iload hx hb zd_N_small_69 (lv_at hl 0 rfl) ?_
                  refine lv_bipush (v := (nI (6))) hx hb zd_N_small_71 (by decide) ?_
                  refine lv_icmp_ne (tgt := 83) hx hb zd_N_small_73 (by decide) (fun hc73 => ?_) (fun hc73 => ?_)
                  · have hc73 : ¬ k40 = 6 := fun h9 => hc73 ((kx_nIeq (by omega) (by omega)).mpr h9)
                    refine lv_lload_n hx hb zd_N_small_83 rfl (lv_at hl 4 rfl) ?_
                    refine lv_l2i hx hb zd_N_small_84 (kz_lz_i32 (((vn : Nat) : Int))) ?_
                    refine va_iast hx hb hK hdy.1 hdy.2.1 hdy.2.2 1 0 rfl rfl (vp_in_nI (by omega) (by omega)) zd_N_small_85 (fun H locs hP hD hS => ?_)
                    rw [nI_clamp (by omega)] at hP hD
                    obtain ⟨f5, ef5, hdy⟩ : ∃ f5 : Nat → Int32, f5 = upd f4 (8 * w_ + k40) ((nI (((((vn : Nat) : Int)) % 4294967296).toNat))) ∧ kz_dy (dC, dI) vwCl A s.heap H locs [(o, .inr (4, [.int x2, .int sta, .ref mt, .ref mn, .ref ml, .ref mc, .ref mh, .ref mk, .ref mp, .ref mm, .ref mb, .ref mw, .ref mr, .ref mx, .ref me, .ref mP, .ref mQ, .ref ms, .int hs, .int (nI (sz_)), .ref mo, .ref mW, .ref mD, .ref mB, .ref mR, .ref mS])), (mt, .inl (cI, 56, .inl f5))] := ⟨_, rfl, hP, hD, hS⟩
                    refine lv_iinc (v := (nI (k40 + 1))) (lv' := [(5, .int (nI (k40 + 1))), (4, .int (nI (0))), (0, .ref o), (1, .int (nI (w_))), (2, .long (kz_lz (((vn : Nat) : Int))))]) hx hb zd_N_small_86 hl (k := 0) rfl (nI_1 _) (by decide) rfl (fun ls hl => ?_)
                    refine lv_goto (tgt := 40) hx hb zd_N_small_89 (by decide) ?_
                    have hi9_hA16 : ∀ j, j < k40 + 1 → f5 (8 * w_ + j) = nI (kx_smallrow vn j) := by rw [ef5]; exact kz_fillw (F := fun j => nI (kx_smallrow vn j)) hA1 (by show _ = nI (kx_smallrow vn k40); first | exact kx_sr0 (by omega) | exact kx_sr6 (by omega) (by omega) | exact kx_sr7 (by omega) (by omega))
                    have hi9_hB17 : ∀ j, (j < 8 * w_ ∨ 8 * w_ + 8 ≤ j) → f5 j = gmt j := by rw [ef5]; exact kz_keepw (by omega) hB1
                    exact ih40 (k40 + 1) f5 _ _ _ (by omega) (by omega) hi9_hA16 hi9_hB17 hdy (lv_sub hl [0, 1, 2, 3, 4] rfl)
                  · have hc73 : k40 = 6 := (kx_nIeq (by omega) (by omega)).mp hc73
                    refine lv_lload_n hx hb zd_N_small_76 rfl (lv_at hl 4 rfl) ?_
                    refine lv_bipush (v := (nI (32))) hx hb zd_N_small_77 (by decide) ?_
                    refine lv_lshr hx hb zd_N_small_79 (kz_lz_shr32 (z := (((vn : Nat) : Int))) (by omega) (by omega)) ?_
                    refine lv_goto (tgt := 84) hx hb zd_N_small_80 (by decide) ?_
                    refine lv_l2i hx hb zd_N_small_84 (kz_lz_i32 ((((vn : Nat) : Int)) / 4294967296)) ?_
                    refine va_iast hx hb hK hdy.1 hdy.2.1 hdy.2.2 1 0 rfl rfl (vp_in_nI (by omega) (by omega)) zd_N_small_85 (fun H locs hP hD hS => ?_)
                    rw [nI_clamp (by omega)] at hP hD
                    obtain ⟨f8, ef8, hdy⟩ : ∃ f8 : Nat → Int32, f8 = upd f4 (8 * w_ + k40) ((nI ((((((vn : Nat) : Int)) / 4294967296) % 4294967296).toNat))) ∧ kz_dy (dC, dI) vwCl A s.heap H locs [(o, .inr (4, [.int x2, .int sta, .ref mt, .ref mn, .ref ml, .ref mc, .ref mh, .ref mk, .ref mp, .ref mm, .ref mb, .ref mw, .ref mr, .ref mx, .ref me, .ref mP, .ref mQ, .ref ms, .int hs, .int (nI (sz_)), .ref mo, .ref mW, .ref mD, .ref mB, .ref mR, .ref mS])), (mt, .inl (cI, 56, .inl f8))] := ⟨_, rfl, hP, hD, hS⟩
                    refine lv_iinc (v := (nI (k40 + 1))) (lv' := [(5, .int (nI (k40 + 1))), (4, .int (nI (0))), (0, .ref o), (1, .int (nI (w_))), (2, .long (kz_lz (((vn : Nat) : Int))))]) hx hb zd_N_small_86 hl (k := 0) rfl (nI_1 _) (by decide) rfl (fun ls hl => ?_)
                    refine lv_goto (tgt := 40) hx hb zd_N_small_89 (by decide) ?_
                    have hi9_hA19 : ∀ j, j < k40 + 1 → f8 (8 * w_ + j) = nI (kx_smallrow vn j) := by rw [ef8]; exact kz_fillw (F := fun j => nI (kx_smallrow vn j)) hA1 (by show _ = nI (kx_smallrow vn k40); first | exact kx_sr0 (by omega) | exact kx_sr6 (by omega) (by omega) | exact kx_sr7 (by omega) (by omega))
                    have hi9_hB110 : ∀ j, (j < 8 * w_ ∨ 8 * w_ + 8 ≤ j) → f8 j = gmt j := by rw [ef8]; exact kz_keepw (by omega) hB1
                    exact ih40 (k40 + 1) f8 _ _ _ (by omega) (by omega) hi9_hA19 hi9_hB110 hdy (lv_sub hl [0, 1, 2, 3, 4] rfl)
                · have hc62 : ¬ 6 ≤ k40 := fun h9 => hc62 ((nI_leI (by omega) (by omega)).mpr h9)
                  refine lv_iconst (v := (nI (0))) hx hb zd_N_small_65 (by decide) ?_
                  refine lv_goto (tgt := 85) hx hb zd_N_small_66 (by decide) ?_
                  refine va_iast hx hb hK hdy.1 hdy.2.1 hdy.2.2 1 0 rfl rfl (vp_in_nI (by omega) (by omega)) zd_N_small_85 (fun H locs hP hD hS => ?_)
                  rw [nI_clamp (by omega)] at hP hD
                  obtain ⟨f11, ef11, hdy⟩ : ∃ f11 : Nat → Int32, f11 = upd f4 (8 * w_ + k40) ((nI (0))) ∧ kz_dy (dC, dI) vwCl A s.heap H locs [(o, .inr (4, [.int x2, .int sta, .ref mt, .ref mn, .ref ml, .ref mc, .ref mh, .ref mk, .ref mp, .ref mm, .ref mb, .ref mw, .ref mr, .ref mx, .ref me, .ref mP, .ref mQ, .ref ms, .int hs, .int (nI (sz_)), .ref mo, .ref mW, .ref mD, .ref mB, .ref mR, .ref mS])), (mt, .inl (cI, 56, .inl f11))] := ⟨_, rfl, hP, hD, hS⟩
                  refine lv_iinc (v := (nI (k40 + 1))) (lv' := [(5, .int (nI (k40 + 1))), (4, .int (nI (0))), (0, .ref o), (1, .int (nI (w_))), (2, .long (kz_lz (((vn : Nat) : Int))))]) hx hb zd_N_small_86 hl (k := 0) rfl (nI_1 _) (by decide) rfl (fun ls hl => ?_)
                  refine lv_goto (tgt := 40) hx hb zd_N_small_89 (by decide) ?_
                  have hi9_hA112 : ∀ j, j < k40 + 1 → f11 (8 * w_ + j) = nI (kx_smallrow vn j) := by rw [ef11]; exact kz_fillw (F := fun j => nI (kx_smallrow vn j)) hA1 (by show _ = nI (kx_smallrow vn k40); first | exact kx_sr0 (by omega) | exact kx_sr6 (by omega) (by omega) | exact kx_sr7 (by omega) (by omega))
                  have hi9_hB113 : ∀ j, (j < 8 * w_ ∨ 8 * w_ + 8 ≤ j) → f11 j = gmt j := by rw [ef11]; exact kz_keepw (by omega) hB1
                  exact ih40 (k40 + 1) f11 _ _ _ (by omega) (by omega) hi9_hA112 hi9_hB113 hdy (lv_sub hl [0, 1, 2, 3, 4] rfl)
          have hi9_hA114 : ∀ j, j < 0 → gmt (8 * w_ + j) = nI (kx_smallrow vn j) := by intro j hj; omega
          have hi9_hB115 : ∀ j, (j < 8 * w_ ∨ 8 * w_ + 8 ≤ j) → gmt j = gmt j := by exact fun _ _ => rfl
          exact lp40 (8 - 0 + 1) 0 gmt _ _ _ (by omega) (by omega) hi9_hA114 hi9_hB115 hdy (lv_sub hl [0, 1, 2, 3, 4] rfl)
      · have hc23 : (((vn : Nat) : Int)) < 0 := (kz_lz_lt (by omega) (by omega) (by omega) (by omega)).mp hc23
        exfalso; omega
    · have hc7 : ¬ w_ ≤ 6 := fun h9 => hc7 ((nI_leI (by omega) (by omega)).mpr h9)
      refine lv_iconst (v := (nI (1))) hx hb zd_N_small_10 (by decide) ?_
      refine lv_goto (tgt := 15) hx hb zd_N_small_11 (by decide) ?_
      refine lv_istore (lv' := [(4, .int (nI (1))), (0, .ref o), (1, .int (nI (w_))), (2, .long (kz_lz (((vn : Nat) : Int))))]) hx hb zd_N_small_15 hl (by decide) rfl (fun ls hl => ?_)
      refine lv_aload_n hx hb zd_N_small_17 rfl (lv_at hl 1 rfl) ?_
      refine lv_iload hx hb zd_N_small_18 (lv_at hl 0 rfl) ?_
      refine lv_lload_n hx hb zd_N_small_20 rfl (lv_at hl 3 rfl) ?_
      refine lv_lconst (v := 0) hx hb zd_N_small_21 (by decide) ?_
      refine lv_topl (fun yl16 h9 => ?_)
      obtain rfl : yl16 = kz_lz (0) := h9.trans (kz_lz_c0)
      refine kz_lge (tgt := 30) hx hb zd_N_small_22 zd_N_small_23 (by decide) (fun hc23 => ?_) (fun hc23 => ?_)
      · have hc23 : ¬ (((vn : Nat) : Int)) < 0 := fun h9 => hc23 ((kz_lz_lt (by omega) (by omega) (by omega) (by omega)).mpr h9)
        refine lv_iconst (v := (nI (0))) hx hb zd_N_small_30 (by decide) ?_
        refine kz_calli (wk := [(mt, .inl (cI, 56, .inl gmt))]) (va_runV (As := [.int (nI (1)), .int (nI (0))]) (rest := []) ⟨hx, hb, hml, hown, hts⟩ (c_M_refused1 l dC dI cI cAA cB cL o mt mn ml mc mh mk mp mm mb mw mr mx me mP mQ ms mo mW mD mB mR mS (th) (sta) (hs) sz_ _) (cwV 2 hts (kz_g (kz_mc mw_674 (kz_mc mw_676 (kz_mc mw_20 (kz_mc mw_43 kz_mn)))) mw_677) rfl rfl rfl (by decide +kernel) ⟨Nat.le_of_ble_eq_true rfl, Nat.le_of_ble_eq_true rfl⟩) (kz_preV hdy hA hK hro hZ hN [0] (by decide) rfl [] rfl (by decide) [0, 1, 2, 3] rfl (fun _ h => by cases h) (fun _ h => by cases h) rfl (ci := 4) (q0 := 0) rfl rfl rfl) rfl rfl hl.1 rfl (lv_room (Nat.le_of_ble_eq_true rfl)) zd_N_small_31 ⟨Nat.le_of_ble_eq_true rfl, Nat.le_of_ble_eq_true rfl⟩) hdy hA [0] [1] rfl rfl (by decide) (by decide) (fun r u H locs hw hdy => ?_)
        obtain ⟨x17, rfl⟩ : ∃ z, z = u := ⟨_, rfl⟩
        try dsimp only at hw
        obtain ⟨rfl, q18, -⟩ := hw
        have hdy : kz_dy (dC, dI) vwCl A s.heap H locs [(o, .inr (4, [.int x17, .int sta, .ref mt, .ref mn, .ref ml, .ref mc, .ref mh, .ref mk, .ref mp, .ref mm, .ref mb, .ref mw, .ref mr, .ref mx, .ref me, .ref mP, .ref mQ, .ref ms, .int hs, .int (nI (sz_)), .ref mo, .ref mW, .ref mD, .ref mB, .ref mR, .ref mS])), (mt, .inl (cI, 56, .inl gmt))] := hdy.sub [1, 0] (by decide) rfl
        refine lv_if_ne (tgt := 92) hx hb zd_N_small_34 (by decide) (fun hc34 => ?_) (fun hc34 => ?_)
        · exact kz_vret F (x17, gmt) hdy (⟨by first | assumption | rfl | omega, by first | exact (fun j hj => hA1 j (by omega)) | (exfalso; omega), by first | exact hB1 | (exfalso; omega), trivial⟩) zd_N_small_92
        · exact absurd hc34 (by decide)
      · have hc23 : (((vn : Nat) : Int)) < 0 := (kz_lz_lt (by omega) (by omega) (by omega) (by omega)).mp hc23
        exfalso; omega

set_option maxHeartbeats 4000000 in
set_option maxRecDepth 100000 in
/-- KeyMeetingModel.small(IJ)V -/
theorem c_F_small2 (l : Launch) (dC : Nat → ClassId) (dI : Nat → Nat → Nat) (cI cAA cB cL : ClassId) (o mt mn ml mc mh mk mp mm mb mw mr mx me mP mQ ms mo mW mD mB mR mS : Nat) (th : Int32) (sta : Int32) (hs : Int32) (sz_ : Nat) (gmt : Nat → Int32) (w_ : Nat) (v : Int64) (sz : Nat) (hw_ : w_ < 7) (hv_ : v < 0) : Met l zy_N_small zw_N_small { frames := 1, cells := 0, slots := 0, locals := 22 } (kz_Pc (dC, dI) vwCl [(cI, .int), (cAA, .array .int), (cB, .byte), (cL, .long)] [] [] [.ref o, .int (nI (w_)), .long v] [(o, .inr (4, [.int th, .int sta, .ref mt, .ref mn, .ref ml, .ref mc, .ref mh, .ref mk, .ref mp, .ref mm, .ref mb, .ref mw, .ref mr, .ref mx, .ref me, .ref mP, .ref mQ, .ref ms, .int hs, .int (nI (sz_)), .ref mo, .ref mW, .ref mD, .ref mB, .ref mR, .ref mS]))] [(mt, .inl (cI, 56, .inl gmt))] sz) (va_Qv (fun (u : Int32) => (u = nI 2) ∧ True) (kz_B (dC, dI) vwCl (va_A [(o, .inr (4, [.int th, .int sta, .ref mt, .ref mn, .ref ml, .ref mc, .ref mh, .ref mk, .ref mp, .ref mm, .ref mb, .ref mw, .ref mr, .ref mx, .ref me, .ref mP, .ref mQ, .ref ms, .int hs, .int (nI (sz_)), .ref mo, .ref mW, .ref mD, .ref mB, .ref mR, .ref mS]))] sz) (fun u : Int32 => [(o, .inr (4, [.int u, .int sta, .ref mt, .ref mn, .ref ml, .ref mc, .ref mh, .ref mk, .ref mp, .ref mm, .ref mb, .ref mw, .ref mr, .ref mx, .ref me, .ref mP, .ref mQ, .ref ms, .int hs, .int (nI (sz_)), .ref mo, .ref mW, .ref mD, .ref mB, .ref mR, .ref mS]))])) (va_A [(o, .inr (4, [.int th, .int sta, .ref mt, .ref mn, .ref ml, .ref mc, .ref mh, .ref mk, .ref mp, .ref mm, .ref mb, .ref mw, .ref mr, .ref mx, .ref me, .ref mP, .ref mQ, .ref ms, .int hs, .int (nI (sz_)), .ref mo, .ref mW, .ref mD, .ref mB, .ref mR, .ref mS]))] sz)) 0 0 (va_A [(o, .inr (4, [.int th, .int sta, .ref mt, .ref mn, .ref ml, .ref mc, .ref mh, .ref mk, .ref mp, .ref mm, .ref mb, .ref mw, .ref mr, .ref mx, .ref me, .ref mP, .ref mQ, .ref ms, .int hs, .int (nI (sz_)), .ref mo, .ref mW, .ref mD, .ref mB, .ref mR, .ref mS]))] sz) := by
  refine kz_met (y := zy_N_small) (ws := zw_N_small) (av := [.ref o, .int (nI (w_)), .long v]) (sz := sz) (Qc := fun A => va_Qv (fun (u : Int32) => (u = nI 2) ∧ True) (kz_B (dC, dI) vwCl A (fun u : Int32 => [(o, .inr (4, [.int u, .int sta, .ref mt, .ref mn, .ref ml, .ref mc, .ref mh, .ref mk, .ref mp, .ref mm, .ref mb, .ref mw, .ref mr, .ref mx, .ref me, .ref mP, .ref mQ, .ref ms, .int hs, .int (nI (sz_)), .ref mo, .ref mW, .ref mD, .ref mB, .ref mR, .ref mS]))])) A) (cc := zc_N_small) (maxL := 6) (ret := none) (by decide) rfl (Nat.le_of_ble_eq_true rfl) ?_
  intro p e s m below meth c A ls F hA hdy hK hro hZ hN hl
  obtain ⟨hx, hb, hml, hr, hown, hlocks, hts, hnm⟩ := id F
  have hl : lv_has ls 6 [(0, .ref o), (1, .int (nI (w_))), (2, .long v)] := hl
  refine lv_iload_n hx hb zd_N_small_0 rfl (lv_at hl 1 rfl) ?_
  refine lv_if_lt (tgt := 10) hx hb zd_N_small_1 (by decide) (fun hc1 => ?_) (fun hc1 => ?_)
  · exact absurd hc1 (nI_pos (by omega))
  · refine lv_iload_n hx hb zd_N_small_4 rfl (lv_at hl 1 rfl) ?_
    refine lv_bipush (v := (nI (6))) hx hb zd_N_small_5 (by decide) ?_
    refine lv_icmp_le (tgt := 14) hx hb zd_N_small_7 (by decide) (fun hc7 => ?_) (fun hc7 => ?_)
    · have hc7 : w_ ≤ 6 := (nI_leI (by omega) (by omega)).mp hc7
      refine lv_iconst (v := (nI (0))) hx hb zd_N_small_14 (by decide) ?_
      refine lv_istore (lv' := [(4, .int (nI (0))), (0, .ref o), (1, .int (nI (w_))), (2, .long v)]) hx hb zd_N_small_15 hl (by decide) rfl (fun ls hl => ?_)
      refine lv_aload_n hx hb zd_N_small_17 rfl (lv_at hl 1 rfl) ?_
      refine lv_iload hx hb zd_N_small_18 (lv_at hl 0 rfl) ?_
      refine lv_lload_n hx hb zd_N_small_20 rfl (lv_at hl 3 rfl) ?_
      refine lv_lconst (v := 0) hx hb zd_N_small_21 (by decide) ?_
      refine lv_topl (fun yl1 h9 => ?_)
      obtain rfl : yl1 = kz_lz (0) := h9.trans (kz_lz_c0)
      refine kz_lge (tgt := 30) hx hb zd_N_small_22 zd_N_small_23 (by decide) (fun hc23 => ?_) (fun hc23 => ?_)
      · exact absurd hv_ hc23
      · refine lv_iconst (v := (nI (1))) hx hb zd_N_small_26 (by decide) ?_
        refine lv_goto (tgt := 31) hx hb zd_N_small_27 (by decide) ?_
        refine kz_calli (wk := []) (va_runV (As := [.int (nI (0)), .int (nI (1))]) (rest := []) ⟨hx, hb, hml, hown, hts⟩ (c_M_refused2 l dC dI cI cAA cB cL o mt mn ml mc mh mk mp mm mb mw mr mx me mP mQ ms mo mW mD mB mR mS (th) (sta) (hs) sz_ _) (cwV 2 hts (kz_g (kz_mc mw_674 (kz_mc mw_676 (kz_mc mw_20 (kz_mc mw_43 kz_mn)))) mw_677) rfl rfl rfl (by decide +kernel) ⟨Nat.le_of_ble_eq_true rfl, Nat.le_of_ble_eq_true rfl⟩) (kz_preV hdy hA hK hro hZ hN [0] (by decide) rfl [] rfl (by decide) [0, 1, 2, 3] rfl (fun _ h => by cases h) (fun _ h => by cases h) rfl (ci := 4) (q0 := 0) rfl rfl rfl) rfl rfl hl.1 rfl (lv_room (Nat.le_of_ble_eq_true rfl)) zd_N_small_31 ⟨Nat.le_of_ble_eq_true rfl, Nat.le_of_ble_eq_true rfl⟩) hdy hA [0] [] rfl rfl (by decide) (by decide) (fun r u H locs hw hdy => ?_)
        obtain ⟨x2, rfl⟩ : ∃ z, z = u := ⟨_, rfl⟩
        try dsimp only at hw
        obtain ⟨rfl, q3, -⟩ := hw
        have hdy : kz_dy (dC, dI) vwCl A s.heap H locs [(o, .inr (4, [.int x2, .int sta, .ref mt, .ref mn, .ref ml, .ref mc, .ref mh, .ref mk, .ref mp, .ref mm, .ref mb, .ref mw, .ref mr, .ref mx, .ref me, .ref mP, .ref mQ, .ref ms, .int hs, .int (nI (sz_)), .ref mo, .ref mW, .ref mD, .ref mB, .ref mR, .ref mS]))] := hdy.sub [0] (by decide) rfl
        refine lv_if_ne (tgt := 92) hx hb zd_N_small_34 (by decide) (fun hc34 => ?_) (fun hc34 => ?_)
        · exact kz_vret F (x2) hdy (⟨by first | assumption | rfl | omega, trivial⟩) zd_N_small_92
        · exact absurd hc34 (by decide)
    · have hc7 : ¬ w_ ≤ 6 := fun h9 => hc7 ((nI_leI (by omega) (by omega)).mpr h9)
      refine lv_iconst (v := (nI (1))) hx hb zd_N_small_10 (by decide) ?_
      refine lv_goto (tgt := 15) hx hb zd_N_small_11 (by decide) ?_
      refine lv_istore (lv' := [(4, .int (nI (1))), (0, .ref o), (1, .int (nI (w_))), (2, .long v)]) hx hb zd_N_small_15 hl (by decide) rfl (fun ls hl => ?_)
      refine lv_aload_n hx hb zd_N_small_17 rfl (lv_at hl 1 rfl) ?_
      refine lv_iload hx hb zd_N_small_18 (lv_at hl 0 rfl) ?_
      refine lv_lload_n hx hb zd_N_small_20 rfl (lv_at hl 3 rfl) ?_
      refine lv_lconst (v := 0) hx hb zd_N_small_21 (by decide) ?_
      refine lv_topl (fun yl4 h9 => ?_)
      obtain rfl : yl4 = kz_lz (0) := h9.trans (kz_lz_c0)
      refine kz_lge (tgt := 30) hx hb zd_N_small_22 zd_N_small_23 (by decide) (fun hc23 => ?_) (fun hc23 => ?_)
      · exact absurd hv_ hc23
      · refine lv_iconst (v := (nI (1))) hx hb zd_N_small_26 (by decide) ?_
        refine lv_goto (tgt := 31) hx hb zd_N_small_27 (by decide) ?_
        refine kz_calli (wk := []) (va_runV (As := [.int (nI (1)), .int (nI (1))]) (rest := []) ⟨hx, hb, hml, hown, hts⟩ (c_M_refused3 l dC dI cI cAA cB cL o mt mn ml mc mh mk mp mm mb mw mr mx me mP mQ ms mo mW mD mB mR mS (th) (sta) (hs) sz_ _) (cwV 2 hts (kz_g (kz_mc mw_674 (kz_mc mw_676 (kz_mc mw_20 (kz_mc mw_43 kz_mn)))) mw_677) rfl rfl rfl (by decide +kernel) ⟨Nat.le_of_ble_eq_true rfl, Nat.le_of_ble_eq_true rfl⟩) (kz_preV hdy hA hK hro hZ hN [0] (by decide) rfl [] rfl (by decide) [0, 1, 2, 3] rfl (fun _ h => by cases h) (fun _ h => by cases h) rfl (ci := 4) (q0 := 0) rfl rfl rfl) rfl rfl hl.1 rfl (lv_room (Nat.le_of_ble_eq_true rfl)) zd_N_small_31 ⟨Nat.le_of_ble_eq_true rfl, Nat.le_of_ble_eq_true rfl⟩) hdy hA [0] [] rfl rfl (by decide) (by decide) (fun r u H locs hw hdy => ?_)
        obtain ⟨x5, rfl⟩ : ∃ z, z = u := ⟨_, rfl⟩
        try dsimp only at hw
        obtain ⟨rfl, q6, -⟩ := hw
        have hdy : kz_dy (dC, dI) vwCl A s.heap H locs [(o, .inr (4, [.int x5, .int sta, .ref mt, .ref mn, .ref ml, .ref mc, .ref mh, .ref mk, .ref mp, .ref mm, .ref mb, .ref mw, .ref mr, .ref mx, .ref me, .ref mP, .ref mQ, .ref ms, .int hs, .int (nI (sz_)), .ref mo, .ref mW, .ref mD, .ref mB, .ref mR, .ref mS]))] := hdy.sub [0] (by decide) rfl
        refine lv_if_ne (tgt := 92) hx hb zd_N_small_34 (by decide) (fun hc34 => ?_) (fun hc34 => ?_)
        · exact kz_vret F (x5) hdy (⟨by first | assumption | rfl | omega, trivial⟩) zd_N_small_92
        · exact absurd hc34 (by decide)

set_option maxHeartbeats 4000000 in
set_option maxRecDepth 100000 in
/-- KeyMeetingModel.secret(I)I -/
theorem c_F_secret0 (l : Launch) (dC : Nat → ClassId) (dI : Nat → Nat → Nat) (cI cAA cB cL : ClassId) (o mt mn ml mc mh mk mp mm mb mw mr mx me mP mQ ms mo mW mD mB mR mS : Nat) (th : Int32) (sta : Int32) (hs : Int32) (sz_ : Nat) (gmP : Nat → Nat) (gmQ : Nat → Nat) (gms : Nat → Nat) (gmx : Nat → Nat) (gmt : Nat → Int32) (i_ : Nat) (sz : Nat) (hd_gmP : ∀ j, gmP j < 65536) (hd_gmQ : ∀ j, gmQ j < 65536) (hd_gms : ∀ j, gms j < 4294967296) (hd_gmx : ∀ j, gmx j < 65536) (hi_ : i_ < 8) : Met l zy_N_secret zw_N_secret { frames := 2, cells := 0, slots := 0, locals := 54 } (kz_Pc (dC, dI) vwCl [(cI, .int), (cAA, .array .int), (cB, .byte), (cL, .long)] [] [] [.ref o, .int (nI (i_))] [(o, .inr (4, [.int th, .int sta, .ref mt, .ref mn, .ref ml, .ref mc, .ref mh, .ref mk, .ref mp, .ref mm, .ref mb, .ref mw, .ref mr, .ref mx, .ref me, .ref mP, .ref mQ, .ref ms, .int hs, .int (nI (sz_)), .ref mo, .ref mW, .ref mD, .ref mB, .ref mR, .ref mS])), (mP, .inl (cI, 16, .inl (kz_dg gmP))), (mQ, .inl (cI, 16, .inl (kz_dg gmQ))), (ms, .inl (cI, 18, .inl (kz_dg gms))), (mx, .inl (cI, 32, .inl (kz_dg gmx)))] [(mt, .inl (cI, 56, .inl gmt))] sz) (va_Qi (fun (r : Int32) (u : Int32 × Int32 × (Nat → Nat) × (Nat → Nat) × (Nat → Nat) × (Nat → Nat)) => (∀ j, u.2.2.1 j < 65536) ∧ (∀ j, u.2.2.2.1 j < 65536) ∧ (∀ j, u.2.2.2.2.1 j < 4294967296) ∧ (∀ j, u.2.2.2.2.2 j < 65536) ∧ (u.1 = nI 0) ∧ (kx_sec (kv_val (kv_fig gmt 16) 8) (kv_val (kv_fig gmt 24) 8) i_ r) ∧ True) (kz_B (dC, dI) vwCl (va_A [(o, .inr (4, [.int th, .int sta, .ref mt, .ref mn, .ref ml, .ref mc, .ref mh, .ref mk, .ref mp, .ref mm, .ref mb, .ref mw, .ref mr, .ref mx, .ref me, .ref mP, .ref mQ, .ref ms, .int hs, .int (nI (sz_)), .ref mo, .ref mW, .ref mD, .ref mB, .ref mR, .ref mS])), (mP, .inl (cI, 16, .inl (kz_dg gmP))), (mQ, .inl (cI, 16, .inl (kz_dg gmQ))), (ms, .inl (cI, 18, .inl (kz_dg gms))), (mx, .inl (cI, 32, .inl (kz_dg gmx)))] sz) (fun u : Int32 × Int32 × (Nat → Nat) × (Nat → Nat) × (Nat → Nat) × (Nat → Nat) => [(o, .inr (4, [.int u.1, .int sta, .ref mt, .ref mn, .ref ml, .ref mc, .ref mh, .ref mk, .ref mp, .ref mm, .ref mb, .ref mw, .ref mr, .ref mx, .ref me, .ref mP, .ref mQ, .ref ms, .int u.2.1, .int (nI (sz_)), .ref mo, .ref mW, .ref mD, .ref mB, .ref mR, .ref mS])), (mP, .inl (cI, 16, .inl (kz_dg u.2.2.1))), (mQ, .inl (cI, 16, .inl (kz_dg u.2.2.2.1))), (ms, .inl (cI, 18, .inl (kz_dg u.2.2.2.2.1))), (mx, .inl (cI, 32, .inl (kz_dg u.2.2.2.2.2)))])) (va_A [(o, .inr (4, [.int th, .int sta, .ref mt, .ref mn, .ref ml, .ref mc, .ref mh, .ref mk, .ref mp, .ref mm, .ref mb, .ref mw, .ref mr, .ref mx, .ref me, .ref mP, .ref mQ, .ref ms, .int hs, .int (nI (sz_)), .ref mo, .ref mW, .ref mD, .ref mB, .ref mR, .ref mS])), (mP, .inl (cI, 16, .inl (kz_dg gmP))), (mQ, .inl (cI, 16, .inl (kz_dg gmQ))), (ms, .inl (cI, 18, .inl (kz_dg gms))), (mx, .inl (cI, 32, .inl (kz_dg gmx)))] sz)) 0 0 (va_A [(o, .inr (4, [.int th, .int sta, .ref mt, .ref mn, .ref ml, .ref mc, .ref mh, .ref mk, .ref mp, .ref mm, .ref mb, .ref mw, .ref mr, .ref mx, .ref me, .ref mP, .ref mQ, .ref ms, .int hs, .int (nI (sz_)), .ref mo, .ref mW, .ref mD, .ref mB, .ref mR, .ref mS])), (mP, .inl (cI, 16, .inl (kz_dg gmP))), (mQ, .inl (cI, 16, .inl (kz_dg gmQ))), (ms, .inl (cI, 18, .inl (kz_dg gms))), (mx, .inl (cI, 32, .inl (kz_dg gmx)))] sz) := by
  refine kz_met (y := zy_N_secret) (ws := zw_N_secret) (av := [.ref o, .int (nI (i_))]) (sz := sz) (Qc := fun A => va_Qi (fun (r : Int32) (u : Int32 × Int32 × (Nat → Nat) × (Nat → Nat) × (Nat → Nat) × (Nat → Nat)) => (∀ j, u.2.2.1 j < 65536) ∧ (∀ j, u.2.2.2.1 j < 65536) ∧ (∀ j, u.2.2.2.2.1 j < 4294967296) ∧ (∀ j, u.2.2.2.2.2 j < 65536) ∧ (u.1 = nI 0) ∧ (kx_sec (kv_val (kv_fig gmt 16) 8) (kv_val (kv_fig gmt 24) 8) i_ r) ∧ True) (kz_B (dC, dI) vwCl A (fun u : Int32 × Int32 × (Nat → Nat) × (Nat → Nat) × (Nat → Nat) × (Nat → Nat) => [(o, .inr (4, [.int u.1, .int sta, .ref mt, .ref mn, .ref ml, .ref mc, .ref mh, .ref mk, .ref mp, .ref mm, .ref mb, .ref mw, .ref mr, .ref mx, .ref me, .ref mP, .ref mQ, .ref ms, .int u.2.1, .int (nI (sz_)), .ref mo, .ref mW, .ref mD, .ref mB, .ref mR, .ref mS])), (mP, .inl (cI, 16, .inl (kz_dg u.2.2.1))), (mQ, .inl (cI, 16, .inl (kz_dg u.2.2.2.1))), (ms, .inl (cI, 18, .inl (kz_dg u.2.2.2.2.1))), (mx, .inl (cI, 32, .inl (kz_dg u.2.2.2.2.2)))])) A) (cc := zc_N_secret) (maxL := 2) (ret := some .int) (by decide) rfl (Nat.le_of_ble_eq_true rfl) ?_
  intro p e s m below meth c A ls F hA hdy hK hro hZ hN hl
  obtain ⟨hx, hb, hml, hr, hown, hlocks, hts, hnm⟩ := id F
  have hl : lv_has ls 2 [(0, .ref o), (1, .int (nI (i_)))] := hl
  refine lv_aload_n hx hb zd_N_secret_0 rfl (lv_at hl 0 rfl) ?_
  refine lv_iload_n hx hb zd_N_secret_1 rfl (lv_at hl 1 rfl) ?_
  refine lv_if_lt (tgt := 11) hx hb zd_N_secret_2 (by decide) (fun hc2 => ?_) (fun hc2 => ?_)
  · exact absurd hc2 (nI_pos (by omega))
  · refine lv_iload_n hx hb zd_N_secret_5 rfl (lv_at hl 1 rfl) ?_
    refine lv_bipush (v := (nI (7))) hx hb zd_N_secret_6 (by decide) ?_
    refine lv_icmp_le (tgt := 15) hx hb zd_N_secret_8 (by decide) (fun hc8 => ?_) (fun hc8 => ?_)
    · have hc8 : i_ ≤ 7 := (nI_leI (by omega) (by omega)).mp hc8
      refine lv_iconst (v := (nI (0))) hx hb zd_N_secret_15 (by decide) ?_
      refine lv_iconst (v := (nI (0))) hx hb zd_N_secret_16 (by decide) ?_
      refine kz_calli (wk := [(mP, .inl (cI, 16, .inl (kz_dg gmP))), (mQ, .inl (cI, 16, .inl (kz_dg gmQ))), (ms, .inl (cI, 18, .inl (kz_dg gms))), (mx, .inl (cI, 32, .inl (kz_dg gmx)))]) (va_runV (As := [.int (nI (0)), .int (nI (0))]) (rest := []) ⟨hx, hb, hml, hown, hts⟩ (c_M_refused0 l dC dI cI cAA cB cL o mt mn ml mc mh mk mp mm mb mw mr mx me mP mQ ms mo mW mD mB mR mS (th) (sta) (hs) sz_ _) (cwV 2 hts (kz_g (kz_mc mw_674 (kz_mc mw_676 (kz_mc mw_20 (kz_mc mw_43 kz_mn)))) mw_677) rfl rfl rfl (by decide +kernel) ⟨Nat.le_of_ble_eq_true rfl, Nat.le_of_ble_eq_true rfl⟩) (kz_preV hdy hA hK hro hZ hN [0] (by decide) rfl [] rfl (by decide) [0, 1, 2, 3] rfl (fun _ h => by cases h) (fun _ h => by cases h) rfl (ci := 4) (q0 := 0) rfl rfl rfl) rfl rfl hl.1 rfl (lv_room (Nat.le_of_ble_eq_true rfl)) zd_N_secret_17 ⟨Nat.le_of_ble_eq_true rfl, Nat.le_of_ble_eq_true rfl⟩) hdy hA [0] [1, 2, 3, 4] rfl rfl (by decide) (by decide) (fun r u H locs hw hdy => ?_)
      obtain ⟨x1, rfl⟩ : ∃ z, z = u := ⟨_, rfl⟩
      try dsimp only at hw
      obtain ⟨rfl, q2, -⟩ := hw
      have hdy : kz_dy (dC, dI) vwCl A s.heap H locs [(o, .inr (4, [.int x1, .int sta, .ref mt, .ref mn, .ref ml, .ref mc, .ref mh, .ref mk, .ref mp, .ref mm, .ref mb, .ref mw, .ref mr, .ref mx, .ref me, .ref mP, .ref mQ, .ref ms, .int hs, .int (nI (sz_)), .ref mo, .ref mW, .ref mD, .ref mB, .ref mR, .ref mS])), (mP, .inl (cI, 16, .inl (kz_dg gmP))), (mQ, .inl (cI, 16, .inl (kz_dg gmQ))), (ms, .inl (cI, 18, .inl (kz_dg gms))), (mx, .inl (cI, 32, .inl (kz_dg gmx)))] := hdy.sub [4, 0, 1, 2, 3] (by decide) rfl
      refine lv_if_eq (tgt := 25) hx hb zd_N_secret_20 (by decide) (fun hc20 => ?_) (fun hc20 => ?_)
      · refine lv_aload_n hx hb zd_N_secret_25 rfl (lv_at hl 0 rfl) ?_
        refine kz_callv (wk := []) (va_runV (As := []) (rest := []) ⟨hx, hb, hml, hown, hts⟩ (c_F_find l dC dI cI cAA cB cL o mt mn ml mc mh mk mp mm mb mw mr mx me mP mQ ms mo mW mD mB mR mS (x1) (sta) (hs) sz_ gmP gmQ gms gmx gmt _ hd_gmP hd_gmQ hd_gms hd_gmx) (cwV 0 hts (kz_g (kz_mc mw_694 (kz_mc mw_696 (kz_mc mw_22 (kz_mc mw_43 kz_mn)))) mw_697) rfl rfl rfl (by decide +kernel) ⟨Nat.le_of_ble_eq_true rfl, Nat.le_of_ble_eq_true rfl⟩) (kz_preV hdy hA hK hro hZ hN [0, 1, 2, 3, 4] (by decide) rfl [(true, 0)] rfl (by decide) [0, 1, 2, 3] rfl (fun _ h => by cases h) (fun _ h => by cases h) rfl (ci := 4) (q0 := 0) rfl rfl rfl) rfl rfl hl.1 rfl (lv_room (Nat.le_of_ble_eq_true rfl)) zd_N_secret_26 ⟨Nat.le_of_ble_eq_true rfl, Nat.le_of_ble_eq_true rfl⟩) hdy hA [0, 1, 2, 3, 4] [] rfl rfl (by decide) (by decide) (fun u H locs hw hdy => ?_)
        obtain ⟨x3, d4, d5, d6, d7⟩ := u
        try dsimp only at hw
        obtain ⟨hd_d4, hd_d5, hd_d6, hd_d7, q8, q9, -⟩ := hw
        have hdy : kz_dy (dC, dI) vwCl A s.heap H locs [(o, .inr (4, [.int x1, .int sta, .ref mt, .ref mn, .ref ml, .ref mc, .ref mh, .ref mk, .ref mp, .ref mm, .ref mb, .ref mw, .ref mr, .ref mx, .ref me, .ref mP, .ref mQ, .ref ms, .int x3, .int (nI (sz_)), .ref mo, .ref mW, .ref mD, .ref mB, .ref mR, .ref mS])), (mP, .inl (cI, 16, .inl (kz_dg d4))), (mQ, .inl (cI, 16, .inl (kz_dg d5))), (ms, .inl (cI, 18, .inl (kz_dg d6))), (mx, .inl (cI, 32, .inl (kz_dg d7)))] := hdy.sub [0, 1, 2, 3, 4] (by decide) rfl
        refine lv_aload_n hx hb zd_N_secret_29 rfl (lv_at hl 0 rfl) ?_
        refine va_get (D := (dC, dI)) (ci := 4) (v := .int x3) (C := zR_N) (T := zT_N) (N := 26) hx hb hts (fun w h => kz_c (zi_N w h)) hown hK hdy.1 0 rfl rfl 18 (by decide) (hts _ (kz_c mw_609)) (fun _ h9 => h9) rfl zd_N_secret_30 ?_
        refine lv_if_eq (tgt := 65) hx hb zd_N_secret_33 (by decide) (fun hc33 => ?_) (fun hc33 => ?_)
        · refine lv_iconst (v := (nI (0))) hx hb zd_N_secret_65 (by decide) ?_
          exact kz_iret F (x1, x3, d4, d5, d6, d7) hdy (⟨hd_d4, hd_d5, hd_d6, hd_d7, by first | assumption | rfl | omega, by exact kx_sec0 q8 hc33, trivial⟩) zd_N_secret_66
        · have hfl := q9 (q8.resolve_left (fun h => hc33 h.1)).1
          have hb14 := hfl (14 - 2 * i_) (by omega)
          have hb15 := hfl (15 - 2 * i_) (by omega)
          refine lv_aload_n hx hb zd_N_secret_36 rfl (lv_at hl 0 rfl) ?_
          refine va_get (D := (dC, dI)) (ci := 4) (v := .ref ms) (C := zR_N) (T := zT_N) (N := 26) hx hb hts (fun w h => kz_c (zi_N w h)) hown hK hdy.1 0 rfl rfl 17 (by decide) (hts _ (kz_c mw_608)) (fun _ h9 => h9) rfl zd_N_secret_37 ?_
          refine lv_bipush (v := (nI (15))) hx hb zd_N_secret_40 (by decide) ?_
          refine lv_iconst (v := (nI (2))) hx hb zd_N_secret_42 (by decide) ?_
          refine lv_iload_n hx hb zd_N_secret_43 rfl (lv_at hl 1 rfl) ?_
          refine kz_imul hx hb zd_N_secret_44 (pk_mul _ _) ?_
          refine kz_isub hx hb zd_N_secret_45 (pk_sub (by omega)) ?_
          refine va_iald hx hb hK hdy.1 3 0 rfl rfl (vp_in_nI (by omega) (by omega)) zd_N_secret_46 ?_
          refine lv_topi (fun x10 h9 => ?_)
          obtain rfl : x10 = nI (d6 (15 - (2 * i_))) := h9.trans (kz_dgl d6 (by omega))
          have hbx10 := hd_d6 (15 - (2 * i_))
          refine lv_bipush (v := (nI (16))) hx hb zd_N_secret_47 (by decide) ?_
          refine lv_ishl hx hb zd_N_secret_49 ?_
          refine lv_topi (fun x11 h9 => ?_)
          obtain rfl : x11 = nI ((d6 (15 - (2 * i_))) * 65536) := h9.trans (kz_shl16 _)
          refine lv_aload_n hx hb zd_N_secret_50 rfl (lv_at hl 0 rfl) ?_
          refine va_get (D := (dC, dI)) (ci := 4) (v := .ref ms) (C := zR_N) (T := zT_N) (N := 26) hx hb hts (fun w h => kz_c (zi_N w h)) hown hK hdy.1 0 rfl rfl 17 (by decide) (hts _ (kz_c mw_608)) (fun _ h9 => h9) rfl zd_N_secret_51 ?_
          refine lv_bipush (v := (nI (14))) hx hb zd_N_secret_54 (by decide) ?_
          refine lv_iconst (v := (nI (2))) hx hb zd_N_secret_56 (by decide) ?_
          refine lv_iload_n hx hb zd_N_secret_57 rfl (lv_at hl 1 rfl) ?_
          refine kz_imul hx hb zd_N_secret_58 (pk_mul _ _) ?_
          refine kz_isub hx hb zd_N_secret_59 (pk_sub (by omega)) ?_
          refine va_iald hx hb hK hdy.1 3 0 rfl rfl (vp_in_nI (by omega) (by omega)) zd_N_secret_60 ?_
          refine lv_topi (fun x12 h9 => ?_)
          obtain rfl : x12 = nI (d6 (14 - (2 * i_))) := h9.trans (kz_dgl d6 (by omega))
          have hbx12 := hd_d6 (14 - (2 * i_))
          refine lv_ior hx hb zd_N_secret_61 ?_
          refine lv_topi (fun x13 h9 => ?_)
          obtain rfl : x13 = nI ((d6 (15 - (2 * i_))) * 65536 + (d6 (14 - (2 * i_)))) := h9.trans (kz_or16 (by omega))
          refine lv_goto (tgt := 66) hx hb zd_N_secret_62 (by decide) ?_
          exact kz_iret F (x1, x3, d4, d5, d6, d7) hdy (⟨hd_d4, hd_d5, hd_d6, hd_d7, by first | assumption | rfl | omega, by exact kv_sec1 q8 hc33 hi_ hfl, trivial⟩) zd_N_secret_66
      · exact absurd (by decide) hc20
    · have hc8 : ¬ i_ ≤ 7 := fun h9 => hc8 ((nI_leI (by omega) (by omega)).mpr h9)
      refine lv_iconst (v := (nI (1))) hx hb zd_N_secret_11 (by decide) ?_
      refine lv_goto (tgt := 16) hx hb zd_N_secret_12 (by decide) ?_
      refine lv_iconst (v := (nI (0))) hx hb zd_N_secret_16 (by decide) ?_
      refine kz_calli (wk := [(mP, .inl (cI, 16, .inl (kz_dg gmP))), (mQ, .inl (cI, 16, .inl (kz_dg gmQ))), (ms, .inl (cI, 18, .inl (kz_dg gms))), (mx, .inl (cI, 32, .inl (kz_dg gmx)))]) (va_runV (As := [.int (nI (1)), .int (nI (0))]) (rest := []) ⟨hx, hb, hml, hown, hts⟩ (c_M_refused1 l dC dI cI cAA cB cL o mt mn ml mc mh mk mp mm mb mw mr mx me mP mQ ms mo mW mD mB mR mS (th) (sta) (hs) sz_ _) (cwV 2 hts (kz_g (kz_mc mw_674 (kz_mc mw_676 (kz_mc mw_20 (kz_mc mw_43 kz_mn)))) mw_677) rfl rfl rfl (by decide +kernel) ⟨Nat.le_of_ble_eq_true rfl, Nat.le_of_ble_eq_true rfl⟩) (kz_preV hdy hA hK hro hZ hN [0] (by decide) rfl [] rfl (by decide) [0, 1, 2, 3] rfl (fun _ h => by cases h) (fun _ h => by cases h) rfl (ci := 4) (q0 := 0) rfl rfl rfl) rfl rfl hl.1 rfl (lv_room (Nat.le_of_ble_eq_true rfl)) zd_N_secret_17 ⟨Nat.le_of_ble_eq_true rfl, Nat.le_of_ble_eq_true rfl⟩) hdy hA [0] [1, 2, 3, 4] rfl rfl (by decide) (by decide) (fun r u H locs hw hdy => ?_)
      obtain ⟨x14, rfl⟩ : ∃ z, z = u := ⟨_, rfl⟩
      try dsimp only at hw
      obtain ⟨rfl, q15, -⟩ := hw
      have hdy : kz_dy (dC, dI) vwCl A s.heap H locs [(o, .inr (4, [.int x14, .int sta, .ref mt, .ref mn, .ref ml, .ref mc, .ref mh, .ref mk, .ref mp, .ref mm, .ref mb, .ref mw, .ref mr, .ref mx, .ref me, .ref mP, .ref mQ, .ref ms, .int hs, .int (nI (sz_)), .ref mo, .ref mW, .ref mD, .ref mB, .ref mR, .ref mS])), (mP, .inl (cI, 16, .inl (kz_dg gmP))), (mQ, .inl (cI, 16, .inl (kz_dg gmQ))), (ms, .inl (cI, 18, .inl (kz_dg gms))), (mx, .inl (cI, 32, .inl (kz_dg gmx)))] := hdy.sub [4, 0, 1, 2, 3] (by decide) rfl
      refine lv_if_eq (tgt := 25) hx hb zd_N_secret_20 (by decide) (fun hc20 => ?_) (fun hc20 => ?_)
      · exact absurd hc20 (by decide)
      · refine lv_iconst (v := (nI (0))) hx hb zd_N_secret_23 (by decide) ?_
        exact kz_iret F (x14, hs, gmP, gmQ, gms, gmx) hdy (⟨hd_gmP, hd_gmQ, hd_gms, hd_gmx, by first | assumption | rfl | omega, by exfalso; omega, trivial⟩) zd_N_secret_24

