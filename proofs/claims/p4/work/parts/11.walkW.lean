set_option maxHeartbeats 4000000 in
set_option maxRecDepth 100000 in
/-- KeyMeeting$Words.compare([I[I)I -/
theorem c_Words_compare (l : Launch) (dC : Nat → ClassId) (dI : Nat → Nat → Nat) (cI cAA cB cL : ClassId) (a b : Nat) (ga : Nat → Int32) (gb : Nat → Int32) (sz : Nat) : Met l zy_W_compare zw_W_compare { frames := 0, cells := 0, slots := 0, locals := 0 } (kz_Pc (dC, dI) vwCl [(cI, .int), (cAA, .array .int), (cB, .byte), (cL, .long)] [] [] [.ref a, .ref b] [] [(a, .inl (cI, 8, .inl ga)), (b, .inl (cI, 8, .inl gb))] sz) (va_Qi (fun _ _ => True) (kz_B (dC, dI) vwCl (va_A [] sz) (fun u : Unit => [])) (va_A [] sz)) 0 0 (va_A [] sz) := by
  refine kz_met (y := zy_W_compare) (ws := zw_W_compare) (av := [.ref a, .ref b]) (sz := sz) (Qc := fun A => va_Qi (fun _ _ => True) (kz_B (dC, dI) vwCl A (fun u : Unit => [])) A) (cc := zc_W_compare) (maxL := 3) (ret := some .int) (by decide) rfl (Nat.le_of_ble_eq_true rfl) ?_
  intro p e s m below meth c A ls F hA hdy hK hro hZ hN hl
  obtain ⟨hx, hb, hml, hr, hown, hlocks, hts, hnm⟩ := id F
  have hl : lv_has ls 3 [(0, .ref a), (1, .ref b)] := hl
  refine lv_iconst (v := (nI (0))) hx hb zd_W_compare_0 (by decide) ?_
  refine lv_istore_n (lv' := [(2, .int (nI (0))), (0, .ref a), (1, .ref b)]) hx hb zd_W_compare_1 rfl hl (by decide) rfl (fun ls hl => ?_)
  have lp2 : ∀ (n2 k2 : Nat) (H : Heap) (locs : List Loc) (ls : Array Slot), k2 ≤ 8 → 8 - k2 < n2 → kz_dy (dC, dI) vwCl A s.heap H locs [] → lv_has ls 3 [(2, .int (nI (k2))), (0, .ref a), (1, .ref b)] → W p l e { frames := 0, cells := 0, slots := 0, locals := 0 } s m ([.ref a, .ref b] : List Value).toArray below meth c H locs 0 0 (MQ below (va_Qi (fun _ _ => True) (kz_B (dC, dI) vwCl A (fun u : Unit => [])) A) ([.ref a, .ref b] : List Value).toArray s 0 0 A) (F0 m 2 ls []) := by
    intro n2
    induction n2 with
    | zero => intro k2; intros; omega
    | succ n2 ih2 =>
      intro k2 H locs ls hi2 hn2 hdy hl
      refine lv_iload_n hx hb zd_W_compare_2 rfl (lv_at hl 0 rfl) ?_
      refine lv_bipush (v := (nI (8))) hx hb zd_W_compare_3 (by decide) ?_
      refine lv_icmp_ge (tgt := 49) hx hb zd_W_compare_5 (by decide) (fun hc5 => ?_) (fun hc5 => ?_)
      · have hc5 : 8 ≤ k2 := (nI_leI (by omega) (by omega)).mp hc5
        refine lv_iconst (v := (nI (0))) hx hb zd_W_compare_49 (by decide) ?_
        exact kz_iret F () hdy (trivial) zd_W_compare_50
      · have hc5 : ¬ 8 ≤ k2 := fun h9 => hc5 ((nI_leI (by omega) (by omega)).mpr h9)
        refine lv_aload_n hx hb zd_W_compare_8 rfl (lv_at hl 1 rfl) ?_
        refine lv_iload_n hx hb zd_W_compare_9 rfl (lv_at hl 0 rfl) ?_
        refine kz_riald hx hb hK hro hdy.2.2 0 0 rfl rfl (vp_in_nI (by omega) (by omega)) zd_W_compare_10 ?_
        refine lv_topi (fun x1 _ => ?_)
        refine lv_aload_n hx hb zd_W_compare_11 rfl (lv_at hl 2 rfl) ?_
        refine lv_iload_n hx hb zd_W_compare_12 rfl (lv_at hl 0 rfl) ?_
        refine kz_riald hx hb hK hro hdy.2.2 1 0 rfl rfl (vp_in_nI (by omega) (by omega)) zd_W_compare_13 ?_
        refine lv_topi (fun x2 _ => ?_)
        refine lv_icmp_eq (tgt := 43) hx hb zd_W_compare_14 (by decide) (fun hc14 => ?_) (fun hc14 => ?_)
        · refine lv_iinc (v := (nI (k2 + 1))) (lv' := [(2, .int (nI (k2 + 1))), (0, .ref a), (1, .ref b)]) hx hb zd_W_compare_43 hl (k := 0) rfl (nI_1 _) (by decide) rfl (fun ls hl => ?_)
          refine lv_goto (tgt := 2) hx hb zd_W_compare_46 (by decide) ?_
          exact ih2 (k2 + 1) _ _ _ (by omega) (by omega) hdy (lv_sub hl [0, 1, 2] rfl)
        · refine lv_aload_n hx hb zd_W_compare_17 rfl (lv_at hl 1 rfl) ?_
          refine lv_iload_n hx hb zd_W_compare_18 rfl (lv_at hl 0 rfl) ?_
          refine kz_riald hx hb hK hro hdy.2.2 0 0 rfl rfl (vp_in_nI (by omega) (by omega)) zd_W_compare_19 ?_
          refine lv_topi (fun x3 _ => ?_)
          refine lv_i2l hx hb zd_W_compare_20 rfl ?_
          refine lv_topl (fun yl4 _ => ?_)
          refine lv_ldc2 (v := (4294967295)) hx hb hown (hts _ (kz_c mw_180)) zd_W_compare_21 ?_
          refine kz_mask hx hb zd_W_compare_24 (fun yl5 hyl5 => ?_)
          refine lv_aload_n hx hb zd_W_compare_25 rfl (lv_at hl 2 rfl) ?_
          refine lv_iload_n hx hb zd_W_compare_26 rfl (lv_at hl 0 rfl) ?_
          refine kz_riald hx hb hK hro hdy.2.2 1 0 rfl rfl (vp_in_nI (by omega) (by omega)) zd_W_compare_27 ?_
          refine lv_topi (fun x6 _ => ?_)
          refine lv_i2l hx hb zd_W_compare_28 rfl ?_
          refine lv_topl (fun yl7 _ => ?_)
          refine lv_ldc2 (v := (4294967295)) hx hb hown (hts _ (kz_c mw_180)) zd_W_compare_29 ?_
          refine kz_mask hx hb zd_W_compare_32 (fun yl8 hyl8 => ?_)
          refine kz_lge (tgt := 41) hx hb zd_W_compare_33 zd_W_compare_34 (by decide) (fun hc34 => ?_) (fun hc34 => ?_)
          · refine lv_iconst (v := (nI (1))) hx hb zd_W_compare_41 (by decide) ?_
            exact kz_iret F () hdy (trivial) zd_W_compare_42
          · refine lv_iconst (v := (-1)) hx hb zd_W_compare_37 (by decide) ?_
            refine lv_goto (tgt := 42) hx hb zd_W_compare_38 (by decide) ?_
            exact kz_iret F () hdy (trivial) zd_W_compare_42
  exact lp2 (8 - 0 + 1) 0 _ _ _ (by omega) (by omega) hdy (lv_sub hl [0, 1, 2] rfl)

set_option maxHeartbeats 4000000 in
set_option maxRecDepth 100000 in
/-- KeyMeeting$Words.atLeast([II)Z -/
theorem c_Words_atLeast (l : Launch) (dC : Nat → ClassId) (dI : Nat → Nat → Nat) (cI cAA cB cL : ClassId) (a : Nat) (ga : Nat → Int32) (v : Int32) (sz : Nat) : Met l zy_W_atLeast zw_W_atLeast { frames := 0, cells := 0, slots := 0, locals := 0 } (kz_Pc (dC, dI) vwCl [(cI, .int), (cAA, .array .int), (cB, .byte), (cL, .long)] [] [] [.ref a, .int v] [] [(a, .inl (cI, 8, .inl ga))] sz) (va_Qi (fun (r : Int32) (u : Unit) => (r = 0 ∨ r = 1) ∧ True) (kz_B (dC, dI) vwCl (va_A [] sz) (fun u : Unit => [])) (va_A [] sz)) 0 0 (va_A [] sz) := by
  refine kz_met (y := zy_W_atLeast) (ws := zw_W_atLeast) (av := [.ref a, .int v]) (sz := sz) (Qc := fun A => va_Qi (fun (r : Int32) (u : Unit) => (r = 0 ∨ r = 1) ∧ True) (kz_B (dC, dI) vwCl A (fun u : Unit => [])) A) (cc := zc_W_atLeast) (maxL := 3) (ret := some .boolean) (by decide) rfl (Nat.le_of_ble_eq_true rfl) ?_
  intro p e s m below meth c A ls F hA hdy hK hro hZ hN hl
  obtain ⟨hx, hb, hml, hr, hown, hlocks, hts, hnm⟩ := id F
  have hl : lv_has ls 3 [(0, .ref a), (1, .int v)] := hl
  refine lv_iconst (v := (nI (0))) hx hb zd_W_atLeast_0 (by decide) ?_
  refine lv_istore_n (lv' := [(2, .int (nI (0))), (0, .ref a), (1, .int v)]) hx hb zd_W_atLeast_1 rfl hl (by decide) rfl (fun ls hl => ?_)
  have lp2 : ∀ (n2 k2 : Nat) (H : Heap) (locs : List Loc) (ls : Array Slot), k2 ≤ 7 → 7 - k2 < n2 → kz_dy (dC, dI) vwCl A s.heap H locs [] → lv_has ls 3 [(2, .int (nI (k2))), (0, .ref a), (1, .int v)] → W p l e { frames := 0, cells := 0, slots := 0, locals := 0 } s m ([.ref a, .int v] : List Value).toArray below meth c H locs 0 0 (MQ below (va_Qi (fun (r : Int32) (u : Unit) => (r = 0 ∨ r = 1) ∧ True) (kz_B (dC, dI) vwCl A (fun u : Unit => [])) A) ([.ref a, .int v] : List Value).toArray s 0 0 A) (F0 m 2 ls []) := by
    intro n2
    induction n2 with
    | zero => intro k2; intros; omega
    | succ n2 ih2 =>
      intro k2 H locs ls hi2 hn2 hdy hl
      refine lv_iload_n hx hb zd_W_atLeast_2 rfl (lv_at hl 0 rfl) ?_
      refine lv_bipush (v := (nI (7))) hx hb zd_W_atLeast_3 (by decide) ?_
      refine lv_icmp_ge (tgt := 22) hx hb zd_W_atLeast_5 (by decide) (fun hc5 => ?_) (fun hc5 => ?_)
      · have hc5 : 7 ≤ k2 := (nI_leI (by omega) (by omega)).mp hc5
        refine lv_aload_n hx hb zd_W_atLeast_22 rfl (lv_at hl 1 rfl) ?_
        refine lv_bipush (v := (nI (7))) hx hb zd_W_atLeast_23 (by decide) ?_
        refine kz_riald hx hb hK hro hdy.2.2 0 0 rfl rfl (vp_in_nI (by omega) (by omega)) zd_W_atLeast_25 ?_
        refine lv_topi (fun x1 _ => ?_)
        refine lv_i2l hx hb zd_W_atLeast_26 rfl ?_
        refine lv_topl (fun yl2 _ => ?_)
        refine lv_ldc2 (v := (4294967295)) hx hb hown (hts _ (kz_c mw_180)) zd_W_atLeast_27 ?_
        refine kz_mask hx hb zd_W_atLeast_30 (fun yl3 hyl3 => ?_)
        refine lv_iload_n hx hb zd_W_atLeast_31 rfl (lv_at hl 2 rfl) ?_
        refine lv_i2l hx hb zd_W_atLeast_32 rfl ?_
        refine lv_topl (fun yl4 _ => ?_)
        refine kz_llt (tgt := 41) hx hb zd_W_atLeast_33 zd_W_atLeast_34 (by decide) (fun hc34 => ?_) (fun hc34 => ?_)
        · refine lv_iconst (v := (nI (0))) hx hb zd_W_atLeast_41 (by decide) ?_
          exact kz_zret F () hdy (by first | exact Or.inl rfl | exact Or.inr rfl | assumption) (⟨by first | exact Or.inl rfl | exact Or.inr rfl | assumption, trivial⟩) zd_W_atLeast_42
        · refine lv_iconst (v := (nI (1))) hx hb zd_W_atLeast_37 (by decide) ?_
          refine lv_goto (tgt := 42) hx hb zd_W_atLeast_38 (by decide) ?_
          exact kz_zret F () hdy (by first | exact Or.inl rfl | exact Or.inr rfl | assumption) (⟨by first | exact Or.inl rfl | exact Or.inr rfl | assumption, trivial⟩) zd_W_atLeast_42
      · have hc5 : ¬ 7 ≤ k2 := fun h9 => hc5 ((nI_leI (by omega) (by omega)).mpr h9)
        refine lv_aload_n hx hb zd_W_atLeast_8 rfl (lv_at hl 1 rfl) ?_
        refine lv_iload_n hx hb zd_W_atLeast_9 rfl (lv_at hl 0 rfl) ?_
        refine kz_riald hx hb hK hro hdy.2.2 0 0 rfl rfl (vp_in_nI (by omega) (by omega)) zd_W_atLeast_10 ?_
        refine lv_topi (fun x5 _ => ?_)
        refine lv_if_eq (tgt := 16) hx hb zd_W_atLeast_11 (by decide) (fun hc11 => ?_) (fun hc11 => ?_)
        · refine lv_iinc (v := (nI (k2 + 1))) (lv' := [(2, .int (nI (k2 + 1))), (0, .ref a), (1, .int v)]) hx hb zd_W_atLeast_16 hl (k := 0) rfl (nI_1 _) (by decide) rfl (fun ls hl => ?_)
          refine lv_goto (tgt := 2) hx hb zd_W_atLeast_19 (by decide) ?_
          exact ih2 (k2 + 1) _ _ _ (by omega) (by omega) hdy (lv_sub hl [0, 1, 2] rfl)
        · refine lv_iconst (v := (nI (1))) hx hb zd_W_atLeast_14 (by decide) ?_
          exact kz_zret F () hdy (by first | exact Or.inl rfl | exact Or.inr rfl | assumption) (⟨by first | exact Or.inl rfl | exact Or.inr rfl | assumption, trivial⟩) zd_W_atLeast_15
  exact lp2 (7 - 0 + 1) 0 _ _ _ (by omega) (by omega) hdy (lv_sub hl [0, 1, 2] rfl)

set_option maxHeartbeats 4000000 in
set_option maxRecDepth 100000 in
/-- KeyMeeting$Words.subtract([II[I)V -/
theorem c_Words_subtract (l : Launch) (dC : Nat → ClassId) (dI : Nat → Nat → Nat) (cI cAA cB cL : ClassId) (o a : Nat) (go : Nat → Int32) (ga : Nat → Int32) (v : Int32) (sz : Nat) : Met l zy_W_subtract zw_W_subtract { frames := 0, cells := 0, slots := 0, locals := 0 } (kz_Pc (dC, dI) vwCl [(cI, .int), (cAA, .array .int), (cB, .byte), (cL, .long)] [] [] [.ref a, .int v, .ref o] [(o, .inl (cI, 8, .inl go))] [(a, .inl (cI, 8, .inl ga))] sz) (va_Qv (fun _ => True) (kz_B (dC, dI) vwCl (va_A [(o, .inl (cI, 8, .inl go))] sz) (fun u : (Nat → Int32) => [(o, .inl (cI, 8, .inl u))])) (va_A [(o, .inl (cI, 8, .inl go))] sz)) 0 0 (va_A [(o, .inl (cI, 8, .inl go))] sz) := by
  refine kz_met (y := zy_W_subtract) (ws := zw_W_subtract) (av := [.ref a, .int v, .ref o]) (sz := sz) (Qc := fun A => va_Qv (fun _ => True) (kz_B (dC, dI) vwCl A (fun u : (Nat → Int32) => [(o, .inl (cI, 8, .inl u))])) A) (cc := zc_W_subtract) (maxL := 8) (ret := none) (by decide) rfl (Nat.le_of_ble_eq_true rfl) ?_
  intro p e s m below meth c A ls F hA hdy hK hro hZ hN hl
  obtain ⟨hx, hb, hml, hr, hown, hlocks, hts, hnm⟩ := id F
  have hl : lv_has ls 8 [(0, .ref a), (1, .int v), (2, .ref o)] := hl
  refine lv_iload_n hx hb zd_W_subtract_0 rfl (lv_at hl 1 rfl) ?_
  refine lv_i2l hx hb zd_W_subtract_1 rfl ?_
  refine lv_topl (fun yl1 _ => ?_)
  refine lv_lstore_n (lv' := [(3, .long yl1), (0, .ref a), (1, .int v), (2, .ref o)]) hx hb zd_W_subtract_2 rfl hl (by decide) rfl (fun ls hl => ?_)
  refine lv_bipush (v := (nI (7))) hx hb zd_W_subtract_3 (by decide) ?_
  refine lv_istore (lv' := [(5, .int (nI (7))), (3, .long yl1), (0, .ref a), (1, .int v), (2, .ref o)]) hx hb zd_W_subtract_5 hl (by decide) rfl (fun ls hl => ?_)
  have lp7 : ∀ (k7 : Nat) (yl2 : Int64) (f3 : Nat → Int32) (H : Heap) (locs : List Loc) (ls : Array Slot), k7 ≤ 8 → kz_dy (dC, dI) vwCl A s.heap H locs [(o, .inl (cI, 8, .inl f3))] → lv_has ls 8 [(5, .int (nI k7 - 1)), (3, .long yl2), (0, .ref a), (1, .int v), (2, .ref o)] → W p l e { frames := 0, cells := 0, slots := 0, locals := 0 } s m ([.ref a, .int v, .ref o] : List Value).toArray below meth c H locs 0 0 (MQ below (va_Qv (fun _ => True) (kz_B (dC, dI) vwCl A (fun u : (Nat → Int32) => [(o, .inl (cI, 8, .inl u))])) A) ([.ref a, .int v, .ref o] : List Value).toArray s 0 0 A) (F0 m 7 ls []) := by
    intro k7
    induction k7 with
    | zero =>
      intro yl2 f3 H locs ls hi7 hdy hl
      refine lv_iload hx hb zd_W_subtract_7 (lv_at hl 0 rfl) ?_
      refine lv_if_lt (tgt := 51) hx hb zd_W_subtract_9 (by decide) (fun hc9 => ?_) (fun hc9 => ?_)
      · exact kz_vret F (f3) hdy (trivial) zd_W_subtract_51
      · exact absurd (by decide) hc9
    | succ k7 ih7 =>
      intro yl2 f3 H locs ls hi7 hdy hl
      rw [nI_pred] at hl
      refine lv_iload hx hb zd_W_subtract_7 (lv_at hl 0 rfl) ?_
      refine lv_if_lt (tgt := 51) hx hb zd_W_subtract_9 (by decide) (fun hc9 => ?_) (fun hc9 => ?_)
      · exact absurd hc9 (nI_pos (by omega))
      · refine lv_aload_n hx hb zd_W_subtract_12 rfl (lv_at hl 2 rfl) ?_
        refine lv_iload hx hb zd_W_subtract_13 (lv_at hl 0 rfl) ?_
        refine kz_riald hx hb hK hro hdy.2.2 0 0 rfl rfl (vp_in_nI (by omega) (by omega)) zd_W_subtract_15 ?_
        refine lv_topi (fun x4 _ => ?_)
        refine lv_i2l hx hb zd_W_subtract_16 rfl ?_
        refine lv_topl (fun yl5 _ => ?_)
        refine lv_ldc2 (v := (4294967295)) hx hb hown (hts _ (kz_c mw_180)) zd_W_subtract_17 ?_
        refine kz_mask hx hb zd_W_subtract_20 (fun yl6 hyl6 => ?_)
        refine lv_lload_n hx hb zd_W_subtract_21 rfl (lv_at hl 1 rfl) ?_
        refine lv_lsub hx hb zd_W_subtract_22 ?_
        refine lv_topl (fun yl7 _ => ?_)
        refine lv_lstore (lv' := [(6, .long yl7), (5, .int (nI (k7))), (3, .long yl2), (0, .ref a), (1, .int v), (2, .ref o)]) hx hb zd_W_subtract_23 hl (by decide) rfl (fun ls hl => ?_)
        refine lv_aload_n hx hb zd_W_subtract_25 rfl (lv_at hl 5 rfl) ?_
        refine lv_iload hx hb zd_W_subtract_26 (lv_at hl 1 rfl) ?_
        refine lv_lload hx hb zd_W_subtract_28 (lv_at hl 0 rfl) ?_
        refine lv_l2i hx hb zd_W_subtract_30 rfl ?_
        refine lv_topi (fun x8 _ => ?_)
        refine va_iast hx hb hK hdy.1 hdy.2.1 hdy.2.2 0 0 rfl rfl (vp_in_nI (by omega) (by omega)) zd_W_subtract_31 (fun H locs hP hD hS => ?_)
        obtain ⟨f9, hdy⟩ : ∃ f9 : Nat → Int32, kz_dy (dC, dI) vwCl A s.heap H locs [(o, .inl (cI, 8, .inl f9))] := ⟨_, hP, hD, hS⟩
        refine lv_lload hx hb zd_W_subtract_32 (lv_at hl 0 rfl) ?_
        refine lv_lconst (v := 0) hx hb zd_W_subtract_34 (by decide) ?_
        refine kz_lge (tgt := 43) hx hb zd_W_subtract_35 zd_W_subtract_36 (by decide) (fun hc36 => ?_) (fun hc36 => ?_)
        · refine lv_lconst (v := 0) hx hb zd_W_subtract_43 (by decide) ?_
          refine lv_lstore_n (lv' := [(3, .long 0), (6, .long yl7), (5, .int (nI (k7))), (0, .ref a), (1, .int v), (2, .ref o)]) hx hb zd_W_subtract_44 rfl hl (by decide) rfl (fun ls hl => ?_)
          refine lv_iinc (v := (nI (k7) - 1)) (lv' := [(5, .int (nI (k7) - 1)), (3, .long 0), (6, .long yl7), (0, .ref a), (1, .int v), (2, .ref o)]) hx hb zd_W_subtract_45 hl (k := 2) rfl (kz_m1 _) (by decide) rfl (fun ls hl => ?_)
          refine lv_goto (tgt := 7) hx hb zd_W_subtract_48 (by decide) ?_
          exact ih7 (0) f9 _ _ _ (by omega) hdy (lv_sub hl [0, 1, 3, 4, 5] rfl)
        · refine lv_lconst (v := 1) hx hb zd_W_subtract_39 (by decide) ?_
          refine lv_goto (tgt := 44) hx hb zd_W_subtract_40 (by decide) ?_
          refine lv_lstore_n (lv' := [(3, .long 1), (6, .long yl7), (5, .int (nI (k7))), (0, .ref a), (1, .int v), (2, .ref o)]) hx hb zd_W_subtract_44 rfl hl (by decide) rfl (fun ls hl => ?_)
          refine lv_iinc (v := (nI (k7) - 1)) (lv' := [(5, .int (nI (k7) - 1)), (3, .long 1), (6, .long yl7), (0, .ref a), (1, .int v), (2, .ref o)]) hx hb zd_W_subtract_45 hl (k := 2) rfl (kz_m1 _) (by decide) rfl (fun ls hl => ?_)
          refine lv_goto (tgt := 7) hx hb zd_W_subtract_48 (by decide) ?_
          exact ih7 (1) f9 _ _ _ (by omega) hdy (lv_sub hl [0, 1, 3, 4, 5] rfl)
  exact lp7 8 (yl1) go _ _ _ (by omega) hdy (lv_sub hl [0, 1, 2, 3, 4] rfl)

set_option maxHeartbeats 4000000 in
set_option maxRecDepth 100000 in
/-- KeyMeeting$Words.subtract([II[I)V -/
theorem c_Words_subtract1 (l : Launch) (dC : Nat → ClassId) (dI : Nat → Nat → Nat) (cI cAA cB cL : ClassId) (o : Nat) (go : Nat → Int32) (v : Int32) (sz : Nat) : Met l zy_W_subtract zw_W_subtract { frames := 0, cells := 0, slots := 0, locals := 0 } (kz_Pc (dC, dI) vwCl [(cI, .int), (cAA, .array .int), (cB, .byte), (cL, .long)] [] [] [.ref o, .int v, .ref o] [(o, .inl (cI, 8, .inl go))] [] sz) (va_Qv (fun _ => True) (kz_B (dC, dI) vwCl (va_A [(o, .inl (cI, 8, .inl go))] sz) (fun u : (Nat → Int32) => [(o, .inl (cI, 8, .inl u))])) (va_A [(o, .inl (cI, 8, .inl go))] sz)) 0 0 (va_A [(o, .inl (cI, 8, .inl go))] sz) := by
  refine kz_met (y := zy_W_subtract) (ws := zw_W_subtract) (av := [.ref o, .int v, .ref o]) (sz := sz) (Qc := fun A => va_Qv (fun _ => True) (kz_B (dC, dI) vwCl A (fun u : (Nat → Int32) => [(o, .inl (cI, 8, .inl u))])) A) (cc := zc_W_subtract) (maxL := 8) (ret := none) (by decide) rfl (Nat.le_of_ble_eq_true rfl) ?_
  intro p e s m below meth c A ls F hA hdy hK hro hZ hN hl
  obtain ⟨hx, hb, hml, hr, hown, hlocks, hts, hnm⟩ := id F
  have hl : lv_has ls 8 [(0, .ref o), (1, .int v), (2, .ref o)] := hl
  refine lv_iload_n hx hb zd_W_subtract_0 rfl (lv_at hl 1 rfl) ?_
  refine lv_i2l hx hb zd_W_subtract_1 rfl ?_
  refine lv_topl (fun yl1 _ => ?_)
  refine lv_lstore_n (lv' := [(3, .long yl1), (0, .ref o), (1, .int v), (2, .ref o)]) hx hb zd_W_subtract_2 rfl hl (by decide) rfl (fun ls hl => ?_)
  refine lv_bipush (v := (nI (7))) hx hb zd_W_subtract_3 (by decide) ?_
  refine lv_istore (lv' := [(5, .int (nI (7))), (3, .long yl1), (0, .ref o), (1, .int v), (2, .ref o)]) hx hb zd_W_subtract_5 hl (by decide) rfl (fun ls hl => ?_)
  have lp7 : ∀ (k7 : Nat) (yl2 : Int64) (f3 : Nat → Int32) (H : Heap) (locs : List Loc) (ls : Array Slot), k7 ≤ 8 → kz_dy (dC, dI) vwCl A s.heap H locs [(o, .inl (cI, 8, .inl f3))] → lv_has ls 8 [(5, .int (nI k7 - 1)), (3, .long yl2), (0, .ref o), (1, .int v), (2, .ref o)] → W p l e { frames := 0, cells := 0, slots := 0, locals := 0 } s m ([.ref o, .int v, .ref o] : List Value).toArray below meth c H locs 0 0 (MQ below (va_Qv (fun _ => True) (kz_B (dC, dI) vwCl A (fun u : (Nat → Int32) => [(o, .inl (cI, 8, .inl u))])) A) ([.ref o, .int v, .ref o] : List Value).toArray s 0 0 A) (F0 m 7 ls []) := by
    intro k7
    induction k7 with
    | zero =>
      intro yl2 f3 H locs ls hi7 hdy hl
      refine lv_iload hx hb zd_W_subtract_7 (lv_at hl 0 rfl) ?_
      refine lv_if_lt (tgt := 51) hx hb zd_W_subtract_9 (by decide) (fun hc9 => ?_) (fun hc9 => ?_)
      · exact kz_vret F (f3) hdy (trivial) zd_W_subtract_51
      · exact absurd (by decide) hc9
    | succ k7 ih7 =>
      intro yl2 f3 H locs ls hi7 hdy hl
      rw [nI_pred] at hl
      refine lv_iload hx hb zd_W_subtract_7 (lv_at hl 0 rfl) ?_
      refine lv_if_lt (tgt := 51) hx hb zd_W_subtract_9 (by decide) (fun hc9 => ?_) (fun hc9 => ?_)
      · exact absurd hc9 (nI_pos (by omega))
      · refine lv_aload_n hx hb zd_W_subtract_12 rfl (lv_at hl 2 rfl) ?_
        refine lv_iload hx hb zd_W_subtract_13 (lv_at hl 0 rfl) ?_
        refine va_iald hx hb hK hdy.1 0 0 rfl rfl (vp_in_nI (by omega) (by omega)) zd_W_subtract_15 ?_
        refine lv_topi (fun x4 _ => ?_)
        refine lv_i2l hx hb zd_W_subtract_16 rfl ?_
        refine lv_topl (fun yl5 _ => ?_)
        refine lv_ldc2 (v := (4294967295)) hx hb hown (hts _ (kz_c mw_180)) zd_W_subtract_17 ?_
        refine kz_mask hx hb zd_W_subtract_20 (fun yl6 hyl6 => ?_)
        refine lv_lload_n hx hb zd_W_subtract_21 rfl (lv_at hl 1 rfl) ?_
        refine lv_lsub hx hb zd_W_subtract_22 ?_
        refine lv_topl (fun yl7 _ => ?_)
        refine lv_lstore (lv' := [(6, .long yl7), (5, .int (nI (k7))), (3, .long yl2), (0, .ref o), (1, .int v), (2, .ref o)]) hx hb zd_W_subtract_23 hl (by decide) rfl (fun ls hl => ?_)
        refine lv_aload_n hx hb zd_W_subtract_25 rfl (lv_at hl 5 rfl) ?_
        refine lv_iload hx hb zd_W_subtract_26 (lv_at hl 1 rfl) ?_
        refine lv_lload hx hb zd_W_subtract_28 (lv_at hl 0 rfl) ?_
        refine lv_l2i hx hb zd_W_subtract_30 rfl ?_
        refine lv_topi (fun x8 _ => ?_)
        refine va_iast hx hb hK hdy.1 hdy.2.1 hdy.2.2 0 0 rfl rfl (vp_in_nI (by omega) (by omega)) zd_W_subtract_31 (fun H locs hP hD hS => ?_)
        obtain ⟨f9, hdy⟩ : ∃ f9 : Nat → Int32, kz_dy (dC, dI) vwCl A s.heap H locs [(o, .inl (cI, 8, .inl f9))] := ⟨_, hP, hD, hS⟩
        refine lv_lload hx hb zd_W_subtract_32 (lv_at hl 0 rfl) ?_
        refine lv_lconst (v := 0) hx hb zd_W_subtract_34 (by decide) ?_
        refine kz_lge (tgt := 43) hx hb zd_W_subtract_35 zd_W_subtract_36 (by decide) (fun hc36 => ?_) (fun hc36 => ?_)
        · refine lv_lconst (v := 0) hx hb zd_W_subtract_43 (by decide) ?_
          refine lv_lstore_n (lv' := [(3, .long 0), (6, .long yl7), (5, .int (nI (k7))), (0, .ref o), (1, .int v), (2, .ref o)]) hx hb zd_W_subtract_44 rfl hl (by decide) rfl (fun ls hl => ?_)
          refine lv_iinc (v := (nI (k7) - 1)) (lv' := [(5, .int (nI (k7) - 1)), (3, .long 0), (6, .long yl7), (0, .ref o), (1, .int v), (2, .ref o)]) hx hb zd_W_subtract_45 hl (k := 2) rfl (kz_m1 _) (by decide) rfl (fun ls hl => ?_)
          refine lv_goto (tgt := 7) hx hb zd_W_subtract_48 (by decide) ?_
          exact ih7 (0) f9 _ _ _ (by omega) hdy (lv_sub hl [0, 1, 3, 4, 5] rfl)
        · refine lv_lconst (v := 1) hx hb zd_W_subtract_39 (by decide) ?_
          refine lv_goto (tgt := 44) hx hb zd_W_subtract_40 (by decide) ?_
          refine lv_lstore_n (lv' := [(3, .long 1), (6, .long yl7), (5, .int (nI (k7))), (0, .ref o), (1, .int v), (2, .ref o)]) hx hb zd_W_subtract_44 rfl hl (by decide) rfl (fun ls hl => ?_)
          refine lv_iinc (v := (nI (k7) - 1)) (lv' := [(5, .int (nI (k7) - 1)), (3, .long 1), (6, .long yl7), (0, .ref o), (1, .int v), (2, .ref o)]) hx hb zd_W_subtract_45 hl (k := 2) rfl (kz_m1 _) (by decide) rfl (fun ls hl => ?_)
          refine lv_goto (tgt := 7) hx hb zd_W_subtract_48 (by decide) ?_
          exact ih7 (1) f9 _ _ _ (by omega) hdy (lv_sub hl [0, 1, 3, 4, 5] rfl)
  exact lp7 8 (yl1) go _ _ _ (by omega) hdy (lv_sub hl [0, 1, 2, 3, 4] rfl)

set_option maxHeartbeats 4000000 in
set_option maxRecDepth 100000 in
/-- KeyMeeting$Words.addMultiple(J[I[II)I -/
theorem c_Words_addMultiple (l : Launch) (dC : Nat → ClassId) (dI : Nat → Nat → Nat) (cI cAA cB cL : ClassId) (w b : Nat) (gw : Nat → Int32) (gb : Nat → Int32) (v : Int64) (at_ : Nat) (sz : Nat) (hat : at_ < 8) : Met l zy_W_addMultiple zw_W_addMultiple { frames := 0, cells := 0, slots := 0, locals := 0 } (kz_Pc (dC, dI) vwCl [(cI, .int), (cAA, .array .int), (cB, .byte), (cL, .long)] [] [] [.long v, .ref b, .ref w, .int (nI (at_))] [(w, .inl (cI, 16, .inl gw))] [(b, .inl (cI, 8, .inl gb))] sz) (va_Qi (fun _ _ => True) (kz_B (dC, dI) vwCl (va_A [(w, .inl (cI, 16, .inl gw))] sz) (fun u : (Nat → Int32) => [(w, .inl (cI, 16, .inl u))])) (va_A [(w, .inl (cI, 16, .inl gw))] sz)) 0 0 (va_A [(w, .inl (cI, 16, .inl gw))] sz) := by
  refine kz_met (y := zy_W_addMultiple) (ws := zw_W_addMultiple) (av := [.long v, .ref b, .ref w, .int (nI (at_))]) (sz := sz) (Qc := fun A => va_Qi (fun _ _ => True) (kz_B (dC, dI) vwCl A (fun u : (Nat → Int32) => [(w, .inl (cI, 16, .inl u))])) A) (cc := zc_W_addMultiple) (maxL := 10) (ret := some .int) (by decide) rfl (Nat.le_of_ble_eq_true rfl) ?_
  intro p e s m below meth c A ls F hA hdy hK hro hZ hN hl
  obtain ⟨hx, hb, hml, hr, hown, hlocks, hts, hnm⟩ := id F
  have hl : lv_has ls 10 [(0, .long v), (2, .ref b), (3, .ref w), (4, .int (nI (at_)))] := hl
  refine lv_lconst (v := 0) hx hb zd_W_addMultiple_0 (by decide) ?_
  refine lv_lstore (lv' := [(5, .long 0), (0, .long v), (2, .ref b), (3, .ref w), (4, .int (nI (at_)))]) hx hb zd_W_addMultiple_1 hl (by decide) rfl (fun ls hl => ?_)
  refine lv_bipush (v := (nI (7))) hx hb zd_W_addMultiple_3 (by decide) ?_
  refine lv_istore (lv' := [(7, .int (nI (7))), (5, .long 0), (0, .long v), (2, .ref b), (3, .ref w), (4, .int (nI (at_)))]) hx hb zd_W_addMultiple_5 hl (by decide) rfl (fun ls hl => ?_)
  have lp7 : ∀ (k7 : Nat) (yl1 : Int64) (f2 : Nat → Int32) (H : Heap) (locs : List Loc) (ls : Array Slot), k7 ≤ 8 → kz_dy (dC, dI) vwCl A s.heap H locs [(w, .inl (cI, 16, .inl f2))] → lv_has ls 10 [(7, .int (nI k7 - 1)), (5, .long yl1), (0, .long v), (2, .ref b), (3, .ref w), (4, .int (nI (at_)))] → W p l e { frames := 0, cells := 0, slots := 0, locals := 0 } s m ([.long v, .ref b, .ref w, .int (nI (at_))] : List Value).toArray below meth c H locs 0 0 (MQ below (va_Qi (fun _ _ => True) (kz_B (dC, dI) vwCl A (fun u : (Nat → Int32) => [(w, .inl (cI, 16, .inl u))])) A) ([.long v, .ref b, .ref w, .int (nI (at_))] : List Value).toArray s 0 0 A) (F0 m 7 ls []) := by
    intro k7
    induction k7 with
    | zero =>
      intro yl1 f2 H locs ls hi7 hdy hl
      refine lv_iload hx hb zd_W_addMultiple_7 (lv_at hl 0 rfl) ?_
      refine lv_if_lt (tgt := 68) hx hb zd_W_addMultiple_9 (by decide) (fun hc9 => ?_) (fun hc9 => ?_)
      · refine lv_lload hx hb zd_W_addMultiple_68 (lv_at hl 1 rfl) ?_
        refine lv_l2i hx hb zd_W_addMultiple_70 rfl ?_
        refine lv_topi (fun x3 _ => ?_)
        exact kz_iret F (f2) hdy (trivial) zd_W_addMultiple_71
      · exact absurd (by decide) hc9
    | succ k7 ih7 =>
      intro yl1 f2 H locs ls hi7 hdy hl
      rw [nI_pred] at hl
      refine lv_iload hx hb zd_W_addMultiple_7 (lv_at hl 0 rfl) ?_
      refine lv_if_lt (tgt := 68) hx hb zd_W_addMultiple_9 (by decide) (fun hc9 => ?_) (fun hc9 => ?_)
      · exact absurd hc9 (nI_pos (by omega))
      · refine lv_lload_n hx hb zd_W_addMultiple_12 rfl (lv_at hl 2 rfl) ?_
        refine lv_aload_n hx hb zd_W_addMultiple_13 rfl (lv_at hl 3 rfl) ?_
        refine lv_iload hx hb zd_W_addMultiple_14 (lv_at hl 0 rfl) ?_
        refine kz_riald hx hb hK hro hdy.2.2 0 0 rfl rfl (vp_in_nI (by omega) (by omega)) zd_W_addMultiple_16 ?_
        refine lv_topi (fun x4 _ => ?_)
        refine lv_i2l hx hb zd_W_addMultiple_17 rfl ?_
        refine lv_topl (fun yl5 _ => ?_)
        refine lv_ldc2 (v := (4294967295)) hx hb hown (hts _ (kz_c mw_180)) zd_W_addMultiple_18 ?_
        refine kz_mask hx hb zd_W_addMultiple_21 (fun yl6 hyl6 => ?_)
        refine lv_lmul hx hb zd_W_addMultiple_22 ?_
        refine lv_topl (fun yl7 _ => ?_)
        refine lv_aload_n hx hb zd_W_addMultiple_23 rfl (lv_at hl 4 rfl) ?_
        refine lv_iload hx hb zd_W_addMultiple_24 (lv_at hl 5 rfl) ?_
        refine lv_iconst (v := (nI (1))) hx hb zd_W_addMultiple_26 (by decide) ?_
        refine kz_iadd hx hb zd_W_addMultiple_27 (nI_add _ _) ?_
        refine lv_iload hx hb zd_W_addMultiple_28 (lv_at hl 0 rfl) ?_
        refine kz_iadd hx hb zd_W_addMultiple_30 (nI_add _ _) ?_
        refine va_iald hx hb hK hdy.1 0 0 rfl rfl (vp_in_nI (by omega) (by omega)) zd_W_addMultiple_31 ?_
        refine lv_topi (fun x8 _ => ?_)
        refine lv_i2l hx hb zd_W_addMultiple_32 rfl ?_
        refine lv_topl (fun yl9 _ => ?_)
        refine lv_ldc2 (v := (4294967295)) hx hb hown (hts _ (kz_c mw_180)) zd_W_addMultiple_33 ?_
        refine kz_mask hx hb zd_W_addMultiple_36 (fun yl10 hyl10 => ?_)
        refine lv_ladd hx hb zd_W_addMultiple_37 ?_
        refine lv_topl (fun yl11 _ => ?_)
        refine lv_lload hx hb zd_W_addMultiple_38 (lv_at hl 1 rfl) ?_
        refine lv_ladd hx hb zd_W_addMultiple_40 ?_
        refine lv_topl (fun yl12 _ => ?_)
        refine lv_lstore (lv' := [(8, .long yl12), (7, .int (nI (k7))), (5, .long yl1), (0, .long v), (2, .ref b), (3, .ref w), (4, .int (nI (at_)))]) hx hb zd_W_addMultiple_41 hl (by decide) rfl (fun ls hl => ?_)
        refine lv_aload_n hx hb zd_W_addMultiple_43 rfl (lv_at hl 5 rfl) ?_
        refine lv_iload hx hb zd_W_addMultiple_44 (lv_at hl 6 rfl) ?_
        refine lv_iconst (v := (nI (1))) hx hb zd_W_addMultiple_46 (by decide) ?_
        refine kz_iadd hx hb zd_W_addMultiple_47 (nI_add _ _) ?_
        refine lv_iload hx hb zd_W_addMultiple_48 (lv_at hl 1 rfl) ?_
        refine kz_iadd hx hb zd_W_addMultiple_50 (nI_add _ _) ?_
        refine lv_lload hx hb zd_W_addMultiple_51 (lv_at hl 0 rfl) ?_
        refine lv_l2i hx hb zd_W_addMultiple_53 rfl ?_
        refine lv_topi (fun x13 _ => ?_)
        refine va_iast hx hb hK hdy.1 hdy.2.1 hdy.2.2 0 0 rfl rfl (vp_in_nI (by omega) (by omega)) zd_W_addMultiple_54 (fun H locs hP hD hS => ?_)
        obtain ⟨f14, hdy⟩ : ∃ f14 : Nat → Int32, kz_dy (dC, dI) vwCl A s.heap H locs [(w, .inl (cI, 16, .inl f14))] := ⟨_, hP, hD, hS⟩
        refine lv_lload hx hb zd_W_addMultiple_55 (lv_at hl 0 rfl) ?_
        refine lv_bipush (v := (nI (32))) hx hb zd_W_addMultiple_57 (by decide) ?_
        refine lv_lushr hx hb zd_W_addMultiple_59 rfl ?_
        refine lv_topl (fun yl15 _ => ?_)
        refine lv_lstore (lv' := [(5, .long yl15), (8, .long yl12), (7, .int (nI (k7))), (0, .long v), (2, .ref b), (3, .ref w), (4, .int (nI (at_)))]) hx hb zd_W_addMultiple_60 hl (by decide) rfl (fun ls hl => ?_)
        refine lv_iinc (v := (nI (k7) - 1)) (lv' := [(7, .int (nI (k7) - 1)), (5, .long yl15), (8, .long yl12), (0, .long v), (2, .ref b), (3, .ref w), (4, .int (nI (at_)))]) hx hb zd_W_addMultiple_62 hl (k := 2) rfl (kz_m1 _) (by decide) rfl (fun ls hl => ?_)
        refine lv_goto (tgt := 7) hx hb zd_W_addMultiple_65 (by decide) ?_
        exact ih7 (yl15) f14 _ _ _ (by omega) hdy (lv_sub hl [0, 1, 3, 4, 5, 6] rfl)
  exact lp7 8 (0) gw _ _ _ (by omega) hdy (lv_sub hl [0, 1, 2, 3, 4, 5] rfl)

set_option maxHeartbeats 4000000 in
set_option maxRecDepth 100000 in
/-- KeyMeeting$Words.hasBit([II)Z -/
theorem c_Words_hasBit (l : Launch) (dC : Nat → ClassId) (dI : Nat → Nat → Nat) (cI cAA cB cL : ClassId) (a : Nat) (ga : Nat → Int32) (b : Nat) (sz : Nat) (hb8 : b < 256) : Met l zy_W_hasBit zw_W_hasBit { frames := 0, cells := 0, slots := 0, locals := 0 } (kz_Pc (dC, dI) vwCl [(cI, .int), (cAA, .array .int), (cB, .byte), (cL, .long)] [] [] [.ref a, .int (nI (b))] [] [(a, .inl (cI, 8, .inl ga))] sz) (va_Qi (fun (r : Int32) (u : Unit) => (r = 0 ∨ r = 1) ∧ True) (kz_B (dC, dI) vwCl (va_A [] sz) (fun u : Unit => [])) (va_A [] sz)) 0 0 (va_A [] sz) := by
  refine kz_met (y := zy_W_hasBit) (ws := zw_W_hasBit) (av := [.ref a, .int (nI (b))]) (sz := sz) (Qc := fun A => va_Qi (fun (r : Int32) (u : Unit) => (r = 0 ∨ r = 1) ∧ True) (kz_B (dC, dI) vwCl A (fun u : Unit => [])) A) (cc := zc_W_hasBit) (maxL := 2) (ret := some .boolean) (by decide) rfl (Nat.le_of_ble_eq_true rfl) ?_
  intro p e s m below meth c A ls F hA hdy hK hro hZ hN hl
  obtain ⟨hx, hb, hml, hr, hown, hlocks, hts, hnm⟩ := id F
  have hl : lv_has ls 2 [(0, .ref a), (1, .int (nI (b)))] := hl
  refine lv_aload_n hx hb zd_W_hasBit_0 rfl (lv_at hl 0 rfl) ?_
  refine lv_iload_n hx hb zd_W_hasBit_1 rfl (lv_at hl 1 rfl) ?_
  refine lv_iconst (v := (nI (5))) hx hb zd_W_hasBit_2 (by decide) ?_
  refine lv_iushr (v := nI (b / 2 ^ 5)) hx hb zd_W_hasBit_3 (pk_ushrN (by omega) _ 5 (by decide)) ?_
  refine kz_riald hx hb hK hro hdy.2.2 0 0 rfl rfl (vp_in_nI (by omega) (by omega)) zd_W_hasBit_4 ?_
  refine lv_topi (fun x1 _ => ?_)
  refine lv_iload_n hx hb zd_W_hasBit_5 rfl (lv_at hl 1 rfl) ?_
  refine lv_bipush (v := (nI (31))) hx hb zd_W_hasBit_6 (by decide) ?_
  refine lv_iand hx hb zd_W_hasBit_8 ?_
  refine lv_topi (fun x2 _ => ?_)
  refine lv_ishl hx hb zd_W_hasBit_9 ?_
  refine lv_topi (fun x3 _ => ?_)
  refine lv_if_ge (tgt := 17) hx hb zd_W_hasBit_10 (by decide) (fun hc10 => ?_) (fun hc10 => ?_)
  · refine lv_iconst (v := (nI (0))) hx hb zd_W_hasBit_17 (by decide) ?_
    exact kz_zret F () hdy (by first | exact Or.inl rfl | exact Or.inr rfl | assumption) (⟨by first | exact Or.inl rfl | exact Or.inr rfl | assumption, trivial⟩) zd_W_hasBit_18
  · refine lv_iconst (v := (nI (1))) hx hb zd_W_hasBit_13 (by decide) ?_
    refine lv_goto (tgt := 18) hx hb zd_W_hasBit_14 (by decide) ?_
    exact kz_zret F () hdy (by first | exact Or.inl rfl | exact Or.inr rfl | assumption) (⟨by first | exact Or.inl rfl | exact Or.inr rfl | assumption, trivial⟩) zd_W_hasBit_18

set_option maxHeartbeats 4000000 in
set_option maxRecDepth 100000 in
/-- KeyMeeting$Words.wordOrZero([II)J -/
theorem c_Words_wordOrZero (l : Launch) (dC : Nat → ClassId) (dI : Nat → Nat → Nat) (cI cAA cB cL : ClassId) (a : Nat) (ga : Nat → Int32) (v : Int32) (sz : Nat) : Met l zy_W_wordOrZero zw_W_wordOrZero { frames := 0, cells := 0, slots := 0, locals := 0 } (kz_Pc (dC, dI) vwCl [(cI, .int), (cAA, .array .int), (cB, .byte), (cL, .long)] [] [] [.ref a, .int v] [] [(a, .inl (cI, 8, .inl ga))] sz) (va_Ql (fun _ _ => True) (kz_B (dC, dI) vwCl (va_A [] sz) (fun u : Unit => [])) (va_A [] sz)) 0 0 (va_A [] sz) := by
  refine kz_met (y := zy_W_wordOrZero) (ws := zw_W_wordOrZero) (av := [.ref a, .int v]) (sz := sz) (Qc := fun A => va_Ql (fun _ _ => True) (kz_B (dC, dI) vwCl A (fun u : Unit => [])) A) (cc := zc_W_wordOrZero) (maxL := 2) (ret := some .long) (by decide) rfl (Nat.le_of_ble_eq_true rfl) ?_
  intro p e s m below meth c A ls F hA hdy hK hro hZ hN hl
  obtain ⟨hx, hb, hml, hr, hown, hlocks, hts, hnm⟩ := id F
  have hl : lv_has ls 2 [(0, .ref a), (1, .int v)] := hl
  refine lv_iload_n hx hb zd_W_wordOrZero_0 rfl (lv_at hl 1 rfl) ?_
  refine lv_if_lt (tgt := 21) hx hb zd_W_wordOrZero_1 (by decide) (fun hc1 => ?_) (fun hc1 => ?_)
  · refine lv_lconst (v := 0) hx hb zd_W_wordOrZero_21 (by decide) ?_
    exact kz_lret F () hdy (trivial) zd_W_wordOrZero_22
  · refine lv_iload_n hx hb zd_W_wordOrZero_4 rfl (lv_at hl 1 rfl) ?_
    refine lv_bipush (v := (nI (8))) hx hb zd_W_wordOrZero_5 (by decide) ?_
    refine lv_icmp_ge (tgt := 21) hx hb zd_W_wordOrZero_7 (by decide) (fun hc7 => ?_) (fun hc7 => ?_)
    · refine lv_lconst (v := 0) hx hb zd_W_wordOrZero_21 (by decide) ?_
      exact kz_lret F () hdy (trivial) zd_W_wordOrZero_22
    · refine lv_aload_n hx hb zd_W_wordOrZero_10 rfl (lv_at hl 0 rfl) ?_
      refine lv_iload_n hx hb zd_W_wordOrZero_11 rfl (lv_at hl 1 rfl) ?_
      refine kz_riald hx hb hK hro hdy.2.2 0 0 rfl rfl (kz_in (by assumption) (by assumption) (by decide)) zd_W_wordOrZero_12 ?_
      refine lv_topi (fun x1 _ => ?_)
      refine lv_i2l hx hb zd_W_wordOrZero_13 rfl ?_
      refine lv_topl (fun yl2 _ => ?_)
      refine lv_ldc2 (v := (4294967295)) hx hb hown (hts _ (kz_c mw_180)) zd_W_wordOrZero_14 ?_
      refine kz_mask hx hb zd_W_wordOrZero_17 (fun yl3 hyl3 => ?_)
      refine lv_goto (tgt := 22) hx hb zd_W_wordOrZero_18 (by decide) ?_
      exact kz_lret F () hdy (trivial) zd_W_wordOrZero_22

set_option maxHeartbeats 4000000 in
set_option maxRecDepth 100000 in
/-- KeyMeeting$Words.shiftLeft([II[I)V -/
theorem c_Words_shiftLeft (l : Launch) (dC : Nat → ClassId) (dI : Nat → Nat → Nat) (cI cAA cB cL : ClassId) (o a : Nat) (go : Nat → Int32) (ga : Nat → Int32) (v : Int32) (sz : Nat) : Met l zy_W_shiftLeft zw_W_shiftLeft { frames := 1, cells := 0, slots := 0, locals := 21 } (kz_Pc (dC, dI) vwCl [(cI, .int), (cAA, .array .int), (cB, .byte), (cL, .long)] [] [] [.ref a, .int v, .ref o] [(o, .inl (cI, 8, .inl go))] [(a, .inl (cI, 8, .inl ga))] sz) (va_Qv (fun _ => True) (kz_B (dC, dI) vwCl (va_A [(o, .inl (cI, 8, .inl go))] sz) (fun u : (Nat → Int32) => [(o, .inl (cI, 8, .inl u))])) (va_A [(o, .inl (cI, 8, .inl go))] sz)) 0 0 (va_A [(o, .inl (cI, 8, .inl go))] sz) := by
  refine kz_met (y := zy_W_shiftLeft) (ws := zw_W_shiftLeft) (av := [.ref a, .int v, .ref o]) (sz := sz) (Qc := fun A => va_Qv (fun _ => True) (kz_B (dC, dI) vwCl A (fun u : (Nat → Int32) => [(o, .inl (cI, 8, .inl u))])) A) (cc := zc_W_shiftLeft) (maxL := 7) (ret := none) (by decide) rfl (Nat.le_of_ble_eq_true rfl) ?_
  intro p e s m below meth c A ls F hA hdy hK hro hZ hN hl
  obtain ⟨hx, hb, hml, hr, hown, hlocks, hts, hnm⟩ := id F
  have hl : lv_has ls 7 [(0, .ref a), (1, .int v), (2, .ref o)] := hl
  refine lv_iload_n hx hb zd_W_shiftLeft_0 rfl (lv_at hl 1 rfl) ?_
  refine lv_iconst (v := (nI (5))) hx hb zd_W_shiftLeft_1 (by decide) ?_
  refine lv_iushr hx hb zd_W_shiftLeft_2 rfl ?_
  refine lv_topi (fun x1 _ => ?_)
  refine lv_istore_n (lv' := [(3, .int x1), (0, .ref a), (1, .int v), (2, .ref o)]) hx hb zd_W_shiftLeft_3 rfl hl (by decide) rfl (fun ls hl => ?_)
  refine lv_iconst (v := (nI (0))) hx hb zd_W_shiftLeft_4 (by decide) ?_
  refine lv_istore (lv' := [(4, .int (nI (0))), (3, .int x1), (0, .ref a), (1, .int v), (2, .ref o)]) hx hb zd_W_shiftLeft_5 hl (by decide) rfl (fun ls hl => ?_)
  have lp7 : ∀ (n7 k7 : Nat) (f2 : Nat → Int32) (H : Heap) (locs : List Loc) (ls : Array Slot), k7 ≤ 8 → 8 - k7 < n7 → kz_dy (dC, dI) vwCl A s.heap H locs [(o, .inl (cI, 8, .inl f2))] → lv_has ls 7 [(4, .int (nI (k7))), (3, .int x1), (0, .ref a), (1, .int v), (2, .ref o)] → W p l e { frames := 1, cells := 0, slots := 0, locals := 21 } s m ([.ref a, .int v, .ref o] : List Value).toArray below meth c H locs 0 0 (MQ below (va_Qv (fun _ => True) (kz_B (dC, dI) vwCl A (fun u : (Nat → Int32) => [(o, .inl (cI, 8, .inl u))])) A) ([.ref a, .int v, .ref o] : List Value).toArray s 0 0 A) (F0 m 7 ls []) := by
    intro n7
    induction n7 with
    | zero => intro k7; intros; omega
    | succ n7 ih7 =>
      intro k7 f2 H locs ls hi7 hn7 hdy hl
      refine lv_iload hx hb zd_W_shiftLeft_7 (lv_at hl 0 rfl) ?_
      refine lv_bipush (v := (nI (8))) hx hb zd_W_shiftLeft_9 (by decide) ?_
      refine lv_icmp_ge (tgt := 59) hx hb zd_W_shiftLeft_11 (by decide) (fun hc11 => ?_) (fun hc11 => ?_)
      · have hc11 : 8 ≤ k7 := (nI_leI (by omega) (by omega)).mp hc11
        exact kz_vret F (f2) hdy (trivial) zd_W_shiftLeft_59
      · have hc11 : ¬ 8 ≤ k7 := fun h9 => hc11 ((nI_leI (by omega) (by omega)).mpr h9)
        refine lv_aload_n hx hb zd_W_shiftLeft_14 rfl (lv_at hl 2 rfl) ?_
        refine lv_iload hx hb zd_W_shiftLeft_15 (lv_at hl 0 rfl) ?_
        refine lv_iload_n hx hb zd_W_shiftLeft_17 rfl (lv_at hl 1 rfl) ?_
        refine lv_iadd hx hb zd_W_shiftLeft_18 ?_
        refine lv_topi (fun x3 _ => ?_)
        refine kz_calll (wk := [(o, .inl (cI, 8, .inl f2))]) (va_runS (As := [.ref a, .int x3]) (rest := []) ⟨hx, hb, hml, hown, hts⟩ (c_Words_wordOrZero l dC dI cI cAA cB cL a ga (x3) _) (va_cwS 2 hts (kz_g (kz_mc mw_246 (kz_mc mw_247 (kz_mc mw_50 kz_mn))) mw_248) rfl rfl rfl (by decide +kernel) ⟨Nat.le_of_ble_eq_true rfl, Nat.le_of_ble_eq_true rfl⟩) (kz_preS hdy hA hK hro hZ hN [] (by decide) rfl [(true, 0)] rfl (by decide) [0, 1, 2, 3] rfl (fun _ h => by cases h) (fun _ h => by cases h) rfl) rfl rfl hl.1 rfl (lv_room (Nat.le_of_ble_eq_true rfl)) zd_W_shiftLeft_19 ⟨Nat.le_of_ble_eq_true rfl, Nat.le_of_ble_eq_true rfl⟩) hdy hA [] [0] rfl rfl (by decide) (by decide) (fun r u H locs hw hdy => ?_)
        obtain ⟨yl4, rfl⟩ : ∃ z, z = r := ⟨_, rfl⟩
        have hdy : kz_dy (dC, dI) vwCl A s.heap H locs [(o, .inl (cI, 8, .inl f2))] := hdy.sub [0] (by decide) rfl
        refine lv_bipush (v := (nI (32))) hx hb zd_W_shiftLeft_22 (by decide) ?_
        refine lv_lshl hx hb zd_W_shiftLeft_24 rfl ?_
        refine lv_topl (fun yl5 _ => ?_)
        refine lv_aload_n hx hb zd_W_shiftLeft_25 rfl (lv_at hl 2 rfl) ?_
        refine lv_iload hx hb zd_W_shiftLeft_26 (lv_at hl 0 rfl) ?_
        refine lv_iload_n hx hb zd_W_shiftLeft_28 rfl (lv_at hl 1 rfl) ?_
        refine lv_iadd hx hb zd_W_shiftLeft_29 ?_
        refine lv_topi (fun x6 _ => ?_)
        refine lv_iconst (v := (nI (1))) hx hb zd_W_shiftLeft_30 (by decide) ?_
        refine lv_iadd hx hb zd_W_shiftLeft_31 ?_
        refine lv_topi (fun x7 _ => ?_)
        refine kz_calll (wk := [(o, .inl (cI, 8, .inl f2))]) (va_runS (As := [.ref a, .int x7]) (rest := [.long yl5]) ⟨hx, hb, hml, hown, hts⟩ (c_Words_wordOrZero l dC dI cI cAA cB cL a ga (x7) _) (va_cwS 2 hts (kz_g (kz_mc mw_246 (kz_mc mw_247 (kz_mc mw_50 kz_mn))) mw_248) rfl rfl rfl (by decide +kernel) ⟨Nat.le_of_ble_eq_true rfl, Nat.le_of_ble_eq_true rfl⟩) (kz_preS hdy hA hK hro hZ hN [] (by decide) rfl [(true, 0)] rfl (by decide) [0, 1, 2, 3] rfl (fun _ h => by cases h) (fun _ h => by cases h) rfl) rfl rfl hl.1 rfl (lv_room (Nat.le_of_ble_eq_true rfl)) zd_W_shiftLeft_32 ⟨Nat.le_of_ble_eq_true rfl, Nat.le_of_ble_eq_true rfl⟩) hdy hA [] [0] rfl rfl (by decide) (by decide) (fun r u H locs hw hdy => ?_)
        obtain ⟨yl8, rfl⟩ : ∃ z, z = r := ⟨_, rfl⟩
        have hdy : kz_dy (dC, dI) vwCl A s.heap H locs [(o, .inl (cI, 8, .inl f2))] := hdy.sub [0] (by decide) rfl
        refine lv_lor hx hb zd_W_shiftLeft_35 ?_
        refine lv_topl (fun yl9 _ => ?_)
        refine lv_lstore (lv' := [(5, .long yl9), (4, .int (nI (k7))), (3, .int x1), (0, .ref a), (1, .int v), (2, .ref o)]) hx hb zd_W_shiftLeft_36 hl (by decide) rfl (fun ls hl => ?_)
        refine lv_aload_n hx hb zd_W_shiftLeft_38 rfl (lv_at hl 5 rfl) ?_
        refine lv_iload hx hb zd_W_shiftLeft_39 (lv_at hl 1 rfl) ?_
        refine lv_lload hx hb zd_W_shiftLeft_41 (lv_at hl 0 rfl) ?_
        refine lv_iload_n hx hb zd_W_shiftLeft_43 rfl (lv_at hl 4 rfl) ?_
        refine lv_bipush (v := (nI (31))) hx hb zd_W_shiftLeft_44 (by decide) ?_
        refine lv_iand hx hb zd_W_shiftLeft_46 ?_
        refine lv_topi (fun x10 _ => ?_)
        refine lv_lshl hx hb zd_W_shiftLeft_47 rfl ?_
        refine lv_topl (fun yl11 _ => ?_)
        refine lv_bipush (v := (nI (32))) hx hb zd_W_shiftLeft_48 (by decide) ?_
        refine lv_lushr hx hb zd_W_shiftLeft_50 rfl ?_
        refine lv_topl (fun yl12 _ => ?_)
        refine lv_l2i hx hb zd_W_shiftLeft_51 rfl ?_
        refine lv_topi (fun x13 _ => ?_)
        refine va_iast hx hb hK hdy.1 hdy.2.1 hdy.2.2 0 0 rfl rfl (vp_in_nI (by omega) (by omega)) zd_W_shiftLeft_52 (fun H locs hP hD hS => ?_)
        obtain ⟨f14, hdy⟩ : ∃ f14 : Nat → Int32, kz_dy (dC, dI) vwCl A s.heap H locs [(o, .inl (cI, 8, .inl f14))] := ⟨_, hP, hD, hS⟩
        refine lv_iinc (v := (nI (k7 + 1))) (lv' := [(4, .int (nI (k7 + 1))), (5, .long yl9), (3, .int x1), (0, .ref a), (1, .int v), (2, .ref o)]) hx hb zd_W_shiftLeft_53 hl (k := 1) rfl (nI_1 _) (by decide) rfl (fun ls hl => ?_)
        refine lv_goto (tgt := 7) hx hb zd_W_shiftLeft_56 (by decide) ?_
        exact ih7 (k7 + 1) f14 _ _ _ (by omega) (by omega) hdy (lv_sub hl [0, 2, 3, 4, 5] rfl)
  exact lp7 (8 - 0 + 1) 0 go _ _ _ (by omega) (by omega) hdy (lv_sub hl [0, 1, 2, 3, 4] rfl)

set_option maxHeartbeats 4000000 in
set_option maxRecDepth 100000 in
/-- KeyMeeting$Words.shiftRight([II[I)V -/
theorem c_Words_shiftRight (l : Launch) (dC : Nat → ClassId) (dI : Nat → Nat → Nat) (cI cAA cB cL : ClassId) (o a : Nat) (go : Nat → Int32) (ga : Nat → Int32) (v : Int32) (sz : Nat) : Met l zy_W_shiftRight zw_W_shiftRight { frames := 1, cells := 0, slots := 0, locals := 21 } (kz_Pc (dC, dI) vwCl [(cI, .int), (cAA, .array .int), (cB, .byte), (cL, .long)] [] [] [.ref a, .int v, .ref o] [(o, .inl (cI, 8, .inl go))] [(a, .inl (cI, 8, .inl ga))] sz) (va_Qv (fun _ => True) (kz_B (dC, dI) vwCl (va_A [(o, .inl (cI, 8, .inl go))] sz) (fun u : (Nat → Int32) => [(o, .inl (cI, 8, .inl u))])) (va_A [(o, .inl (cI, 8, .inl go))] sz)) 0 0 (va_A [(o, .inl (cI, 8, .inl go))] sz) := by
  refine kz_met (y := zy_W_shiftRight) (ws := zw_W_shiftRight) (av := [.ref a, .int v, .ref o]) (sz := sz) (Qc := fun A => va_Qv (fun _ => True) (kz_B (dC, dI) vwCl A (fun u : (Nat → Int32) => [(o, .inl (cI, 8, .inl u))])) A) (cc := zc_W_shiftRight) (maxL := 7) (ret := none) (by decide) rfl (Nat.le_of_ble_eq_true rfl) ?_
  intro p e s m below meth c A ls F hA hdy hK hro hZ hN hl
  obtain ⟨hx, hb, hml, hr, hown, hlocks, hts, hnm⟩ := id F
  have hl : lv_has ls 7 [(0, .ref a), (1, .int v), (2, .ref o)] := hl
  refine lv_iload_n hx hb zd_W_shiftRight_0 rfl (lv_at hl 1 rfl) ?_
  refine lv_iconst (v := (nI (5))) hx hb zd_W_shiftRight_1 (by decide) ?_
  refine lv_iushr hx hb zd_W_shiftRight_2 rfl ?_
  refine lv_topi (fun x1 _ => ?_)
  refine lv_istore_n (lv' := [(3, .int x1), (0, .ref a), (1, .int v), (2, .ref o)]) hx hb zd_W_shiftRight_3 rfl hl (by decide) rfl (fun ls hl => ?_)
  refine lv_bipush (v := (nI (7))) hx hb zd_W_shiftRight_4 (by decide) ?_
  refine lv_istore (lv' := [(4, .int (nI (7))), (3, .int x1), (0, .ref a), (1, .int v), (2, .ref o)]) hx hb zd_W_shiftRight_6 hl (by decide) rfl (fun ls hl => ?_)
  have lp8 : ∀ (k8 : Nat) (f2 : Nat → Int32) (H : Heap) (locs : List Loc) (ls : Array Slot), k8 ≤ 8 → kz_dy (dC, dI) vwCl A s.heap H locs [(o, .inl (cI, 8, .inl f2))] → lv_has ls 7 [(4, .int (nI k8 - 1)), (3, .int x1), (0, .ref a), (1, .int v), (2, .ref o)] → W p l e { frames := 1, cells := 0, slots := 0, locals := 21 } s m ([.ref a, .int v, .ref o] : List Value).toArray below meth c H locs 0 0 (MQ below (va_Qv (fun _ => True) (kz_B (dC, dI) vwCl A (fun u : (Nat → Int32) => [(o, .inl (cI, 8, .inl u))])) A) ([.ref a, .int v, .ref o] : List Value).toArray s 0 0 A) (F0 m 8 ls []) := by
    intro k8
    induction k8 with
    | zero =>
      intro f2 H locs ls hi8 hdy hl
      refine lv_iload hx hb zd_W_shiftRight_8 (lv_at hl 0 rfl) ?_
      refine lv_if_lt (tgt := 55) hx hb zd_W_shiftRight_10 (by decide) (fun hc10 => ?_) (fun hc10 => ?_)
      · exact kz_vret F (f2) hdy (trivial) zd_W_shiftRight_55
      · exact absurd (by decide) hc10
    | succ k8 ih8 =>
      intro f2 H locs ls hi8 hdy hl
      rw [nI_pred] at hl
      refine lv_iload hx hb zd_W_shiftRight_8 (lv_at hl 0 rfl) ?_
      refine lv_if_lt (tgt := 55) hx hb zd_W_shiftRight_10 (by decide) (fun hc10 => ?_) (fun hc10 => ?_)
      · exact absurd hc10 (nI_pos (by omega))
      · refine lv_aload_n hx hb zd_W_shiftRight_13 rfl (lv_at hl 2 rfl) ?_
        refine lv_iload hx hb zd_W_shiftRight_14 (lv_at hl 0 rfl) ?_
        refine lv_iload_n hx hb zd_W_shiftRight_16 rfl (lv_at hl 1 rfl) ?_
        refine lv_isub hx hb zd_W_shiftRight_17 ?_
        refine lv_topi (fun x3 _ => ?_)
        refine lv_iconst (v := (nI (1))) hx hb zd_W_shiftRight_18 (by decide) ?_
        refine lv_isub hx hb zd_W_shiftRight_19 ?_
        refine lv_topi (fun x4 _ => ?_)
        refine kz_calll (wk := [(o, .inl (cI, 8, .inl f2))]) (va_runS (As := [.ref a, .int x4]) (rest := []) ⟨hx, hb, hml, hown, hts⟩ (c_Words_wordOrZero l dC dI cI cAA cB cL a ga (x4) _) (va_cwS 2 hts (kz_g (kz_mc mw_246 (kz_mc mw_247 (kz_mc mw_50 kz_mn))) mw_248) rfl rfl rfl (by decide +kernel) ⟨Nat.le_of_ble_eq_true rfl, Nat.le_of_ble_eq_true rfl⟩) (kz_preS hdy hA hK hro hZ hN [] (by decide) rfl [(true, 0)] rfl (by decide) [0, 1, 2, 3] rfl (fun _ h => by cases h) (fun _ h => by cases h) rfl) rfl rfl hl.1 rfl (lv_room (Nat.le_of_ble_eq_true rfl)) zd_W_shiftRight_20 ⟨Nat.le_of_ble_eq_true rfl, Nat.le_of_ble_eq_true rfl⟩) hdy hA [] [0] rfl rfl (by decide) (by decide) (fun r u H locs hw hdy => ?_)
        obtain ⟨yl5, rfl⟩ : ∃ z, z = r := ⟨_, rfl⟩
        have hdy : kz_dy (dC, dI) vwCl A s.heap H locs [(o, .inl (cI, 8, .inl f2))] := hdy.sub [0] (by decide) rfl
        refine lv_bipush (v := (nI (32))) hx hb zd_W_shiftRight_23 (by decide) ?_
        refine lv_lshl hx hb zd_W_shiftRight_25 rfl ?_
        refine lv_topl (fun yl6 _ => ?_)
        refine lv_aload_n hx hb zd_W_shiftRight_26 rfl (lv_at hl 2 rfl) ?_
        refine lv_iload hx hb zd_W_shiftRight_27 (lv_at hl 0 rfl) ?_
        refine lv_iload_n hx hb zd_W_shiftRight_29 rfl (lv_at hl 1 rfl) ?_
        refine lv_isub hx hb zd_W_shiftRight_30 ?_
        refine lv_topi (fun x7 _ => ?_)
        refine kz_calll (wk := [(o, .inl (cI, 8, .inl f2))]) (va_runS (As := [.ref a, .int x7]) (rest := [.long yl6]) ⟨hx, hb, hml, hown, hts⟩ (c_Words_wordOrZero l dC dI cI cAA cB cL a ga (x7) _) (va_cwS 2 hts (kz_g (kz_mc mw_246 (kz_mc mw_247 (kz_mc mw_50 kz_mn))) mw_248) rfl rfl rfl (by decide +kernel) ⟨Nat.le_of_ble_eq_true rfl, Nat.le_of_ble_eq_true rfl⟩) (kz_preS hdy hA hK hro hZ hN [] (by decide) rfl [(true, 0)] rfl (by decide) [0, 1, 2, 3] rfl (fun _ h => by cases h) (fun _ h => by cases h) rfl) rfl rfl hl.1 rfl (lv_room (Nat.le_of_ble_eq_true rfl)) zd_W_shiftRight_31 ⟨Nat.le_of_ble_eq_true rfl, Nat.le_of_ble_eq_true rfl⟩) hdy hA [] [0] rfl rfl (by decide) (by decide) (fun r u H locs hw hdy => ?_)
        obtain ⟨yl8, rfl⟩ : ∃ z, z = r := ⟨_, rfl⟩
        have hdy : kz_dy (dC, dI) vwCl A s.heap H locs [(o, .inl (cI, 8, .inl f2))] := hdy.sub [0] (by decide) rfl
        refine lv_lor hx hb zd_W_shiftRight_34 ?_
        refine lv_topl (fun yl9 _ => ?_)
        refine lv_lstore (lv' := [(5, .long yl9), (4, .int (nI (k8))), (3, .int x1), (0, .ref a), (1, .int v), (2, .ref o)]) hx hb zd_W_shiftRight_35 hl (by decide) rfl (fun ls hl => ?_)
        refine lv_aload_n hx hb zd_W_shiftRight_37 rfl (lv_at hl 5 rfl) ?_
        refine lv_iload hx hb zd_W_shiftRight_38 (lv_at hl 1 rfl) ?_
        refine lv_lload hx hb zd_W_shiftRight_40 (lv_at hl 0 rfl) ?_
        refine lv_iload_n hx hb zd_W_shiftRight_42 rfl (lv_at hl 4 rfl) ?_
        refine lv_bipush (v := (nI (31))) hx hb zd_W_shiftRight_43 (by decide) ?_
        refine lv_iand hx hb zd_W_shiftRight_45 ?_
        refine lv_topi (fun x10 _ => ?_)
        refine lv_lushr hx hb zd_W_shiftRight_46 rfl ?_
        refine lv_topl (fun yl11 _ => ?_)
        refine lv_l2i hx hb zd_W_shiftRight_47 rfl ?_
        refine lv_topi (fun x12 _ => ?_)
        refine va_iast hx hb hK hdy.1 hdy.2.1 hdy.2.2 0 0 rfl rfl (vp_in_nI (by omega) (by omega)) zd_W_shiftRight_48 (fun H locs hP hD hS => ?_)
        obtain ⟨f13, hdy⟩ : ∃ f13 : Nat → Int32, kz_dy (dC, dI) vwCl A s.heap H locs [(o, .inl (cI, 8, .inl f13))] := ⟨_, hP, hD, hS⟩
        refine lv_iinc (v := (nI (k8) - 1)) (lv' := [(4, .int (nI (k8) - 1)), (5, .long yl9), (3, .int x1), (0, .ref a), (1, .int v), (2, .ref o)]) hx hb zd_W_shiftRight_49 hl (k := 1) rfl (kz_m1 _) (by decide) rfl (fun ls hl => ?_)
        refine lv_goto (tgt := 8) hx hb zd_W_shiftRight_52 (by decide) ?_
        exact ih8 f13 _ _ _ (by omega) hdy (lv_sub hl [0, 2, 3, 4, 5] rfl)
  exact lp8 8 go _ _ _ (by omega) hdy (lv_sub hl [0, 1, 2, 3, 4] rfl)

set_option maxHeartbeats 4000000 in
set_option maxRecDepth 100000 in
/-- KeyMeeting$Words.leadingZeros([I)I -/
theorem c_Words_leadingZeros (l : Launch) (dC : Nat → ClassId) (dI : Nat → Nat → Nat) (cI cAA cB cL : ClassId) (a : Nat) (ga : Nat → Int32) (sz : Nat) : Met l zy_W_leadingZeros zw_W_leadingZeros { frames := 1, cells := 0, slots := 0, locals := 21 } (kz_Pc (dC, dI) vwCl [(cI, .int), (cAA, .array .int), (cB, .byte), (cL, .long)] [] [] [.ref a] [] [(a, .inl (cI, 8, .inl ga))] sz) (va_Qi (fun (r : Int32) (u : Unit) => (∃ b : Nat, b ≤ 256 ∧ r = nI b) ∧ True) (kz_B (dC, dI) vwCl (va_A [] sz) (fun u : Unit => [])) (va_A [] sz)) 0 0 (va_A [] sz) := by
  refine kz_met (y := zy_W_leadingZeros) (ws := zw_W_leadingZeros) (av := [.ref a]) (sz := sz) (Qc := fun A => va_Qi (fun (r : Int32) (u : Unit) => (∃ b : Nat, b ≤ 256 ∧ r = nI b) ∧ True) (kz_B (dC, dI) vwCl A (fun u : Unit => [])) A) (cc := zc_W_leadingZeros) (maxL := 2) (ret := some .int) (by decide) rfl (Nat.le_of_ble_eq_true rfl) ?_
  intro p e s m below meth c A ls F hA hdy hK hro hZ hN hl
  obtain ⟨hx, hb, hml, hr, hown, hlocks, hts, hnm⟩ := id F
  have hl : lv_has ls 2 [(0, .ref a)] := hl
  refine lv_iconst (v := (nI (0))) hx hb zd_W_leadingZeros_0 (by decide) ?_
  refine lv_istore_n (lv' := [(1, .int (nI (0))), (0, .ref a)]) hx hb zd_W_leadingZeros_1 rfl hl (by decide) rfl (fun ls hl => ?_)
  have lp2 : ∀ (n2 k2 : Nat) (H : Heap) (locs : List Loc) (ls : Array Slot), k2 ≤ 256 → 256 - k2 < n2 → kz_dy (dC, dI) vwCl A s.heap H locs [] → lv_has ls 2 [(1, .int (nI (k2))), (0, .ref a)] → W p l e { frames := 1, cells := 0, slots := 0, locals := 21 } s m ([.ref a] : List Value).toArray below meth c H locs 0 0 (MQ below (va_Qi (fun (r : Int32) (u : Unit) => (∃ b : Nat, b ≤ 256 ∧ r = nI b) ∧ True) (kz_B (dC, dI) vwCl A (fun u : Unit => [])) A) ([.ref a] : List Value).toArray s 0 0 A) (F0 m 2 ls []) := by
    intro n2
    induction n2 with
    | zero => intro k2; intros; omega
    | succ n2 ih2 =>
      intro k2 H locs ls hi2 hn2 hdy hl
      refine lv_iload_n hx hb zd_W_leadingZeros_2 rfl (lv_at hl 0 rfl) ?_
      refine lv_sipush (v := (nI (256))) hx hb zd_W_leadingZeros_3 (by decide) ?_
      refine lv_icmp_ge (tgt := 23) hx hb zd_W_leadingZeros_6 (by decide) (fun hc6 => ?_) (fun hc6 => ?_)
      · have hc6 : 256 ≤ k2 := (nI_leI (by omega) (by omega)).mp hc6
        refine lv_iload_n hx hb zd_W_leadingZeros_23 rfl (lv_at hl 0 rfl) ?_
        exact kz_iret F () hdy (⟨⟨_, by first | assumption | omega, rfl⟩, trivial⟩) zd_W_leadingZeros_24
      · have hc6 : ¬ 256 ≤ k2 := fun h9 => hc6 ((nI_leI (by omega) (by omega)).mpr h9)
        refine lv_aload_n hx hb zd_W_leadingZeros_9 rfl (lv_at hl 1 rfl) ?_
        refine lv_iload_n hx hb zd_W_leadingZeros_10 rfl (lv_at hl 0 rfl) ?_
        refine kz_calli (wk := []) (va_runS (As := [.ref a, .int (nI (k2))]) (rest := []) ⟨hx, hb, hml, hown, hts⟩ (c_Words_hasBit l dC dI cI cAA cB cL a ga k2 _ (by first | omega | assumption)) (va_cwS 2 hts (kz_g (kz_mc mw_240 (kz_mc mw_241 (kz_mc mw_50 kz_mn))) mw_242) rfl rfl rfl (by decide +kernel) ⟨Nat.le_of_ble_eq_true rfl, Nat.le_of_ble_eq_true rfl⟩) (kz_preS hdy hA hK hro hZ hN [] (by decide) rfl [(true, 0)] rfl (by decide) [0, 1, 2, 3] rfl (fun _ h => by cases h) (fun _ h => by cases h) rfl) rfl rfl hl.1 rfl (lv_room (Nat.le_of_ble_eq_true rfl)) zd_W_leadingZeros_11 ⟨Nat.le_of_ble_eq_true rfl, Nat.le_of_ble_eq_true rfl⟩) hdy hA [] [] rfl rfl (by decide) (by decide) (fun r u H locs hw hdy => ?_)
        obtain ⟨r1, rfl⟩ : ∃ z, z = r := ⟨_, rfl⟩
        try dsimp only at hw
        obtain ⟨hzr1, -⟩ := hw
        have hdy : kz_dy (dC, dI) vwCl A s.heap H locs [] := hdy.sub [] (by decide) rfl
        refine lv_if_ne (tgt := 23) hx hb zd_W_leadingZeros_14 (by decide) (fun hc14 => ?_) (fun hc14 => ?_)
        · refine lv_iload_n hx hb zd_W_leadingZeros_23 rfl (lv_at hl 0 rfl) ?_
          exact kz_iret F () hdy (⟨⟨_, by first | assumption | omega, rfl⟩, trivial⟩) zd_W_leadingZeros_24
        · refine lv_iinc (v := (nI (k2 + 1))) (lv' := [(1, .int (nI (k2 + 1))), (0, .ref a)]) hx hb zd_W_leadingZeros_17 hl (k := 0) rfl (nI_1 _) (by decide) rfl (fun ls hl => ?_)
          refine lv_goto (tgt := 2) hx hb zd_W_leadingZeros_20 (by decide) ?_
          exact ih2 (k2 + 1) _ _ _ (by omega) (by omega) hdy (lv_sub hl [0, 1] rfl)
  exact lp2 (256 - 0 + 1) 0 _ _ _ (by omega) (by omega) hdy (lv_sub hl [0, 1] rfl)

set_option maxHeartbeats 4000000 in
set_option maxRecDepth 100000 in
/-- KeyMeeting$Words.copy([I[I)V -/
theorem c_Words_copy (l : Launch) (dC : Nat → ClassId) (dI : Nat → Nat → Nat) (cI cAA cB cL : ClassId) (o a : Nat) (go : Nat → Int32) (ga : Nat → Int32) (sz : Nat) : Met l zy_W_copy zw_W_copy { frames := 1, cells := 0, slots := 0, locals := 40 } (kz_Pc (dC, dI) vwCl [(cI, .int), (cAA, .array .int), (cB, .byte), (cL, .long)] [] [] [.ref a, .ref o] [(o, .inl (cI, 8, .inl go))] [(a, .inl (cI, 8, .inl ga))] sz) (va_Qv (fun _ => True) (kz_B (dC, dI) vwCl (va_A [(o, .inl (cI, 8, .inl go))] sz) (fun u : (Nat → Int32) => [(o, .inl (cI, 8, .inl u))])) (va_A [(o, .inl (cI, 8, .inl go))] sz)) 0 0 (va_A [(o, .inl (cI, 8, .inl go))] sz) := by
  refine kz_met (y := zy_W_copy) (ws := zw_W_copy) (av := [.ref a, .ref o]) (sz := sz) (Qc := fun A => va_Qv (fun _ => True) (kz_B (dC, dI) vwCl A (fun u : (Nat → Int32) => [(o, .inl (cI, 8, .inl u))])) A) (cc := zc_W_copy) (maxL := 2) (ret := none) (by decide) rfl (Nat.le_of_ble_eq_true rfl) ?_
  intro p e s m below meth c A ls F hA hdy hK hro hZ hN hl
  obtain ⟨hx, hb, hml, hr, hown, hlocks, hts, hnm⟩ := id F
  have hl : lv_has ls 2 [(0, .ref a), (1, .ref o)] := hl
  refine lv_aload_n hx hb zd_W_copy_0 rfl (lv_at hl 0 rfl) ?_
  refine lv_iconst (v := (nI (0))) hx hb zd_W_copy_1 (by decide) ?_
  refine lv_aload_n hx hb zd_W_copy_2 rfl (lv_at hl 1 rfl) ?_
  refine lv_iconst (v := (nI (0))) hx hb zd_W_copy_3 (by decide) ?_
  refine lv_bipush (v := (nI (8))) hx hb zd_W_copy_4 (by decide) ?_
  refine kz_copyr hx hb (hml.trans hl.1.symm) hown (hts _ (kz_c mw_285)) (hts _ (kz_c mw_214)) (hts _ (kz_c mw_213)) (hts _ (kz_c mw_51)) hK hdy.1 hdy.2.1 hdy.2.2 hro 0 0 0 0 rfl rfl rfl rfl rfl (nI_pos (by omega)) (nI_pos (by omega)) (nI_pos (by omega)) (by (repeat rw [nI_clamp (by omega)]) <;> omega) (by (repeat rw [nI_clamp (by omega)]) <;> omega) (fun _ _ => rfl) (Nat.le_of_ble_eq_true rfl) (Nat.le_of_ble_eq_true rfl) zd_W_copy_6 (fun H locs hP hD hS => ?_)
  obtain ⟨f1, hdy⟩ : ∃ f1 : Nat → Int32, kz_dy (dC, dI) vwCl A s.heap H locs [(o, .inl (cI, 8, .inl f1))] := ⟨_, hP, hD, hS⟩
  exact kz_vret F (f1) hdy (trivial) zd_W_copy_9

set_option maxHeartbeats 4000000 in
set_option maxRecDepth 100000 in
/-- Arrays.fill([II)V -/
theorem c_Arrays_fill (l : Launch) (dC : Nat → ClassId) (dI : Nat → Nat → Nat) (cI cAA cB cL : ClassId) (o : Nat) (go : Nat → Int32) (v : Int32) (sz : Nat) : Met l zy_A_fill zw_A_fill { frames := 0, cells := 0, slots := 0, locals := 0 } (kz_Pc (dC, dI) vwCl [(cI, .int), (cAA, .array .int), (cB, .byte), (cL, .long)] [] [] [.ref o, .int v] [(o, .inl (cI, 8, .inl go))] [] sz) (va_Qv (fun _ => True) (kz_B (dC, dI) vwCl (va_A [(o, .inl (cI, 8, .inl go))] sz) (fun u : (Nat → Int32) => [(o, .inl (cI, 8, .inl u))])) (va_A [(o, .inl (cI, 8, .inl go))] sz)) 0 0 (va_A [(o, .inl (cI, 8, .inl go))] sz) := by
  refine kz_met (y := zy_A_fill) (ws := zw_A_fill) (av := [.ref o, .int v]) (sz := sz) (Qc := fun A => va_Qv (fun _ => True) (kz_B (dC, dI) vwCl A (fun u : (Nat → Int32) => [(o, .inl (cI, 8, .inl u))])) A) (cc := zc_A_fill) (maxL := 4) (ret := none) (by decide) rfl (Nat.le_of_ble_eq_true rfl) ?_
  intro p e s m below meth c A ls F hA hdy hK hro hZ hN hl
  obtain ⟨hx, hb, hml, hr, hown, hlocks, hts, hnm⟩ := id F
  have hl : lv_has ls 4 [(0, .ref o), (1, .int v)] := hl
  refine lv_iconst (v := (nI (0))) hx hb zd_A_fill_0 (by decide) ?_
  refine lv_istore_n (lv' := [(2, .int (nI (0))), (0, .ref o), (1, .int v)]) hx hb zd_A_fill_1 rfl hl (by decide) rfl (fun ls hl => ?_)
  refine lv_aload_n hx hb zd_A_fill_2 rfl (lv_at hl 1 rfl) ?_
  refine va_alen (v := nI 8) hx hb hK hdy.1 0 0 rfl rfl rfl zd_A_fill_3 ?_
  refine lv_istore_n (lv' := [(3, .int (nI (8))), (2, .int (nI (0))), (0, .ref o), (1, .int v)]) hx hb zd_A_fill_4 rfl hl (by decide) rfl (fun ls hl => ?_)
  have lp5 : ∀ (n5 k5 : Nat) (f1 : Nat → Int32) (H : Heap) (locs : List Loc) (ls : Array Slot), k5 ≤ 8 → 8 - k5 < n5 → kz_dy (dC, dI) vwCl A s.heap H locs [(o, .inl (cI, 8, .inl f1))] → lv_has ls 4 [(3, .int (nI (8))), (2, .int (nI (k5))), (0, .ref o), (1, .int v)] → W p l e { frames := 0, cells := 0, slots := 0, locals := 0 } s m ([.ref o, .int v] : List Value).toArray below meth c H locs 0 0 (MQ below (va_Qv (fun _ => True) (kz_B (dC, dI) vwCl A (fun u : (Nat → Int32) => [(o, .inl (cI, 8, .inl u))])) A) ([.ref o, .int v] : List Value).toArray s 0 0 A) (F0 m 5 ls []) := by
    intro n5
    induction n5 with
    | zero => intro k5; intros; omega
    | succ n5 ih5 =>
      intro k5 f1 H locs ls hi5 hn5 hdy hl
      refine lv_iload_n hx hb zd_A_fill_5 rfl (lv_at hl 1 rfl) ?_
      refine lv_iload_n hx hb zd_A_fill_6 rfl (lv_at hl 0 rfl) ?_
      refine lv_icmp_ge (tgt := 20) hx hb zd_A_fill_7 (by decide) (fun hc7 => ?_) (fun hc7 => ?_)
      · have hc7 : 8 ≤ k5 := (nI_leI (by omega) (by omega)).mp hc7
        exact kz_vret F (f1) hdy (trivial) zd_A_fill_20
      · have hc7 : ¬ 8 ≤ k5 := fun h9 => hc7 ((nI_leI (by omega) (by omega)).mpr h9)
        refine lv_aload_n hx hb zd_A_fill_10 rfl (lv_at hl 2 rfl) ?_
        refine lv_iload_n hx hb zd_A_fill_11 rfl (lv_at hl 1 rfl) ?_
        refine lv_iload_n hx hb zd_A_fill_12 rfl (lv_at hl 3 rfl) ?_
        refine va_iast hx hb hK hdy.1 hdy.2.1 hdy.2.2 0 0 rfl rfl (vp_in_nI (by omega) (by omega)) zd_A_fill_13 (fun H locs hP hD hS => ?_)
        obtain ⟨f2, hdy⟩ : ∃ f2 : Nat → Int32, kz_dy (dC, dI) vwCl A s.heap H locs [(o, .inl (cI, 8, .inl f2))] := ⟨_, hP, hD, hS⟩
        refine lv_iinc (v := (nI (k5 + 1))) (lv' := [(2, .int (nI (k5 + 1))), (3, .int (nI (8))), (0, .ref o), (1, .int v)]) hx hb zd_A_fill_14 hl (k := 1) rfl (nI_1 _) (by decide) rfl (fun ls hl => ?_)
        refine lv_goto (tgt := 5) hx hb zd_A_fill_17 (by decide) ?_
        exact ih5 (k5 + 1) f2 _ _ _ (by omega) (by omega) hdy (lv_sub hl [1, 0, 2, 3] rfl)
  exact lp5 (8 - 0 + 1) 0 go _ _ _ (by omega) (by omega) hdy (lv_sub hl [0, 1, 2, 3] rfl)

set_option maxHeartbeats 4000000 in
set_option maxRecDepth 100000 in
/-- Arrays.fill([II)V -/
theorem c_Arrays_fill16 (l : Launch) (dC : Nat → ClassId) (dI : Nat → Nat → Nat) (cI cAA cB cL : ClassId) (o : Nat) (go : Nat → Int32) (v : Int32) (sz : Nat) : Met l zy_A_fill zw_A_fill { frames := 0, cells := 0, slots := 0, locals := 0 } (kz_Pc (dC, dI) vwCl [(cI, .int), (cAA, .array .int), (cB, .byte), (cL, .long)] [] [] [.ref o, .int v] [(o, .inl (cI, 16, .inl go))] [] sz) (va_Qv (fun _ => True) (kz_B (dC, dI) vwCl (va_A [(o, .inl (cI, 16, .inl go))] sz) (fun u : (Nat → Int32) => [(o, .inl (cI, 16, .inl u))])) (va_A [(o, .inl (cI, 16, .inl go))] sz)) 0 0 (va_A [(o, .inl (cI, 16, .inl go))] sz) := by
  refine kz_met (y := zy_A_fill) (ws := zw_A_fill) (av := [.ref o, .int v]) (sz := sz) (Qc := fun A => va_Qv (fun _ => True) (kz_B (dC, dI) vwCl A (fun u : (Nat → Int32) => [(o, .inl (cI, 16, .inl u))])) A) (cc := zc_A_fill) (maxL := 4) (ret := none) (by decide) rfl (Nat.le_of_ble_eq_true rfl) ?_
  intro p e s m below meth c A ls F hA hdy hK hro hZ hN hl
  obtain ⟨hx, hb, hml, hr, hown, hlocks, hts, hnm⟩ := id F
  have hl : lv_has ls 4 [(0, .ref o), (1, .int v)] := hl
  refine lv_iconst (v := (nI (0))) hx hb zd_A_fill_0 (by decide) ?_
  refine lv_istore_n (lv' := [(2, .int (nI (0))), (0, .ref o), (1, .int v)]) hx hb zd_A_fill_1 rfl hl (by decide) rfl (fun ls hl => ?_)
  refine lv_aload_n hx hb zd_A_fill_2 rfl (lv_at hl 1 rfl) ?_
  refine va_alen (v := nI 16) hx hb hK hdy.1 0 0 rfl rfl rfl zd_A_fill_3 ?_
  refine lv_istore_n (lv' := [(3, .int (nI (16))), (2, .int (nI (0))), (0, .ref o), (1, .int v)]) hx hb zd_A_fill_4 rfl hl (by decide) rfl (fun ls hl => ?_)
  have lp5 : ∀ (n5 k5 : Nat) (f1 : Nat → Int32) (H : Heap) (locs : List Loc) (ls : Array Slot), k5 ≤ 16 → 16 - k5 < n5 → kz_dy (dC, dI) vwCl A s.heap H locs [(o, .inl (cI, 16, .inl f1))] → lv_has ls 4 [(3, .int (nI (16))), (2, .int (nI (k5))), (0, .ref o), (1, .int v)] → W p l e { frames := 0, cells := 0, slots := 0, locals := 0 } s m ([.ref o, .int v] : List Value).toArray below meth c H locs 0 0 (MQ below (va_Qv (fun _ => True) (kz_B (dC, dI) vwCl A (fun u : (Nat → Int32) => [(o, .inl (cI, 16, .inl u))])) A) ([.ref o, .int v] : List Value).toArray s 0 0 A) (F0 m 5 ls []) := by
    intro n5
    induction n5 with
    | zero => intro k5; intros; omega
    | succ n5 ih5 =>
      intro k5 f1 H locs ls hi5 hn5 hdy hl
      refine lv_iload_n hx hb zd_A_fill_5 rfl (lv_at hl 1 rfl) ?_
      refine lv_iload_n hx hb zd_A_fill_6 rfl (lv_at hl 0 rfl) ?_
      refine lv_icmp_ge (tgt := 20) hx hb zd_A_fill_7 (by decide) (fun hc7 => ?_) (fun hc7 => ?_)
      · have hc7 : 16 ≤ k5 := (nI_leI (by omega) (by omega)).mp hc7
        exact kz_vret F (f1) hdy (trivial) zd_A_fill_20
      · have hc7 : ¬ 16 ≤ k5 := fun h9 => hc7 ((nI_leI (by omega) (by omega)).mpr h9)
        refine lv_aload_n hx hb zd_A_fill_10 rfl (lv_at hl 2 rfl) ?_
        refine lv_iload_n hx hb zd_A_fill_11 rfl (lv_at hl 1 rfl) ?_
        refine lv_iload_n hx hb zd_A_fill_12 rfl (lv_at hl 3 rfl) ?_
        refine va_iast hx hb hK hdy.1 hdy.2.1 hdy.2.2 0 0 rfl rfl (vp_in_nI (by omega) (by omega)) zd_A_fill_13 (fun H locs hP hD hS => ?_)
        obtain ⟨f2, hdy⟩ : ∃ f2 : Nat → Int32, kz_dy (dC, dI) vwCl A s.heap H locs [(o, .inl (cI, 16, .inl f2))] := ⟨_, hP, hD, hS⟩
        refine lv_iinc (v := (nI (k5 + 1))) (lv' := [(2, .int (nI (k5 + 1))), (3, .int (nI (16))), (0, .ref o), (1, .int v)]) hx hb zd_A_fill_14 hl (k := 1) rfl (nI_1 _) (by decide) rfl (fun ls hl => ?_)
        refine lv_goto (tgt := 5) hx hb zd_A_fill_17 (by decide) ?_
        exact ih5 (k5 + 1) f2 _ _ _ (by omega) (by omega) hdy (lv_sub hl [1, 0, 2, 3] rfl)
  exact lp5 (16 - 0 + 1) 0 go _ _ _ (by omega) (by omega) hdy (lv_sub hl [0, 1, 2, 3] rfl)

set_option maxHeartbeats 4000000 in
set_option maxRecDepth 100000 in
/-- KeyMeeting$Words.multiply([I[I[I)V -/
theorem c_Words_multiply (l : Launch) (dC : Nat → ClassId) (dI : Nat → Nat → Nat) (cI cAA cB cL : ClassId) (w a b : Nat) (gw : Nat → Int32) (ga : Nat → Int32) (gb : Nat → Int32) (sz : Nat) : Met l zy_W_multiply zw_W_multiply { frames := 1, cells := 0, slots := 0, locals := 29 } (kz_Pc (dC, dI) vwCl [(cI, .int), (cAA, .array .int), (cB, .byte), (cL, .long)] [] [] [.ref a, .ref b, .ref w] [(w, .inl (cI, 16, .inl gw))] [(a, .inl (cI, 8, .inl ga)), (b, .inl (cI, 8, .inl gb))] sz) (va_Qv (fun _ => True) (kz_B (dC, dI) vwCl (va_A [(w, .inl (cI, 16, .inl gw))] sz) (fun u : (Nat → Int32) => [(w, .inl (cI, 16, .inl u))])) (va_A [(w, .inl (cI, 16, .inl gw))] sz)) 0 0 (va_A [(w, .inl (cI, 16, .inl gw))] sz) := by
  refine kz_met (y := zy_W_multiply) (ws := zw_W_multiply) (av := [.ref a, .ref b, .ref w]) (sz := sz) (Qc := fun A => va_Qv (fun _ => True) (kz_B (dC, dI) vwCl A (fun u : (Nat → Int32) => [(w, .inl (cI, 16, .inl u))])) A) (cc := zc_W_multiply) (maxL := 4) (ret := none) (by decide) rfl (Nat.le_of_ble_eq_true rfl) ?_
  intro p e s m below meth c A ls F hA hdy hK hro hZ hN hl
  obtain ⟨hx, hb, hml, hr, hown, hlocks, hts, hnm⟩ := id F
  have hl : lv_has ls 4 [(0, .ref a), (1, .ref b), (2, .ref w)] := hl
  refine lv_aload_n hx hb zd_W_multiply_0 rfl (lv_at hl 2 rfl) ?_
  refine lv_iconst (v := (nI (0))) hx hb zd_W_multiply_1 (by decide) ?_
  refine kz_callv (wk := []) (va_runS (As := [.ref w, .int (nI (0))]) (rest := []) ⟨hx, hb, hml, hown, hts⟩ (c_Arrays_fill16 l dC dI cI cAA cB cL w gw ((nI (0))) _) (va_cwS 2 hts (kz_g (kz_mc mw_206 (kz_mc mw_207 (kz_mc mw_49 kz_mn))) mw_208) rfl rfl rfl (by decide +kernel) ⟨Nat.le_of_ble_eq_true rfl, Nat.le_of_ble_eq_true rfl⟩) (kz_preS hdy hA hK hro hZ hN [0] (by decide) rfl [] rfl (by decide) [0, 1, 2, 3] rfl (fun _ h => by cases h) (fun _ h => by cases h) rfl) rfl rfl hl.1 rfl (lv_room (Nat.le_of_ble_eq_true rfl)) zd_W_multiply_2 ⟨Nat.le_of_ble_eq_true rfl, Nat.le_of_ble_eq_true rfl⟩) hdy hA [0] [] rfl rfl (by decide) (by decide) (fun u H locs hw hdy => ?_)
  obtain ⟨f1, rfl⟩ : ∃ z, z = u := ⟨_, rfl⟩
  have hdy : kz_dy (dC, dI) vwCl A s.heap H locs [(w, .inl (cI, 16, .inl f1))] := hdy.sub [0] (by decide) rfl
  refine lv_bipush (v := (nI (7))) hx hb zd_W_multiply_5 (by decide) ?_
  refine lv_istore_n (lv' := [(3, .int (nI (7))), (0, .ref a), (1, .ref b), (2, .ref w)]) hx hb zd_W_multiply_7 rfl hl (by decide) rfl (fun ls hl => ?_)
  have lp8 : ∀ (k8 : Nat) (f2 : Nat → Int32) (H : Heap) (locs : List Loc) (ls : Array Slot), k8 ≤ 8 → kz_dy (dC, dI) vwCl A s.heap H locs [(w, .inl (cI, 16, .inl f2))] → lv_has ls 4 [(3, .int (nI k8 - 1)), (0, .ref a), (1, .ref b), (2, .ref w)] → W p l e { frames := 1, cells := 0, slots := 0, locals := 29 } s m ([.ref a, .ref b, .ref w] : List Value).toArray below meth c H locs 0 0 (MQ below (va_Qv (fun _ => True) (kz_B (dC, dI) vwCl A (fun u : (Nat → Int32) => [(w, .inl (cI, 16, .inl u))])) A) ([.ref a, .ref b, .ref w] : List Value).toArray s 0 0 A) (F0 m 8 ls []) := by
    intro k8
    induction k8 with
    | zero =>
      intro f2 H locs ls hi8 hdy hl
      refine lv_iload_n hx hb zd_W_multiply_8 rfl (lv_at hl 0 rfl) ?_
      refine lv_if_lt (tgt := 41) hx hb zd_W_multiply_9 (by decide) (fun hc9 => ?_) (fun hc9 => ?_)
      · exact kz_vret F (f2) hdy (trivial) zd_W_multiply_41
      · exact absurd (by decide) hc9
    | succ k8 ih8 =>
      intro f2 H locs ls hi8 hdy hl
      rw [nI_pred] at hl
      refine lv_iload_n hx hb zd_W_multiply_8 rfl (lv_at hl 0 rfl) ?_
      refine lv_if_lt (tgt := 41) hx hb zd_W_multiply_9 (by decide) (fun hc9 => ?_) (fun hc9 => ?_)
      · exact absurd hc9 (nI_pos (by omega))
      · refine lv_aload_n hx hb zd_W_multiply_12 rfl (lv_at hl 1 rfl) ?_
        refine lv_iload_n hx hb zd_W_multiply_13 rfl (lv_at hl 0 rfl) ?_
        refine kz_riald hx hb hK hro hdy.2.2 0 0 rfl rfl (vp_in_nI (by omega) (by omega)) zd_W_multiply_14 ?_
        refine lv_topi (fun x3 _ => ?_)
        refine lv_if_eq (tgt := 35) hx hb zd_W_multiply_15 (by decide) (fun hc15 => ?_) (fun hc15 => ?_)
        · refine lv_iinc (v := (nI (k8) - 1)) (lv' := [(3, .int (nI (k8) - 1)), (0, .ref a), (1, .ref b), (2, .ref w)]) hx hb zd_W_multiply_35 hl (k := 0) rfl (kz_m1 _) (by decide) rfl (fun ls hl => ?_)
          refine lv_goto (tgt := 8) hx hb zd_W_multiply_38 (by decide) ?_
          exact ih8 f2 _ _ _ (by omega) hdy (lv_sub hl [0, 1, 2, 3] rfl)
        · refine lv_aload_n hx hb zd_W_multiply_18 rfl (lv_at hl 3 rfl) ?_
          refine lv_iload_n hx hb zd_W_multiply_19 rfl (lv_at hl 0 rfl) ?_
          refine lv_aload_n hx hb zd_W_multiply_20 rfl (lv_at hl 1 rfl) ?_
          refine lv_iload_n hx hb zd_W_multiply_21 rfl (lv_at hl 0 rfl) ?_
          refine kz_riald hx hb hK hro hdy.2.2 0 0 rfl rfl (vp_in_nI (by omega) (by omega)) zd_W_multiply_22 ?_
          refine lv_topi (fun x4 _ => ?_)
          refine lv_i2l hx hb zd_W_multiply_23 rfl ?_
          refine lv_topl (fun yl5 _ => ?_)
          refine lv_ldc2 (v := (4294967295)) hx hb hown (hts _ (kz_c mw_180)) zd_W_multiply_24 ?_
          refine kz_mask hx hb zd_W_multiply_27 (fun yl6 hyl6 => ?_)
          refine lv_aload_n hx hb zd_W_multiply_28 rfl (lv_at hl 2 rfl) ?_
          refine lv_aload_n hx hb zd_W_multiply_29 rfl (lv_at hl 3 rfl) ?_
          refine lv_iload_n hx hb zd_W_multiply_30 rfl (lv_at hl 0 rfl) ?_
          refine kz_calli (wk := []) (va_runS (As := [.long (lN yl6), .ref b, .ref w, .int (nI (k8))]) (rest := [.int (nI (k8)), .ref w]) ⟨hx, hb, hml, hown, hts⟩ (c_Words_addMultiple l dC dI cI cAA cB cL w b f2 gb ((lN yl6)) k8 _ (by first | omega | assumption)) (va_cwS 4 hts (kz_g (kz_mc mw_209 (kz_mc mw_210 (kz_mc mw_50 kz_mn))) mw_211) rfl rfl rfl (by decide +kernel) ⟨Nat.le_of_ble_eq_true rfl, Nat.le_of_ble_eq_true rfl⟩) (kz_preS hdy hA hK hro hZ hN [0] (by decide) rfl [(true, 1)] rfl (by decide) [0, 1, 2, 3] rfl (fun _ h => by cases h) (fun _ h => by cases h) rfl) rfl rfl hl.1 rfl (lv_room (Nat.le_of_ble_eq_true rfl)) zd_W_multiply_31 ⟨Nat.le_of_ble_eq_true rfl, Nat.le_of_ble_eq_true rfl⟩) hdy hA [0] [] rfl rfl (by decide) (by decide) (fun r u H locs hw hdy => ?_)
          obtain ⟨r8, rfl⟩ : ∃ z, z = r := ⟨_, rfl⟩
          obtain ⟨f7, rfl⟩ : ∃ z, z = u := ⟨_, rfl⟩
          have hdy : kz_dy (dC, dI) vwCl A s.heap H locs [(w, .inl (cI, 16, .inl f7))] := hdy.sub [0] (by decide) rfl
          refine va_iast hx hb hK hdy.1 hdy.2.1 hdy.2.2 0 0 rfl rfl (vp_in_nI (by omega) (by omega)) zd_W_multiply_34 (fun H locs hP hD hS => ?_)
          obtain ⟨f9, hdy⟩ : ∃ f9 : Nat → Int32, kz_dy (dC, dI) vwCl A s.heap H locs [(w, .inl (cI, 16, .inl f9))] := ⟨_, hP, hD, hS⟩
          refine lv_iinc (v := (nI (k8) - 1)) (lv' := [(3, .int (nI (k8) - 1)), (0, .ref a), (1, .ref b), (2, .ref w)]) hx hb zd_W_multiply_35 hl (k := 0) rfl (kz_m1 _) (by decide) rfl (fun ls hl => ?_)
          refine lv_goto (tgt := 8) hx hb zd_W_multiply_38 (by decide) ?_
          exact ih8 f9 _ _ _ (by omega) hdy (lv_sub hl [0, 1, 2, 3] rfl)
  exact lp8 8 f1 _ _ _ (by omega) hdy (lv_sub hl [0, 1, 2, 3] rfl)

