set_option maxHeartbeats 4000000 in
set_option maxRecDepth 100000 in
/-- KeyMeeting$Host.takeLowHalf([I[I)V -/
theorem c_Host_takeLowHalf (l : Launch) (dC : Nat → ClassId) (dI : Nat → Nat → Nat) (cI cAA cB cL : ClassId) (o a : Nat) (go : Nat → Int32) (ga : Nat → Int32) (sz : Nat) : Met l zy_H_takeLowHalf zw_H_takeLowHalf { frames := 0, cells := 0, slots := 0, locals := 0 } (kz_Pc (dC, dI) vwCl [(cI, .int), (cAA, .array .int), (cB, .byte), (cL, .long)] [] [] [.ref a, .ref o] [(o, .inl (cI, 8, .inl go))] [(a, .inl (cI, 8, .inl ga))] sz) (va_Qv (fun _ => True) (kz_B (dC, dI) vwCl (va_A [(o, .inl (cI, 8, .inl go))] sz) (fun u : (Nat → Int32) => [(o, .inl (cI, 8, .inl u))])) (va_A [(o, .inl (cI, 8, .inl go))] sz)) 0 0 (va_A [(o, .inl (cI, 8, .inl go))] sz) := by
  refine kz_met (y := zy_H_takeLowHalf) (ws := zw_H_takeLowHalf) (av := [.ref a, .ref o]) (sz := sz) (Qc := fun A => va_Qv (fun _ => True) (kz_B (dC, dI) vwCl A (fun u : (Nat → Int32) => [(o, .inl (cI, 8, .inl u))])) A) (cc := zc_H_takeLowHalf) (maxL := 3) (ret := none) (by decide) rfl (Nat.le_of_ble_eq_true rfl) ?_
  intro p e s m below meth c A ls F hA hdy hK hro hZ hN hl
  obtain ⟨hx, hb, hml, hr, hown, hlocks, hts, hnm⟩ := id F
  have hl : lv_has ls 3 [(0, .ref a), (1, .ref o)] := hl
  refine lv_iconst (v := (nI (4))) hx hb zd_H_takeLowHalf_0 (by decide) ?_
  refine lv_istore_n (lv' := [(2, .int (nI (4))), (0, .ref a), (1, .ref o)]) hx hb zd_H_takeLowHalf_1 rfl hl (by decide) rfl (fun ls hl => ?_)
  have lp2 : ∀ (n2 k2 : Nat) (f1 : Nat → Int32) (H : Heap) (locs : List Loc) (ls : Array Slot), k2 ≤ 8 → 8 - k2 < n2 → kz_dy (dC, dI) vwCl A s.heap H locs [(o, .inl (cI, 8, .inl f1))] → lv_has ls 3 [(2, .int (nI (k2))), (0, .ref a), (1, .ref o)] → W p l e { frames := 0, cells := 0, slots := 0, locals := 0 } s m ([.ref a, .ref o] : List Value).toArray below meth c H locs 0 0 (MQ below (va_Qv (fun _ => True) (kz_B (dC, dI) vwCl A (fun u : (Nat → Int32) => [(o, .inl (cI, 8, .inl u))])) A) ([.ref a, .ref o] : List Value).toArray s 0 0 A) (F0 m 2 ls []) := by
    intro n2
    induction n2 with
    | zero => intro k2; intros; omega
    | succ n2 ih2 =>
      intro k2 f1 H locs ls hi2 hn2 hdy hl
      refine lv_iload_n hx hb zd_H_takeLowHalf_2 rfl (lv_at hl 0 rfl) ?_
      refine lv_bipush (v := (nI (8))) hx hb zd_H_takeLowHalf_3 (by decide) ?_
      refine lv_icmp_ge (tgt := 20) hx hb zd_H_takeLowHalf_5 (by decide) (fun hc5 => ?_) (fun hc5 => ?_)
      · have hc5 : 8 ≤ k2 := (nI_leI (by omega) (by omega)).mp hc5
        exact kz_vret F (f1) hdy (trivial) zd_H_takeLowHalf_20
      · have hc5 : ¬ 8 ≤ k2 := fun h9 => hc5 ((nI_leI (by omega) (by omega)).mpr h9)
        refine lv_aload_n hx hb zd_H_takeLowHalf_8 rfl (lv_at hl 2 rfl) ?_
        refine lv_iload_n hx hb zd_H_takeLowHalf_9 rfl (lv_at hl 0 rfl) ?_
        refine lv_aload_n hx hb zd_H_takeLowHalf_10 rfl (lv_at hl 1 rfl) ?_
        refine lv_iload_n hx hb zd_H_takeLowHalf_11 rfl (lv_at hl 0 rfl) ?_
        refine kz_riald hx hb hK hro hdy.2.2 0 0 rfl rfl (vp_in_nI (by omega) (by omega)) zd_H_takeLowHalf_12 ?_
        refine lv_topi (fun x2 _ => ?_)
        refine va_iast hx hb hK hdy.1 hdy.2.1 hdy.2.2 0 0 rfl rfl (vp_in_nI (by omega) (by omega)) zd_H_takeLowHalf_13 (fun H locs hP hD hS => ?_)
        obtain ⟨f3, hdy⟩ : ∃ f3 : Nat → Int32, kz_dy (dC, dI) vwCl A s.heap H locs [(o, .inl (cI, 8, .inl f3))] := ⟨_, hP, hD, hS⟩
        refine lv_iinc (v := (nI (k2 + 1))) (lv' := [(2, .int (nI (k2 + 1))), (0, .ref a), (1, .ref o)]) hx hb zd_H_takeLowHalf_14 hl (k := 0) rfl (nI_1 _) (by decide) rfl (fun ls hl => ?_)
        refine lv_goto (tgt := 2) hx hb zd_H_takeLowHalf_17 (by decide) ?_
        exact ih2 (k2 + 1) f3 _ _ _ (by omega) (by omega) hdy (lv_sub hl [0, 1, 2] rfl)
  exact lp2 (8 - 4 + 1) 4 go _ _ _ (by omega) (by omega) hdy (lv_sub hl [0, 1, 2] rfl)

set_option maxHeartbeats 4000000 in
set_option maxRecDepth 100000 in
/-- KeyMeeting$Host.multiplyBoth([I)V -/
theorem c_Host_multiplyBoth (l : Launch) (dC : Nat → ClassId) (dI : Nat → Nat → Nat) (cI cAA cB cL : ClassId) (hw16 o h pr inv hp hq : Nat) (ghw16 : Nat → Int32) (go : Nat → Int32) (ghp : Nat → Int32) (ghq : Nat → Int32) (sz : Nat) : Met l zy_H_multiplyBoth zw_H_multiplyBoth { frames := 2, cells := 0, slots := 0, locals := 52 } (kz_Pc (dC, dI) vwCl [(cI, .int), (cAA, .array .int), (cB, .byte), (cL, .long)] [] [] [.ref h, .ref o] [(hw16, .inl (cI, 16, .inl ghw16)), (o, .inl (cI, 8, .inl go))] [(h, .inr (2, [.ref pr, .ref inv, .ref hp, .ref hq, .ref hw16])), (hp, .inl (cI, 8, .inl ghp)), (hq, .inl (cI, 8, .inl ghq))] sz) (va_Qv (fun _ => True) (kz_B (dC, dI) vwCl (va_A [(hw16, .inl (cI, 16, .inl ghw16)), (o, .inl (cI, 8, .inl go))] sz) (fun u : (Nat → Int32) × (Nat → Int32) => [(hw16, .inl (cI, 16, .inl u.1)), (o, .inl (cI, 8, .inl u.2))])) (va_A [(hw16, .inl (cI, 16, .inl ghw16)), (o, .inl (cI, 8, .inl go))] sz)) 0 0 (va_A [(hw16, .inl (cI, 16, .inl ghw16)), (o, .inl (cI, 8, .inl go))] sz) := by
  refine kz_met (y := zy_H_multiplyBoth) (ws := zw_H_multiplyBoth) (av := [.ref h, .ref o]) (sz := sz) (Qc := fun A => va_Qv (fun _ => True) (kz_B (dC, dI) vwCl A (fun u : (Nat → Int32) × (Nat → Int32) => [(hw16, .inl (cI, 16, .inl u.1)), (o, .inl (cI, 8, .inl u.2))])) A) (cc := zc_H_multiplyBoth) (maxL := 2) (ret := none) (by decide) rfl (Nat.le_of_ble_eq_true rfl) ?_
  intro p e s m below meth c A ls F hA hdy hK hro hZ hN hl
  obtain ⟨hx, hb, hml, hr, hown, hlocks, hts, hnm⟩ := id F
  have hl : lv_has ls 2 [(0, .ref h), (1, .ref o)] := hl
  refine lv_aload_n hx hb zd_H_multiplyBoth_0 rfl (lv_at hl 0 rfl) ?_
  refine va_get (D := (dC, dI)) (ci := 2) (v := .ref hp) (C := zR_H) (T := zT_H) (N := 5) hx hb hts (fun w h => kz_c (zi_H w h)) hown hK (hro.ob hdy.2.2 (k := 0) rfl) 0 rfl rfl 2 (by decide) (hts _ (kz_c mw_73)) (fun _ h9 => h9) rfl zd_H_multiplyBoth_1 ?_
  refine lv_aload_n hx hb zd_H_multiplyBoth_4 rfl (lv_at hl 0 rfl) ?_
  refine va_get (D := (dC, dI)) (ci := 2) (v := .ref hq) (C := zR_H) (T := zT_H) (N := 5) hx hb hts (fun w h => kz_c (zi_H w h)) hown hK (hro.ob hdy.2.2 (k := 0) rfl) 0 rfl rfl 3 (by decide) (hts _ (kz_c mw_74)) (fun _ h9 => h9) rfl zd_H_multiplyBoth_5 ?_
  refine lv_aload_n hx hb zd_H_multiplyBoth_8 rfl (lv_at hl 0 rfl) ?_
  refine va_get (D := (dC, dI)) (ci := 2) (v := .ref hw16) (C := zR_H) (T := zT_H) (N := 5) hx hb hts (fun w h => kz_c (zi_H w h)) hown hK (hro.ob hdy.2.2 (k := 0) rfl) 0 rfl rfl 4 (by decide) (hts _ (kz_c mw_75)) (fun _ h9 => h9) rfl zd_H_multiplyBoth_9 ?_
  refine kz_callv (wk := [(o, .inl (cI, 8, .inl go))]) (va_runS (As := [.ref hp, .ref hq, .ref hw16]) (rest := []) ⟨hx, hb, hml, hown, hts⟩ (c_Words_multiply l dC dI cI cAA cB cL hw16 hp hq ghw16 ghp ghq _) (va_cwS 3 hts (kz_g (kz_mc mw_203 (kz_mc mw_204 (kz_mc mw_50 kz_mn))) mw_205) rfl rfl rfl (by decide +kernel) ⟨Nat.le_of_ble_eq_true rfl, Nat.le_of_ble_eq_true rfl⟩) (kz_preS hdy hA hK hro hZ hN [0] (by decide) rfl [(true, 1), (true, 2)] rfl (by decide) [0, 1, 2, 3] rfl (fun _ h => by cases h) (fun _ h => by cases h) rfl) rfl rfl hl.1 rfl (lv_room (Nat.le_of_ble_eq_true rfl)) zd_H_multiplyBoth_12 ⟨Nat.le_of_ble_eq_true rfl, Nat.le_of_ble_eq_true rfl⟩) hdy hA [0] [1] rfl rfl (by decide) (by decide) (fun u H locs hw hdy => ?_)
  obtain ⟨f1, rfl⟩ : ∃ z, z = u := ⟨_, rfl⟩
  have hdy : kz_dy (dC, dI) vwCl A s.heap H locs [(hw16, .inl (cI, 16, .inl f1)), (o, .inl (cI, 8, .inl go))] := hdy.sub [1, 0] (by decide) rfl
  refine lv_aload_n hx hb zd_H_multiplyBoth_15 rfl (lv_at hl 0 rfl) ?_
  refine va_get (D := (dC, dI)) (ci := 2) (v := .ref hw16) (C := zR_H) (T := zT_H) (N := 5) hx hb hts (fun w h => kz_c (zi_H w h)) hown hK (hro.ob hdy.2.2 (k := 0) rfl) 0 rfl rfl 4 (by decide) (hts _ (kz_c mw_75)) (fun _ h9 => h9) rfl zd_H_multiplyBoth_16 ?_
  refine lv_bipush (v := (nI (8))) hx hb zd_H_multiplyBoth_19 (by decide) ?_
  refine lv_aload_n hx hb zd_H_multiplyBoth_21 rfl (lv_at hl 1 rfl) ?_
  refine lv_iconst (v := (nI (0))) hx hb zd_H_multiplyBoth_22 (by decide) ?_
  refine lv_bipush (v := (nI (8))) hx hb zd_H_multiplyBoth_23 (by decide) ?_
  refine va_copyi hx hb (hml.trans hl.1.symm) hown (hts _ (kz_c mw_212)) (hts _ (kz_c mw_214)) (hts _ (kz_c mw_213)) (hts _ (kz_c mw_51)) hK hdy.1 hdy.2.1 hdy.2.2 0 1 0 0 rfl rfl rfl rfl rfl (nI_pos (by omega)) (nI_pos (by omega)) (nI_pos (by omega)) (by (repeat rw [nI_clamp (by omega)]) <;> omega) (by (repeat rw [nI_clamp (by omega)]) <;> omega) (fun _ _ => rfl) (Nat.le_of_ble_eq_true rfl) (Nat.le_of_ble_eq_true rfl) zd_H_multiplyBoth_25 (fun H locs hP hD hS => ?_)
  obtain ⟨f2, hdy⟩ : ∃ f2 : Nat → Int32, kz_dy (dC, dI) vwCl A s.heap H locs [(hw16, .inl (cI, 16, .inl f1)), (o, .inl (cI, 8, .inl f2))] := ⟨_, hP, hD, hS⟩
  exact kz_vret F (f1, f2) hdy (trivial) zd_H_multiplyBoth_28

set_option maxHeartbeats 4000000 in
set_option maxRecDepth 100000 in
/-- KeyMeeting$Host.restOfInverse()J -/
theorem c_Host_restOfInverse (l : Launch) (dC : Nat → ClassId) (dI : Nat → Nat → Nat) (cI cAA cB cL : ClassId) (h pr inv hp hq hw16 : Nat) (ginv : Nat → Int32) (sz : Nat) : Met l zy_H_restOfInverse zw_H_restOfInverse { frames := 0, cells := 0, slots := 0, locals := 0 } (kz_Pc (dC, dI) vwCl [(cI, .int), (cAA, .array .int), (cB, .byte), (cL, .long)] [] [] [.ref h] [] [(h, .inr (2, [.ref pr, .ref inv, .ref hp, .ref hq, .ref hw16])), (inv, .inl (cI, 8, .inl ginv))] sz) (va_Ql (fun _ _ => True) (kz_B (dC, dI) vwCl (va_A [] sz) (fun u : Unit => [])) (va_A [] sz)) 0 0 (va_A [] sz) := by
  refine kz_met (y := zy_H_restOfInverse) (ws := zw_H_restOfInverse) (av := [.ref h]) (sz := sz) (Qc := fun A => va_Ql (fun _ _ => True) (kz_B (dC, dI) vwCl A (fun u : Unit => [])) A) (cc := zc_H_restOfInverse) (maxL := 4) (ret := some .long) (by decide) rfl (Nat.le_of_ble_eq_true rfl) ?_
  intro p e s m below meth c A ls F hA hdy hK hro hZ hN hl
  obtain ⟨hx, hb, hml, hr, hown, hlocks, hts, hnm⟩ := id F
  have hl : lv_has ls 4 [(0, .ref h)] := hl
  refine lv_lconst (v := 0) hx hb zd_H_restOfInverse_0 (by decide) ?_
  refine lv_lstore_n (lv' := [(1, .long 0), (0, .ref h)]) hx hb zd_H_restOfInverse_1 rfl hl (by decide) rfl (fun ls hl => ?_)
  refine lv_iconst (v := (nI (0))) hx hb zd_H_restOfInverse_2 (by decide) ?_
  refine lv_istore_n (lv' := [(3, .int (nI (0))), (1, .long 0), (0, .ref h)]) hx hb zd_H_restOfInverse_3 rfl hl (by decide) rfl (fun ls hl => ?_)
  have lp4 : ∀ (n4 k4 : Nat) (yl1 : Int64) (H : Heap) (locs : List Loc) (ls : Array Slot), k4 ≤ 8 → 8 - k4 < n4 → kz_dy (dC, dI) vwCl A s.heap H locs [] → lv_has ls 4 [(3, .int (nI (k4))), (1, .long yl1), (0, .ref h)] → W p l e { frames := 0, cells := 0, slots := 0, locals := 0 } s m ([.ref h] : List Value).toArray below meth c H locs 0 0 (MQ below (va_Ql (fun _ _ => True) (kz_B (dC, dI) vwCl A (fun u : Unit => [])) A) ([.ref h] : List Value).toArray s 0 0 A) (F0 m 4 ls []) := by
    intro n4
    induction n4 with
    | zero => intro k4; intros; omega
    | succ n4 ih4 =>
      intro k4 yl1 H locs ls hi4 hn4 hdy hl
      refine lv_iload_n hx hb zd_H_restOfInverse_4 rfl (lv_at hl 0 rfl) ?_
      refine lv_bipush (v := (nI (8))) hx hb zd_H_restOfInverse_5 (by decide) ?_
      refine lv_icmp_ge (tgt := 37) hx hb zd_H_restOfInverse_7 (by decide) (fun hc7 => ?_) (fun hc7 => ?_)
      · have hc7 : 8 ≤ k4 := (nI_leI (by omega) (by omega)).mp hc7
        refine lv_lload_n hx hb zd_H_restOfInverse_37 rfl (lv_at hl 1 rfl) ?_
        exact kz_lret F () hdy (trivial) zd_H_restOfInverse_38
      · have hc7 : ¬ 8 ≤ k4 := fun h9 => hc7 ((nI_leI (by omega) (by omega)).mpr h9)
        refine lv_lload_n hx hb zd_H_restOfInverse_10 rfl (lv_at hl 1 rfl) ?_
        refine lv_bipush (v := (nI (32))) hx hb zd_H_restOfInverse_11 (by decide) ?_
        refine lv_lshl hx hb zd_H_restOfInverse_13 rfl ?_
        refine lv_topl (fun yl2 _ => ?_)
        refine lv_aload_n hx hb zd_H_restOfInverse_14 rfl (lv_at hl 2 rfl) ?_
        refine va_get (D := (dC, dI)) (ci := 2) (v := .ref inv) (C := zR_H) (T := zT_H) (N := 5) hx hb hts (fun w h => kz_c (zi_H w h)) hown hK (hro.ob hdy.2.2 (k := 0) rfl) 0 rfl rfl 1 (by decide) (hts _ (kz_c mw_71)) (fun _ h9 => h9) rfl zd_H_restOfInverse_15 ?_
        refine lv_iload_n hx hb zd_H_restOfInverse_18 rfl (lv_at hl 0 rfl) ?_
        refine kz_riald hx hb hK hro hdy.2.2 1 0 rfl rfl (vp_in_nI (by omega) (by omega)) zd_H_restOfInverse_19 ?_
        refine lv_topi (fun x3 _ => ?_)
        refine lv_i2l hx hb zd_H_restOfInverse_20 rfl ?_
        refine lv_topl (fun yl4 _ => ?_)
        refine lv_ldc2 (v := (4294967295)) hx hb hown (hts _ (kz_c mw_224)) zd_H_restOfInverse_21 ?_
        refine kz_mask hx hb zd_H_restOfInverse_24 (fun yl5 hyl5 => ?_)
        refine lv_lor hx hb zd_H_restOfInverse_25 ?_
        refine lv_topl (fun yl6 _ => ?_)
        refine lv_ldc2 (v := (65537)) hx hb hown (hts _ (kz_c mw_225)) zd_H_restOfInverse_26 ?_
        refine lv_lrem hx hb zd_H_restOfInverse_29 (by decide) ?_
        refine lv_topl (fun yl7 _ => ?_)
        refine lv_lstore_n (lv' := [(1, .long yl7), (3, .int (nI (k4))), (0, .ref h)]) hx hb zd_H_restOfInverse_30 rfl hl (by decide) rfl (fun ls hl => ?_)
        refine lv_iinc (v := (nI (k4 + 1))) (lv' := [(3, .int (nI (k4 + 1))), (1, .long yl7), (0, .ref h)]) hx hb zd_H_restOfInverse_31 hl (k := 1) rfl (nI_1 _) (by decide) rfl (fun ls hl => ?_)
        refine lv_goto (tgt := 4) hx hb zd_H_restOfInverse_34 (by decide) ?_
        exact ih4 (k4 + 1) (yl7) _ _ _ (by omega) (by omega) hdy (lv_sub hl [0, 1, 2] rfl)
  exact lp4 (8 - 0 + 1) 0 (0) _ _ _ (by omega) (by omega) hdy (lv_sub hl [0, 1, 2] rfl)

set_option maxHeartbeats 4000000 in
set_option maxRecDepth 100000 in
/-- KeyMeeting$Host.inverseOfSmall(J)J -/
theorem c_Host_inverseOfSmall (l : Launch) (dC : Nat → ClassId) (dI : Nat → Nat → Nat) (cI cAA cB cL : ClassId) (v : Int64) (sz : Nat) : Met l zy_H_inverseOfSmall zw_H_inverseOfSmall { frames := 0, cells := 0, slots := 0, locals := 0 } (kz_Pc (dC, dI) vwCl [(cI, .int), (cAA, .array .int), (cB, .byte), (cL, .long)] [] [] [.long v] [] [] sz) (va_Ql (fun _ _ => True) (kz_B (dC, dI) vwCl (va_A [] sz) (fun u : Unit => [])) (va_A [] sz)) 0 0 (va_A [] sz) := by
  refine kz_met (y := zy_H_inverseOfSmall) (ws := zw_H_inverseOfSmall) (av := [.long v]) (sz := sz) (Qc := fun A => va_Ql (fun _ _ => True) (kz_B (dC, dI) vwCl A (fun u : Unit => [])) A) (cc := zc_H_inverseOfSmall) (maxL := 5) (ret := some .long) (by decide) rfl (Nat.le_of_ble_eq_true rfl) ?_
  intro p e s m below meth c A ls F hA hdy hK hro hZ hN hl
  obtain ⟨hx, hb, hml, hr, hown, hlocks, hts, hnm⟩ := id F
  have hl : lv_has ls 5 [(0, .long v)] := hl
  refine lv_lconst (v := 1) hx hb zd_H_inverseOfSmall_0 (by decide) ?_
  refine lv_lstore_n (lv' := [(2, .long 1), (0, .long v)]) hx hb zd_H_inverseOfSmall_1 rfl hl (by decide) rfl (fun ls hl => ?_)
  refine lv_iconst (v := (nI (0))) hx hb zd_H_inverseOfSmall_2 (by decide) ?_
  refine lv_istore (lv' := [(4, .int (nI (0))), (2, .long 1), (0, .long v)]) hx hb zd_H_inverseOfSmall_3 hl (by decide) rfl (fun ls hl => ?_)
  have lp5 : ∀ (n5 k5 : Nat) (yl1 : Int64) (H : Heap) (locs : List Loc) (ls : Array Slot), k5 ≤ 16 → 16 - k5 < n5 → kz_dy (dC, dI) vwCl A s.heap H locs [] → lv_has ls 5 [(4, .int (nI (k5))), (2, .long yl1), (0, .long v)] → W p l e { frames := 0, cells := 0, slots := 0, locals := 0 } s m ([.long v] : List Value).toArray below meth c H locs 0 0 (MQ below (va_Ql (fun _ _ => True) (kz_B (dC, dI) vwCl A (fun u : Unit => [])) A) ([.long v] : List Value).toArray s 0 0 A) (F0 m 5 ls []) := by
    intro n5
    induction n5 with
    | zero => intro k5; intros; omega
    | succ n5 ih5 =>
      intro k5 yl1 H locs ls hi5 hn5 hdy hl
      refine lv_iload hx hb zd_H_inverseOfSmall_5 (lv_at hl 0 rfl) ?_
      refine lv_bipush (v := (nI (16))) hx hb zd_H_inverseOfSmall_7 (by decide) ?_
      refine lv_icmp_ge (tgt := 32) hx hb zd_H_inverseOfSmall_9 (by decide) (fun hc9 => ?_) (fun hc9 => ?_)
      · have hc9 : 16 ≤ k5 := (nI_leI (by omega) (by omega)).mp hc9
        refine lv_lload_n hx hb zd_H_inverseOfSmall_32 rfl (lv_at hl 1 rfl) ?_
        exact kz_lret F () hdy (trivial) zd_H_inverseOfSmall_33
      · have hc9 : ¬ 16 ≤ k5 := fun h9 => hc9 ((nI_leI (by omega) (by omega)).mpr h9)
        refine lv_lload_n hx hb zd_H_inverseOfSmall_12 rfl (lv_at hl 1 rfl) ?_
        refine lv_lload_n hx hb zd_H_inverseOfSmall_13 rfl (lv_at hl 1 rfl) ?_
        refine lv_lmul hx hb zd_H_inverseOfSmall_14 ?_
        refine lv_topl (fun yl2 _ => ?_)
        refine lv_ldc2 (v := (65537)) hx hb hown (hts _ (kz_c mw_225)) zd_H_inverseOfSmall_15 ?_
        refine lv_lrem hx hb zd_H_inverseOfSmall_18 (by decide) ?_
        refine lv_topl (fun yl3 _ => ?_)
        refine lv_lload_n hx hb zd_H_inverseOfSmall_19 rfl (lv_at hl 2 rfl) ?_
        refine lv_lmul hx hb zd_H_inverseOfSmall_20 ?_
        refine lv_topl (fun yl4 _ => ?_)
        refine lv_ldc2 (v := (65537)) hx hb hown (hts _ (kz_c mw_225)) zd_H_inverseOfSmall_21 ?_
        refine lv_lrem hx hb zd_H_inverseOfSmall_24 (by decide) ?_
        refine lv_topl (fun yl5 _ => ?_)
        refine lv_lstore_n (lv' := [(2, .long yl5), (4, .int (nI (k5))), (0, .long v)]) hx hb zd_H_inverseOfSmall_25 rfl hl (by decide) rfl (fun ls hl => ?_)
        refine lv_iinc (v := (nI (k5 + 1))) (lv' := [(4, .int (nI (k5 + 1))), (2, .long yl5), (0, .long v)]) hx hb zd_H_inverseOfSmall_26 hl (k := 1) rfl (nI_1 _) (by decide) rfl (fun ls hl => ?_)
        refine lv_goto (tgt := 5) hx hb zd_H_inverseOfSmall_29 (by decide) ?_
        exact ih5 (k5 + 1) (yl5) _ _ _ (by omega) (by omega) hdy (lv_sub hl [0, 1, 2] rfl)
  exact lp5 (16 - 0 + 1) 0 (1) _ _ _ (by omega) (by omega) hdy (lv_sub hl [0, 1, 2] rfl)

set_option maxHeartbeats 4000000 in
set_option maxRecDepth 100000 in
/-- KeyMeeting$Host.divideInverse(J)V -/
theorem c_Host_divideInverse (l : Launch) (dC : Nat → ClassId) (dI : Nat → Nat → Nat) (cI cAA cB cL : ClassId) (inv h pr hp hq hw16 : Nat) (ginv : Nat → Int32) (v : Int64) (sz : Nat) : Met l zy_H_divideInverse zw_H_divideInverse { frames := 0, cells := 0, slots := 0, locals := 0 } (kz_Pc (dC, dI) vwCl [(cI, .int), (cAA, .array .int), (cB, .byte), (cL, .long)] [] [] [.ref h, .long v] [(inv, .inl (cI, 8, .inl ginv))] [(h, .inr (2, [.ref pr, .ref inv, .ref hp, .ref hq, .ref hw16]))] sz) (va_Qv (fun _ => True) (kz_B (dC, dI) vwCl (va_A [(inv, .inl (cI, 8, .inl ginv))] sz) (fun u : (Nat → Int32) => [(inv, .inl (cI, 8, .inl u))])) (va_A [(inv, .inl (cI, 8, .inl ginv))] sz)) 0 0 (va_A [(inv, .inl (cI, 8, .inl ginv))] sz) := by
  refine kz_met (y := zy_H_divideInverse) (ws := zw_H_divideInverse) (av := [.ref h, .long v]) (sz := sz) (Qc := fun A => va_Qv (fun _ => True) (kz_B (dC, dI) vwCl A (fun u : (Nat → Int32) => [(inv, .inl (cI, 8, .inl u))])) A) (cc := zc_H_divideInverse) (maxL := 8) (ret := none) (by decide) rfl (Nat.le_of_ble_eq_true rfl) ?_
  intro p e s m below meth c A ls F hA hdy hK hro hZ hN hl
  obtain ⟨hx, hb, hml, hr, hown, hlocks, hts, hnm⟩ := id F
  have hl : lv_has ls 8 [(0, .ref h), (1, .long v)] := hl
  refine lv_lload_n hx hb zd_H_divideInverse_0 rfl (lv_at hl 1 rfl) ?_
  refine lv_lstore_n (lv' := [(3, .long v), (0, .ref h), (1, .long v)]) hx hb zd_H_divideInverse_1 rfl hl (by decide) rfl (fun ls hl => ?_)
  refine lv_iconst (v := (nI (0))) hx hb zd_H_divideInverse_2 (by decide) ?_
  refine lv_istore (lv' := [(5, .int (nI (0))), (3, .long v), (0, .ref h), (1, .long v)]) hx hb zd_H_divideInverse_3 hl (by decide) rfl (fun ls hl => ?_)
  have lp5 : ∀ (n5 k5 : Nat) (yl1 : Int64) (f2 : Nat → Int32) (H : Heap) (locs : List Loc) (ls : Array Slot), k5 ≤ 8 → 8 - k5 < n5 → kz_dy (dC, dI) vwCl A s.heap H locs [(inv, .inl (cI, 8, .inl f2))] → lv_has ls 8 [(5, .int (nI (k5))), (3, .long yl1), (0, .ref h), (1, .long v)] → W p l e { frames := 0, cells := 0, slots := 0, locals := 0 } s m ([.ref h, .long v] : List Value).toArray below meth c H locs 0 0 (MQ below (va_Qv (fun _ => True) (kz_B (dC, dI) vwCl A (fun u : (Nat → Int32) => [(inv, .inl (cI, 8, .inl u))])) A) ([.ref h, .long v] : List Value).toArray s 0 0 A) (F0 m 5 ls []) := by
    intro n5
    induction n5 with
    | zero => intro k5; intros; omega
    | succ n5 ih5 =>
      intro k5 yl1 f2 H locs ls hi5 hn5 hdy hl
      refine lv_iload hx hb zd_H_divideInverse_5 (lv_at hl 0 rfl) ?_
      refine lv_bipush (v := (nI (8))) hx hb zd_H_divideInverse_7 (by decide) ?_
      refine lv_icmp_ge (tgt := 58) hx hb zd_H_divideInverse_9 (by decide) (fun hc9 => ?_) (fun hc9 => ?_)
      · have hc9 : 8 ≤ k5 := (nI_leI (by omega) (by omega)).mp hc9
        exact kz_vret F (f2) hdy (trivial) zd_H_divideInverse_58
      · have hc9 : ¬ 8 ≤ k5 := fun h9 => hc9 ((nI_leI (by omega) (by omega)).mpr h9)
        refine lv_lload_n hx hb zd_H_divideInverse_12 rfl (lv_at hl 1 rfl) ?_
        refine lv_bipush (v := (nI (32))) hx hb zd_H_divideInverse_13 (by decide) ?_
        refine lv_lshl hx hb zd_H_divideInverse_15 rfl ?_
        refine lv_topl (fun yl3 _ => ?_)
        refine lv_aload_n hx hb zd_H_divideInverse_16 rfl (lv_at hl 2 rfl) ?_
        refine va_get (D := (dC, dI)) (ci := 2) (v := .ref inv) (C := zR_H) (T := zT_H) (N := 5) hx hb hts (fun w h => kz_c (zi_H w h)) hown hK (hro.ob hdy.2.2 (k := 0) rfl) 0 rfl rfl 1 (by decide) (hts _ (kz_c mw_71)) (fun _ h9 => h9) rfl zd_H_divideInverse_17 ?_
        refine lv_iload hx hb zd_H_divideInverse_20 (lv_at hl 0 rfl) ?_
        refine va_iald hx hb hK hdy.1 0 0 rfl rfl (vp_in_nI (by omega) (by omega)) zd_H_divideInverse_22 ?_
        refine lv_topi (fun x4 _ => ?_)
        refine lv_i2l hx hb zd_H_divideInverse_23 rfl ?_
        refine lv_topl (fun yl5 _ => ?_)
        refine lv_ldc2 (v := (4294967295)) hx hb hown (hts _ (kz_c mw_224)) zd_H_divideInverse_24 ?_
        refine kz_mask hx hb zd_H_divideInverse_27 (fun yl6 hyl6 => ?_)
        refine lv_lor hx hb zd_H_divideInverse_28 ?_
        refine lv_topl (fun yl7 _ => ?_)
        refine lv_lstore (lv' := [(6, .long yl7), (5, .int (nI (k5))), (3, .long yl1), (0, .ref h), (1, .long v)]) hx hb zd_H_divideInverse_29 hl (by decide) rfl (fun ls hl => ?_)
        refine lv_aload_n hx hb zd_H_divideInverse_31 rfl (lv_at hl 3 rfl) ?_
        refine va_get (D := (dC, dI)) (ci := 2) (v := .ref inv) (C := zR_H) (T := zT_H) (N := 5) hx hb hts (fun w h => kz_c (zi_H w h)) hown hK (hro.ob hdy.2.2 (k := 0) rfl) 0 rfl rfl 1 (by decide) (hts _ (kz_c mw_71)) (fun _ h9 => h9) rfl zd_H_divideInverse_32 ?_
        refine lv_iload hx hb zd_H_divideInverse_35 (lv_at hl 1 rfl) ?_
        refine lv_lload hx hb zd_H_divideInverse_37 (lv_at hl 0 rfl) ?_
        refine lv_ldc2 (v := (65537)) hx hb hown (hts _ (kz_c mw_225)) zd_H_divideInverse_39 ?_
        refine lv_ldiv hx hb zd_H_divideInverse_42 (by decide) ?_
        refine lv_topl (fun yl8 _ => ?_)
        refine lv_l2i hx hb zd_H_divideInverse_43 rfl ?_
        refine lv_topi (fun x9 _ => ?_)
        refine va_iast hx hb hK hdy.1 hdy.2.1 hdy.2.2 0 0 rfl rfl (vp_in_nI (by omega) (by omega)) zd_H_divideInverse_44 (fun H locs hP hD hS => ?_)
        obtain ⟨f10, hdy⟩ : ∃ f10 : Nat → Int32, kz_dy (dC, dI) vwCl A s.heap H locs [(inv, .inl (cI, 8, .inl f10))] := ⟨_, hP, hD, hS⟩
        refine lv_lload hx hb zd_H_divideInverse_45 (lv_at hl 0 rfl) ?_
        refine lv_ldc2 (v := (65537)) hx hb hown (hts _ (kz_c mw_225)) zd_H_divideInverse_47 ?_
        refine lv_lrem hx hb zd_H_divideInverse_50 (by decide) ?_
        refine lv_topl (fun yl11 _ => ?_)
        refine lv_lstore_n (lv' := [(3, .long yl11), (6, .long yl7), (5, .int (nI (k5))), (0, .ref h), (1, .long v)]) hx hb zd_H_divideInverse_51 rfl hl (by decide) rfl (fun ls hl => ?_)
        refine lv_iinc (v := (nI (k5 + 1))) (lv' := [(5, .int (nI (k5 + 1))), (3, .long yl11), (6, .long yl7), (0, .ref h), (1, .long v)]) hx hb zd_H_divideInverse_52 hl (k := 2) rfl (nI_1 _) (by decide) rfl (fun ls hl => ?_)
        refine lv_goto (tgt := 5) hx hb zd_H_divideInverse_55 (by decide) ?_
        exact ih5 (k5 + 1) (yl11) f10 _ _ _ (by omega) (by omega) hdy (lv_sub hl [0, 1, 3, 4] rfl)
  exact lp5 (8 - 0 + 1) 0 (v) ginv _ _ _ (by omega) (by omega) hdy (lv_sub hl [0, 1, 2, 3] rfl)

set_option maxHeartbeats 4000000 in
set_option maxRecDepth 100000 in
/-- KeyMeeting$Host.invert()Z -/
theorem c_Host_invert (l : Launch) (dC : Nat → ClassId) (dI : Nat → Nat → Nat) (cI cAA cB cL : ClassId) (inv h pr hp hq hw16 : Nat) (ginv : Nat → Int32) (sz : Nat) : Met l zy_H_invert zw_H_invert { frames := 1, cells := 0, slots := 0, locals := 27 } (kz_Pc (dC, dI) vwCl [(cI, .int), (cAA, .array .int), (cB, .byte), (cL, .long)] [] [] [.ref h] [(inv, .inl (cI, 8, .inl ginv))] [(h, .inr (2, [.ref pr, .ref inv, .ref hp, .ref hq, .ref hw16]))] sz) (va_Qi (fun (r : Int32) (u : (Nat → Int32)) => (r = 0 ∨ r = 1) ∧ True) (kz_B (dC, dI) vwCl (va_A [(inv, .inl (cI, 8, .inl ginv))] sz) (fun u : (Nat → Int32) => [(inv, .inl (cI, 8, .inl u))])) (va_A [(inv, .inl (cI, 8, .inl ginv))] sz)) 0 0 (va_A [(inv, .inl (cI, 8, .inl ginv))] sz) := by
  refine kz_met (y := zy_H_invert) (ws := zw_H_invert) (av := [.ref h]) (sz := sz) (Qc := fun A => va_Qi (fun (r : Int32) (u : (Nat → Int32)) => (r = 0 ∨ r = 1) ∧ True) (kz_B (dC, dI) vwCl A (fun u : (Nat → Int32) => [(inv, .inl (cI, 8, .inl u))])) A) (cc := zc_H_invert) (maxL := 10) (ret := some .boolean) (by decide) rfl (Nat.le_of_ble_eq_true rfl) ?_
  intro p e s m below meth c A ls F hA hdy hK hro hZ hN hl
  obtain ⟨hx, hb, hml, hr, hown, hlocks, hts, hnm⟩ := id F
  have hl : lv_has ls 10 [(0, .ref h)] := hl
  refine lv_aload_n hx hb zd_H_invert_0 rfl (lv_at hl 0 rfl) ?_
  refine kz_calll (wk := [(inv, .inl (cI, 8, .inl ginv))]) (va_runV (As := []) (rest := []) ⟨hx, hb, hml, hown, hts⟩ (c_Host_restOfInverse l dC dI cI cAA cB cL h pr inv hp hq hw16 ginv _) (cwV 0 hts (kz_g (kz_mc mw_220 (kz_mc mw_222 (kz_mc mw_4 (kz_mc mw_40 kz_mn)))) mw_223) rfl rfl rfl (by decide +kernel) ⟨Nat.le_of_ble_eq_true rfl, Nat.le_of_ble_eq_true rfl⟩) (kz_preVr hdy hA hK hro hZ hN [] (by decide) rfl [(true, 0), (false, 0)] rfl (by decide) [0, 1, 2, 3] rfl (fun _ h => by cases h) (fun _ h => by cases h) rfl (ci := 2) (q0 := 0) rfl rfl rfl) rfl rfl hl.1 rfl (lv_room (Nat.le_of_ble_eq_true rfl)) zd_H_invert_1 ⟨Nat.le_of_ble_eq_true rfl, Nat.le_of_ble_eq_true rfl⟩) hdy hA [] [0] rfl rfl (by decide) (by decide) (fun r u H locs hw hdy => ?_)
  obtain ⟨yl1, rfl⟩ : ∃ z, z = r := ⟨_, rfl⟩
  have hdy : kz_dy (dC, dI) vwCl A s.heap H locs [(inv, .inl (cI, 8, .inl ginv))] := hdy.sub [0] (by decide) rfl
  refine lv_lstore_n (lv' := [(1, .long yl1), (0, .ref h)]) hx hb zd_H_invert_4 rfl hl (by decide) rfl (fun ls hl => ?_)
  refine lv_lload_n hx hb zd_H_invert_5 rfl (lv_at hl 0 rfl) ?_
  refine lv_lconst (v := 0) hx hb zd_H_invert_6 (by decide) ?_
  refine kz_lne (tgt := 13) hx hb zd_H_invert_7 zd_H_invert_8 (by decide) (fun hc8 => ?_) (fun hc8 => ?_)
  · refine lv_ldc2 (v := (65537)) hx hb hown (hts _ (kz_c mw_225)) zd_H_invert_13 ?_
    refine lv_lload_n hx hb zd_H_invert_16 rfl (lv_at hl 0 rfl) ?_
    refine kz_calll (wk := [(inv, .inl (cI, 8, .inl ginv))]) (va_runS (As := [.long yl1]) (rest := [.long (65537)]) ⟨hx, hb, hml, hown, hts⟩ (c_Host_inverseOfSmall l dC dI cI cAA cB cL (yl1) _) (va_cwS 1 hts (kz_g (kz_mc mw_226 (kz_mc mw_227 (kz_mc mw_40 kz_mn))) mw_228) rfl rfl rfl (by decide +kernel) ⟨Nat.le_of_ble_eq_true rfl, Nat.le_of_ble_eq_true rfl⟩) (kz_preS hdy hA hK hro hZ hN [] (by decide) rfl [] rfl (by decide) [0, 1, 2, 3] rfl (fun _ h => by cases h) (fun _ h => by cases h) rfl) rfl rfl hl.1 rfl (lv_room (Nat.le_of_ble_eq_true rfl)) zd_H_invert_17 ⟨Nat.le_of_ble_eq_true rfl, Nat.le_of_ble_eq_true rfl⟩) hdy hA [] [0] rfl rfl (by decide) (by decide) (fun r u H locs hw hdy => ?_)
    obtain ⟨yl2, rfl⟩ : ∃ z, z = r := ⟨_, rfl⟩
    have hdy : kz_dy (dC, dI) vwCl A s.heap H locs [(inv, .inl (cI, 8, .inl ginv))] := hdy.sub [0] (by decide) rfl
    refine lv_lsub hx hb zd_H_invert_20 ?_
    refine lv_topl (fun yl3 _ => ?_)
    refine lv_lstore_n (lv' := [(3, .long yl3), (1, .long yl1), (0, .ref h)]) hx hb zd_H_invert_21 rfl hl (by decide) rfl (fun ls hl => ?_)
    refine lv_lconst (v := 1) hx hb zd_H_invert_22 (by decide) ?_
    refine lv_lstore (lv' := [(5, .long 1), (3, .long yl3), (1, .long yl1), (0, .ref h)]) hx hb zd_H_invert_23 hl (by decide) rfl (fun ls hl => ?_)
    refine lv_bipush (v := (nI (7))) hx hb zd_H_invert_25 (by decide) ?_
    refine lv_istore (lv' := [(7, .int (nI (7))), (5, .long 1), (3, .long yl3), (1, .long yl1), (0, .ref h)]) hx hb zd_H_invert_27 hl (by decide) rfl (fun ls hl => ?_)
    have lp29 : ∀ (k29 : Nat) (yl4 : Int64) (f5 : Nat → Int32) (H : Heap) (locs : List Loc) (ls : Array Slot), k29 ≤ 8 → kz_dy (dC, dI) vwCl A s.heap H locs [(inv, .inl (cI, 8, .inl f5))] → lv_has ls 10 [(7, .int (nI k29 - 1)), (5, .long yl4), (3, .long yl3), (1, .long yl1), (0, .ref h)] → W p l e { frames := 1, cells := 0, slots := 0, locals := 27 } s m ([.ref h] : List Value).toArray below meth c H locs 0 0 (MQ below (va_Qi (fun (r : Int32) (u : (Nat → Int32)) => (r = 0 ∨ r = 1) ∧ True) (kz_B (dC, dI) vwCl A (fun u : (Nat → Int32) => [(inv, .inl (cI, 8, .inl u))])) A) ([.ref h] : List Value).toArray s 0 0 A) (F0 m 29 ls []) := by
      intro k29
      induction k29 with
      | zero =>
        intro yl4 f5 H locs ls hi29 hdy hl
        refine lv_iload hx hb zd_H_invert_29 (lv_at hl 0 rfl) ?_
        refine lv_if_lt (tgt := 76) hx hb zd_H_invert_31 (by decide) (fun hc31 => ?_) (fun hc31 => ?_)
        · refine lv_aload_n hx hb zd_H_invert_76 rfl (lv_at hl 4 rfl) ?_
          refine lv_lload hx hb zd_H_invert_77 (lv_at hl 1 rfl) ?_
          refine kz_callv (wk := []) (va_runV (As := [.long yl4]) (rest := []) ⟨hx, hb, hml, hown, hts⟩ (c_Host_divideInverse l dC dI cI cAA cB cL inv h pr hp hq hw16 f5 (yl4) _) (cwV 1 hts (kz_g (kz_mc mw_229 (kz_mc mw_231 (kz_mc mw_5 (kz_mc mw_40 kz_mn)))) mw_232) rfl rfl rfl (by decide +kernel) ⟨Nat.le_of_ble_eq_true rfl, Nat.le_of_ble_eq_true rfl⟩) (kz_preVr hdy hA hK hro hZ hN [0] (by decide) rfl [(true, 0)] rfl (by decide) [0, 1, 2, 3] rfl (fun _ h => by cases h) (fun _ h => by cases h) rfl (ci := 2) (q0 := 0) rfl rfl rfl) rfl rfl hl.1 rfl (lv_room (Nat.le_of_ble_eq_true rfl)) zd_H_invert_79 ⟨Nat.le_of_ble_eq_true rfl, Nat.le_of_ble_eq_true rfl⟩) hdy hA [0] [] rfl rfl (by decide) (by decide) (fun u H locs hw hdy => ?_)
          obtain ⟨f6, rfl⟩ : ∃ z, z = u := ⟨_, rfl⟩
          have hdy : kz_dy (dC, dI) vwCl A s.heap H locs [(inv, .inl (cI, 8, .inl f6))] := hdy.sub [0] (by decide) rfl
          refine lv_iconst (v := (nI (1))) hx hb zd_H_invert_82 (by decide) ?_
          exact kz_zret F (f6) hdy (by first | exact Or.inl rfl | exact Or.inr rfl | assumption) (⟨by first | exact Or.inl rfl | exact Or.inr rfl | assumption, trivial⟩) zd_H_invert_83
        · exact absurd (by decide) hc31
      | succ k29 ih29 =>
        intro yl4 f5 H locs ls hi29 hdy hl
        rw [nI_pred] at hl
        refine lv_iload hx hb zd_H_invert_29 (lv_at hl 0 rfl) ?_
        refine lv_if_lt (tgt := 76) hx hb zd_H_invert_31 (by decide) (fun hc31 => ?_) (fun hc31 => ?_)
        · exact absurd hc31 (nI_pos (by omega))
        · refine lv_lload_n hx hb zd_H_invert_34 rfl (lv_at hl 2 rfl) ?_
          refine lv_aload_n hx hb zd_H_invert_35 rfl (lv_at hl 4 rfl) ?_
          refine va_get (D := (dC, dI)) (ci := 2) (v := .ref inv) (C := zR_H) (T := zT_H) (N := 5) hx hb hts (fun w h => kz_c (zi_H w h)) hown hK (hro.ob hdy.2.2 (k := 0) rfl) 0 rfl rfl 1 (by decide) (hts _ (kz_c mw_71)) (fun _ h9 => h9) rfl zd_H_invert_36 ?_
          refine lv_iload hx hb zd_H_invert_39 (lv_at hl 0 rfl) ?_
          refine va_iald hx hb hK hdy.1 0 0 rfl rfl (vp_in_nI (by omega) (by omega)) zd_H_invert_41 ?_
          refine lv_topi (fun x7 _ => ?_)
          refine lv_i2l hx hb zd_H_invert_42 rfl ?_
          refine lv_topl (fun yl8 _ => ?_)
          refine lv_ldc2 (v := (4294967295)) hx hb hown (hts _ (kz_c mw_224)) zd_H_invert_43 ?_
          refine kz_mask hx hb zd_H_invert_46 (fun yl9 hyl9 => ?_)
          refine lv_lmul hx hb zd_H_invert_47 ?_
          refine lv_topl (fun yl10 _ => ?_)
          refine lv_lload hx hb zd_H_invert_48 (lv_at hl 1 rfl) ?_
          refine lv_ladd hx hb zd_H_invert_50 ?_
          refine lv_topl (fun yl11 _ => ?_)
          refine lv_lstore (lv' := [(8, .long yl11), (7, .int (nI (k29))), (5, .long yl4), (3, .long yl3), (1, .long yl1), (0, .ref h)]) hx hb zd_H_invert_51 hl (by decide) rfl (fun ls hl => ?_)
          refine lv_aload_n hx hb zd_H_invert_53 rfl (lv_at hl 5 rfl) ?_
          refine va_get (D := (dC, dI)) (ci := 2) (v := .ref inv) (C := zR_H) (T := zT_H) (N := 5) hx hb hts (fun w h => kz_c (zi_H w h)) hown hK (hro.ob hdy.2.2 (k := 0) rfl) 0 rfl rfl 1 (by decide) (hts _ (kz_c mw_71)) (fun _ h9 => h9) rfl zd_H_invert_54 ?_
          refine lv_iload hx hb zd_H_invert_57 (lv_at hl 1 rfl) ?_
          refine lv_lload hx hb zd_H_invert_59 (lv_at hl 0 rfl) ?_
          refine lv_l2i hx hb zd_H_invert_61 rfl ?_
          refine lv_topi (fun x12 _ => ?_)
          refine va_iast hx hb hK hdy.1 hdy.2.1 hdy.2.2 0 0 rfl rfl (vp_in_nI (by omega) (by omega)) zd_H_invert_62 (fun H locs hP hD hS => ?_)
          obtain ⟨f13, hdy⟩ : ∃ f13 : Nat → Int32, kz_dy (dC, dI) vwCl A s.heap H locs [(inv, .inl (cI, 8, .inl f13))] := ⟨_, hP, hD, hS⟩
          refine lv_lload hx hb zd_H_invert_63 (lv_at hl 0 rfl) ?_
          refine lv_bipush (v := (nI (32))) hx hb zd_H_invert_65 (by decide) ?_
          refine lv_lushr hx hb zd_H_invert_67 rfl ?_
          refine lv_topl (fun yl14 _ => ?_)
          refine lv_lstore (lv' := [(5, .long yl14), (8, .long yl11), (7, .int (nI (k29))), (3, .long yl3), (1, .long yl1), (0, .ref h)]) hx hb zd_H_invert_68 hl (by decide) rfl (fun ls hl => ?_)
          refine lv_iinc (v := (nI (k29) - 1)) (lv' := [(7, .int (nI (k29) - 1)), (5, .long yl14), (8, .long yl11), (3, .long yl3), (1, .long yl1), (0, .ref h)]) hx hb zd_H_invert_70 hl (k := 2) rfl (kz_m1 _) (by decide) rfl (fun ls hl => ?_)
          refine lv_goto (tgt := 29) hx hb zd_H_invert_73 (by decide) ?_
          exact ih29 (yl14) f13 _ _ _ (by omega) hdy (lv_sub hl [0, 1, 3, 4, 5] rfl)
    exact lp29 8 (1) ginv _ _ _ (by omega) hdy (lv_sub hl [0, 1, 2, 3, 4] rfl)
  · refine lv_iconst (v := (nI (0))) hx hb zd_H_invert_11 (by decide) ?_
    exact kz_zret F (ginv) hdy (by first | exact Or.inl rfl | exact Or.inr rfl | assumption) (⟨by first | exact Or.inl rfl | exact Or.inr rfl | assumption, trivial⟩) zd_H_invert_12

set_option maxHeartbeats 4000000 in
set_option maxRecDepth 100000 in
/-- KeyMeeting$Host.take([I[I)Z -/
theorem c_Host_take (l : Launch) (dC : Nat → ClassId) (dI : Nat → Nat → Nat) (cI cAA cB cL : ClassId) (pr inv hp hq hw16 h a b : Nat) (gpr : Nat → Int32) (ginv : Nat → Int32) (ghp : Nat → Int32) (ghq : Nat → Int32) (ghw16 : Nat → Int32) (ga : Nat → Int32) (gb : Nat → Int32) (sz : Nat) : Met l zy_H_take zw_H_take { frames := 3, cells := 0, slots := 0, locals := 73 } (kz_Pc (dC, dI) vwCl [(cI, .int), (cAA, .array .int), (cB, .byte), (cL, .long)] [] [] [.ref h, .ref a, .ref b] [(pr, .inl (cI, 8, .inl gpr)), (inv, .inl (cI, 8, .inl ginv)), (hp, .inl (cI, 8, .inl ghp)), (hq, .inl (cI, 8, .inl ghq)), (hw16, .inl (cI, 16, .inl ghw16))] [(h, .inr (2, [.ref pr, .ref inv, .ref hp, .ref hq, .ref hw16])), (a, .inl (cI, 8, .inl ga)), (b, .inl (cI, 8, .inl gb))] sz) (va_Qi (fun (r : Int32) (u : (Nat → Int32) × (Nat → Int32) × (Nat → Int32) × (Nat → Int32) × (Nat → Int32)) => (r = 0 ∨ r = 1) ∧ True) (kz_B (dC, dI) vwCl (va_A [(pr, .inl (cI, 8, .inl gpr)), (inv, .inl (cI, 8, .inl ginv)), (hp, .inl (cI, 8, .inl ghp)), (hq, .inl (cI, 8, .inl ghq)), (hw16, .inl (cI, 16, .inl ghw16))] sz) (fun u : (Nat → Int32) × (Nat → Int32) × (Nat → Int32) × (Nat → Int32) × (Nat → Int32) => [(pr, .inl (cI, 8, .inl u.1)), (inv, .inl (cI, 8, .inl u.2.1)), (hp, .inl (cI, 8, .inl u.2.2.1)), (hq, .inl (cI, 8, .inl u.2.2.2.1)), (hw16, .inl (cI, 16, .inl u.2.2.2.2))])) (va_A [(pr, .inl (cI, 8, .inl gpr)), (inv, .inl (cI, 8, .inl ginv)), (hp, .inl (cI, 8, .inl ghp)), (hq, .inl (cI, 8, .inl ghq)), (hw16, .inl (cI, 16, .inl ghw16))] sz)) 0 0 (va_A [(pr, .inl (cI, 8, .inl gpr)), (inv, .inl (cI, 8, .inl ginv)), (hp, .inl (cI, 8, .inl ghp)), (hq, .inl (cI, 8, .inl ghq)), (hw16, .inl (cI, 16, .inl ghw16))] sz) := by
  refine kz_met (y := zy_H_take) (ws := zw_H_take) (av := [.ref h, .ref a, .ref b]) (sz := sz) (Qc := fun A => va_Qi (fun (r : Int32) (u : (Nat → Int32) × (Nat → Int32) × (Nat → Int32) × (Nat → Int32) × (Nat → Int32)) => (r = 0 ∨ r = 1) ∧ True) (kz_B (dC, dI) vwCl A (fun u : (Nat → Int32) × (Nat → Int32) × (Nat → Int32) × (Nat → Int32) × (Nat → Int32) => [(pr, .inl (cI, 8, .inl u.1)), (inv, .inl (cI, 8, .inl u.2.1)), (hp, .inl (cI, 8, .inl u.2.2.1)), (hq, .inl (cI, 8, .inl u.2.2.2.1)), (hw16, .inl (cI, 16, .inl u.2.2.2.2))])) A) (cc := zc_H_take) (maxL := 3) (ret := some .boolean) (by decide) rfl (Nat.le_of_ble_eq_true rfl) ?_
  intro p e s m below meth c A ls F hA hdy hK hro hZ hN hl
  obtain ⟨hx, hb, hml, hr, hown, hlocks, hts, hnm⟩ := id F
  have hl : lv_has ls 3 [(0, .ref h), (1, .ref a), (2, .ref b)] := hl
  refine lv_aload_n hx hb zd_H_take_0 rfl (lv_at hl 1 rfl) ?_
  refine lv_aload_n hx hb zd_H_take_1 rfl (lv_at hl 0 rfl) ?_
  refine va_get (D := (dC, dI)) (ci := 2) (v := .ref hp) (C := zR_H) (T := zT_H) (N := 5) hx hb hts (fun w h => kz_c (zi_H w h)) hown hK (hro.ob hdy.2.2 (k := 0) rfl) 0 rfl rfl 2 (by decide) (hts _ (kz_c mw_73)) (fun _ h9 => h9) rfl zd_H_take_2 ?_
  refine kz_callv (wk := [(pr, .inl (cI, 8, .inl gpr)), (inv, .inl (cI, 8, .inl ginv)), (hq, .inl (cI, 8, .inl ghq)), (hw16, .inl (cI, 16, .inl ghw16))]) (va_runS (As := [.ref a, .ref hp]) (rest := []) ⟨hx, hb, hml, hown, hts⟩ (c_Host_takeLowHalf l dC dI cI cAA cB cL hp a ghp ga _) (va_cwS 2 hts (kz_g (kz_mc mw_195 (kz_mc mw_196 (kz_mc mw_40 kz_mn))) mw_197) rfl rfl rfl (by decide +kernel) ⟨Nat.le_of_ble_eq_true rfl, Nat.le_of_ble_eq_true rfl⟩) (kz_preS hdy hA hK hro hZ hN [2] (by decide) rfl [(true, 1)] rfl (by decide) [0, 1, 2, 3] rfl (fun _ h => by cases h) (fun _ h => by cases h) rfl) rfl rfl hl.1 rfl (lv_room (Nat.le_of_ble_eq_true rfl)) zd_H_take_5 ⟨Nat.le_of_ble_eq_true rfl, Nat.le_of_ble_eq_true rfl⟩) hdy hA [2] [0, 1, 3, 4] rfl rfl (by decide) (by decide) (fun u H locs hw hdy => ?_)
  obtain ⟨f1, rfl⟩ : ∃ z, z = u := ⟨_, rfl⟩
  have hdy : kz_dy (dC, dI) vwCl A s.heap H locs [(pr, .inl (cI, 8, .inl gpr)), (inv, .inl (cI, 8, .inl ginv)), (hp, .inl (cI, 8, .inl f1)), (hq, .inl (cI, 8, .inl ghq)), (hw16, .inl (cI, 16, .inl ghw16))] := hdy.sub [0, 1, 4, 2, 3] (by decide) rfl
  refine lv_aload_n hx hb zd_H_take_8 rfl (lv_at hl 2 rfl) ?_
  refine lv_aload_n hx hb zd_H_take_9 rfl (lv_at hl 0 rfl) ?_
  refine va_get (D := (dC, dI)) (ci := 2) (v := .ref hq) (C := zR_H) (T := zT_H) (N := 5) hx hb hts (fun w h => kz_c (zi_H w h)) hown hK (hro.ob hdy.2.2 (k := 0) rfl) 0 rfl rfl 3 (by decide) (hts _ (kz_c mw_74)) (fun _ h9 => h9) rfl zd_H_take_10 ?_
  refine kz_callv (wk := [(pr, .inl (cI, 8, .inl gpr)), (inv, .inl (cI, 8, .inl ginv)), (hp, .inl (cI, 8, .inl f1)), (hw16, .inl (cI, 16, .inl ghw16))]) (va_runS (As := [.ref b, .ref hq]) (rest := []) ⟨hx, hb, hml, hown, hts⟩ (c_Host_takeLowHalf l dC dI cI cAA cB cL hq b ghq gb _) (va_cwS 2 hts (kz_g (kz_mc mw_195 (kz_mc mw_196 (kz_mc mw_40 kz_mn))) mw_197) rfl rfl rfl (by decide +kernel) ⟨Nat.le_of_ble_eq_true rfl, Nat.le_of_ble_eq_true rfl⟩) (kz_preS hdy hA hK hro hZ hN [3] (by decide) rfl [(true, 2)] rfl (by decide) [0, 1, 2, 3] rfl (fun _ h => by cases h) (fun _ h => by cases h) rfl) rfl rfl hl.1 rfl (lv_room (Nat.le_of_ble_eq_true rfl)) zd_H_take_13 ⟨Nat.le_of_ble_eq_true rfl, Nat.le_of_ble_eq_true rfl⟩) hdy hA [3] [0, 1, 2, 4] rfl rfl (by decide) (by decide) (fun u H locs hw hdy => ?_)
  obtain ⟨f2, rfl⟩ : ∃ z, z = u := ⟨_, rfl⟩
  have hdy : kz_dy (dC, dI) vwCl A s.heap H locs [(pr, .inl (cI, 8, .inl gpr)), (inv, .inl (cI, 8, .inl ginv)), (hp, .inl (cI, 8, .inl f1)), (hq, .inl (cI, 8, .inl f2)), (hw16, .inl (cI, 16, .inl ghw16))] := hdy.sub [0, 1, 2, 4, 3] (by decide) rfl
  refine lv_aload_n hx hb zd_H_take_16 rfl (lv_at hl 0 rfl) ?_
  refine va_get (D := (dC, dI)) (ci := 2) (v := .ref hp) (C := zR_H) (T := zT_H) (N := 5) hx hb hts (fun w h => kz_c (zi_H w h)) hown hK (hro.ob hdy.2.2 (k := 0) rfl) 0 rfl rfl 2 (by decide) (hts _ (kz_c mw_73)) (fun _ h9 => h9) rfl zd_H_take_17 ?_
  refine lv_iconst (v := (nI (3))) hx hb zd_H_take_20 (by decide) ?_
  refine kz_calli (wk := [(pr, .inl (cI, 8, .inl gpr)), (inv, .inl (cI, 8, .inl ginv)), (hp, .inl (cI, 8, .inl f1)), (hq, .inl (cI, 8, .inl f2)), (hw16, .inl (cI, 16, .inl ghw16))]) (va_runS (As := [.ref hp, .int (nI (3))]) (rest := []) ⟨hx, hb, hml, hown, hts⟩ (c_Words_atLeast l dC dI cI cAA cB cL hp f1 ((nI (3))) _) (va_cwS 2 hts (kz_g (kz_mc mw_198 (kz_mc mw_178 (kz_mc mw_50 kz_mn))) mw_179) rfl rfl rfl (by decide +kernel) ⟨Nat.le_of_ble_eq_true rfl, Nat.le_of_ble_eq_true rfl⟩) (kz_preS hdy hA hK hro hZ hN [] (by decide) rfl [(false, 2)] rfl (by decide) [0, 1, 2, 3] rfl (fun _ h => by cases h) (fun _ h => by cases h) rfl) rfl rfl hl.1 rfl (lv_room (Nat.le_of_ble_eq_true rfl)) zd_H_take_21 ⟨Nat.le_of_ble_eq_true rfl, Nat.le_of_ble_eq_true rfl⟩) hdy hA [] [0, 1, 2, 3, 4] rfl rfl (by decide) (by decide) (fun r u H locs hw hdy => ?_)
  obtain ⟨r3, rfl⟩ : ∃ z, z = r := ⟨_, rfl⟩
  try dsimp only at hw
  obtain ⟨hzr3, -⟩ := hw
  have hdy : kz_dy (dC, dI) vwCl A s.heap H locs [(pr, .inl (cI, 8, .inl gpr)), (inv, .inl (cI, 8, .inl ginv)), (hp, .inl (cI, 8, .inl f1)), (hq, .inl (cI, 8, .inl f2)), (hw16, .inl (cI, 16, .inl ghw16))] := hdy.sub [0, 1, 2, 3, 4] (by decide) rfl
  refine lv_if_eq (tgt := 38) hx hb zd_H_take_24 (by decide) (fun hc24 => ?_) (fun hc24 => ?_)
  · refine lv_iconst (v := (nI (0))) hx hb zd_H_take_38 (by decide) ?_
    exact kz_zret F (gpr, ginv, f1, f2, ghw16) hdy (by first | exact Or.inl rfl | exact Or.inr rfl | assumption) (⟨by first | exact Or.inl rfl | exact Or.inr rfl | assumption, trivial⟩) zd_H_take_39
  · refine lv_aload_n hx hb zd_H_take_27 rfl (lv_at hl 0 rfl) ?_
    refine va_get (D := (dC, dI)) (ci := 2) (v := .ref hq) (C := zR_H) (T := zT_H) (N := 5) hx hb hts (fun w h => kz_c (zi_H w h)) hown hK (hro.ob hdy.2.2 (k := 0) rfl) 0 rfl rfl 3 (by decide) (hts _ (kz_c mw_74)) (fun _ h9 => h9) rfl zd_H_take_28 ?_
    refine lv_iconst (v := (nI (3))) hx hb zd_H_take_31 (by decide) ?_
    refine kz_calli (wk := [(pr, .inl (cI, 8, .inl gpr)), (inv, .inl (cI, 8, .inl ginv)), (hp, .inl (cI, 8, .inl f1)), (hq, .inl (cI, 8, .inl f2)), (hw16, .inl (cI, 16, .inl ghw16))]) (va_runS (As := [.ref hq, .int (nI (3))]) (rest := []) ⟨hx, hb, hml, hown, hts⟩ (c_Words_atLeast l dC dI cI cAA cB cL hq f2 ((nI (3))) _) (va_cwS 2 hts (kz_g (kz_mc mw_198 (kz_mc mw_178 (kz_mc mw_50 kz_mn))) mw_179) rfl rfl rfl (by decide +kernel) ⟨Nat.le_of_ble_eq_true rfl, Nat.le_of_ble_eq_true rfl⟩) (kz_preS hdy hA hK hro hZ hN [] (by decide) rfl [(false, 3)] rfl (by decide) [0, 1, 2, 3] rfl (fun _ h => by cases h) (fun _ h => by cases h) rfl) rfl rfl hl.1 rfl (lv_room (Nat.le_of_ble_eq_true rfl)) zd_H_take_32 ⟨Nat.le_of_ble_eq_true rfl, Nat.le_of_ble_eq_true rfl⟩) hdy hA [] [0, 1, 2, 3, 4] rfl rfl (by decide) (by decide) (fun r u H locs hw hdy => ?_)
    obtain ⟨r4, rfl⟩ : ∃ z, z = r := ⟨_, rfl⟩
    try dsimp only at hw
    obtain ⟨hzr4, -⟩ := hw
    have hdy : kz_dy (dC, dI) vwCl A s.heap H locs [(pr, .inl (cI, 8, .inl gpr)), (inv, .inl (cI, 8, .inl ginv)), (hp, .inl (cI, 8, .inl f1)), (hq, .inl (cI, 8, .inl f2)), (hw16, .inl (cI, 16, .inl ghw16))] := hdy.sub [0, 1, 2, 3, 4] (by decide) rfl
    refine lv_if_ne (tgt := 40) hx hb zd_H_take_35 (by decide) (fun hc35 => ?_) (fun hc35 => ?_)
    · refine lv_aload_n hx hb zd_H_take_40 rfl (lv_at hl 0 rfl) ?_
      refine lv_aload_n hx hb zd_H_take_41 rfl (lv_at hl 0 rfl) ?_
      refine va_get (D := (dC, dI)) (ci := 2) (v := .ref pr) (C := zR_H) (T := zT_H) (N := 5) hx hb hts (fun w h => kz_c (zi_H w h)) hown hK (hro.ob hdy.2.2 (k := 0) rfl) 0 rfl rfl 0 (by decide) (hts _ (kz_c mw_69)) (fun _ h9 => h9) rfl zd_H_take_42 ?_
      refine kz_callv (wk := [(inv, .inl (cI, 8, .inl ginv)), (hp, .inl (cI, 8, .inl f1)), (hq, .inl (cI, 8, .inl f2))]) (va_runV (As := [.ref pr]) (rest := []) ⟨hx, hb, hml, hown, hts⟩ (c_Host_multiplyBoth l dC dI cI cAA cB cL hw16 pr h pr inv hp hq ghw16 gpr f1 f2 _) (cwV 1 hts (kz_g (kz_mc mw_199 (kz_mc mw_201 (kz_mc mw_2 (kz_mc mw_40 kz_mn)))) mw_202) rfl rfl rfl (by decide +kernel) ⟨Nat.le_of_ble_eq_true rfl, Nat.le_of_ble_eq_true rfl⟩) (kz_preVr hdy hA hK hro hZ hN [4, 0] (by decide) rfl [(true, 0), (false, 2), (false, 3)] rfl (by decide) [0, 1, 2, 3] rfl (fun _ h => by cases h) (fun _ h => by cases h) rfl (ci := 2) (q0 := 0) rfl rfl rfl) rfl rfl hl.1 rfl (lv_room (Nat.le_of_ble_eq_true rfl)) zd_H_take_45 ⟨Nat.le_of_ble_eq_true rfl, Nat.le_of_ble_eq_true rfl⟩) hdy hA [4, 0] [1, 2, 3] rfl rfl (by decide) (by decide) (fun u H locs hw hdy => ?_)
      obtain ⟨f5, f6⟩ := u
      have hdy : kz_dy (dC, dI) vwCl A s.heap H locs [(pr, .inl (cI, 8, .inl f6)), (inv, .inl (cI, 8, .inl ginv)), (hp, .inl (cI, 8, .inl f1)), (hq, .inl (cI, 8, .inl f2)), (hw16, .inl (cI, 16, .inl f5))] := hdy.sub [4, 0, 1, 2, 3] (by decide) rfl
      refine lv_aload_n hx hb zd_H_take_48 rfl (lv_at hl 0 rfl) ?_
      refine va_get (D := (dC, dI)) (ci := 2) (v := .ref hp) (C := zR_H) (T := zT_H) (N := 5) hx hb hts (fun w h => kz_c (zi_H w h)) hown hK (hro.ob hdy.2.2 (k := 0) rfl) 0 rfl rfl 2 (by decide) (hts _ (kz_c mw_73)) (fun _ h9 => h9) rfl zd_H_take_49 ?_
      refine lv_iconst (v := (nI (1))) hx hb zd_H_take_52 (by decide) ?_
      refine lv_aload_n hx hb zd_H_take_53 rfl (lv_at hl 0 rfl) ?_
      refine va_get (D := (dC, dI)) (ci := 2) (v := .ref hp) (C := zR_H) (T := zT_H) (N := 5) hx hb hts (fun w h => kz_c (zi_H w h)) hown hK (hro.ob hdy.2.2 (k := 0) rfl) 0 rfl rfl 2 (by decide) (hts _ (kz_c mw_73)) (fun _ h9 => h9) rfl zd_H_take_54 ?_
      refine kz_callv (wk := [(pr, .inl (cI, 8, .inl f6)), (inv, .inl (cI, 8, .inl ginv)), (hq, .inl (cI, 8, .inl f2)), (hw16, .inl (cI, 16, .inl f5))]) (va_runS (As := [.ref hp, .int (nI (1)), .ref hp]) (rest := []) ⟨hx, hb, hml, hown, hts⟩ (c_Words_subtract1 l dC dI cI cAA cB cL hp f1 ((nI (1))) _) (va_cwS 3 hts (kz_g (kz_mc mw_215 (kz_mc mw_186 (kz_mc mw_50 kz_mn))) mw_187) rfl rfl rfl (by decide +kernel) ⟨Nat.le_of_ble_eq_true rfl, Nat.le_of_ble_eq_true rfl⟩) (kz_preS hdy hA hK hro hZ hN [2] (by decide) rfl [] rfl (by decide) [0, 1, 2, 3] rfl (fun _ h => by cases h) (fun _ h => by cases h) rfl) rfl rfl hl.1 rfl (lv_room (Nat.le_of_ble_eq_true rfl)) zd_H_take_57 ⟨Nat.le_of_ble_eq_true rfl, Nat.le_of_ble_eq_true rfl⟩) hdy hA [2] [0, 1, 3, 4] rfl rfl (by decide) (by decide) (fun u H locs hw hdy => ?_)
      obtain ⟨f7, rfl⟩ : ∃ z, z = u := ⟨_, rfl⟩
      have hdy : kz_dy (dC, dI) vwCl A s.heap H locs [(pr, .inl (cI, 8, .inl f6)), (inv, .inl (cI, 8, .inl ginv)), (hp, .inl (cI, 8, .inl f7)), (hq, .inl (cI, 8, .inl f2)), (hw16, .inl (cI, 16, .inl f5))] := hdy.sub [0, 1, 4, 2, 3] (by decide) rfl
      refine lv_aload_n hx hb zd_H_take_60 rfl (lv_at hl 0 rfl) ?_
      refine va_get (D := (dC, dI)) (ci := 2) (v := .ref hq) (C := zR_H) (T := zT_H) (N := 5) hx hb hts (fun w h => kz_c (zi_H w h)) hown hK (hro.ob hdy.2.2 (k := 0) rfl) 0 rfl rfl 3 (by decide) (hts _ (kz_c mw_74)) (fun _ h9 => h9) rfl zd_H_take_61 ?_
      refine lv_iconst (v := (nI (1))) hx hb zd_H_take_64 (by decide) ?_
      refine lv_aload_n hx hb zd_H_take_65 rfl (lv_at hl 0 rfl) ?_
      refine va_get (D := (dC, dI)) (ci := 2) (v := .ref hq) (C := zR_H) (T := zT_H) (N := 5) hx hb hts (fun w h => kz_c (zi_H w h)) hown hK (hro.ob hdy.2.2 (k := 0) rfl) 0 rfl rfl 3 (by decide) (hts _ (kz_c mw_74)) (fun _ h9 => h9) rfl zd_H_take_66 ?_
      refine kz_callv (wk := [(pr, .inl (cI, 8, .inl f6)), (inv, .inl (cI, 8, .inl ginv)), (hp, .inl (cI, 8, .inl f7)), (hw16, .inl (cI, 16, .inl f5))]) (va_runS (As := [.ref hq, .int (nI (1)), .ref hq]) (rest := []) ⟨hx, hb, hml, hown, hts⟩ (c_Words_subtract1 l dC dI cI cAA cB cL hq f2 ((nI (1))) _) (va_cwS 3 hts (kz_g (kz_mc mw_215 (kz_mc mw_186 (kz_mc mw_50 kz_mn))) mw_187) rfl rfl rfl (by decide +kernel) ⟨Nat.le_of_ble_eq_true rfl, Nat.le_of_ble_eq_true rfl⟩) (kz_preS hdy hA hK hro hZ hN [3] (by decide) rfl [] rfl (by decide) [0, 1, 2, 3] rfl (fun _ h => by cases h) (fun _ h => by cases h) rfl) rfl rfl hl.1 rfl (lv_room (Nat.le_of_ble_eq_true rfl)) zd_H_take_69 ⟨Nat.le_of_ble_eq_true rfl, Nat.le_of_ble_eq_true rfl⟩) hdy hA [3] [0, 1, 2, 4] rfl rfl (by decide) (by decide) (fun u H locs hw hdy => ?_)
      obtain ⟨f8, rfl⟩ : ∃ z, z = u := ⟨_, rfl⟩
      have hdy : kz_dy (dC, dI) vwCl A s.heap H locs [(pr, .inl (cI, 8, .inl f6)), (inv, .inl (cI, 8, .inl ginv)), (hp, .inl (cI, 8, .inl f7)), (hq, .inl (cI, 8, .inl f8)), (hw16, .inl (cI, 16, .inl f5))] := hdy.sub [0, 1, 2, 4, 3] (by decide) rfl
      refine lv_aload_n hx hb zd_H_take_72 rfl (lv_at hl 0 rfl) ?_
      refine lv_aload_n hx hb zd_H_take_73 rfl (lv_at hl 0 rfl) ?_
      refine va_get (D := (dC, dI)) (ci := 2) (v := .ref inv) (C := zR_H) (T := zT_H) (N := 5) hx hb hts (fun w h => kz_c (zi_H w h)) hown hK (hro.ob hdy.2.2 (k := 0) rfl) 0 rfl rfl 1 (by decide) (hts _ (kz_c mw_71)) (fun _ h9 => h9) rfl zd_H_take_74 ?_
      refine kz_callv (wk := [(pr, .inl (cI, 8, .inl f6)), (hp, .inl (cI, 8, .inl f7)), (hq, .inl (cI, 8, .inl f8))]) (va_runV (As := [.ref inv]) (rest := []) ⟨hx, hb, hml, hown, hts⟩ (c_Host_multiplyBoth l dC dI cI cAA cB cL hw16 inv h pr inv hp hq f5 ginv f7 f8 _) (cwV 1 hts (kz_g (kz_mc mw_199 (kz_mc mw_201 (kz_mc mw_2 (kz_mc mw_40 kz_mn)))) mw_202) rfl rfl rfl (by decide +kernel) ⟨Nat.le_of_ble_eq_true rfl, Nat.le_of_ble_eq_true rfl⟩) (kz_preVr hdy hA hK hro hZ hN [4, 1] (by decide) rfl [(true, 0), (false, 2), (false, 3)] rfl (by decide) [0, 1, 2, 3] rfl (fun _ h => by cases h) (fun _ h => by cases h) rfl (ci := 2) (q0 := 0) rfl rfl rfl) rfl rfl hl.1 rfl (lv_room (Nat.le_of_ble_eq_true rfl)) zd_H_take_77 ⟨Nat.le_of_ble_eq_true rfl, Nat.le_of_ble_eq_true rfl⟩) hdy hA [4, 1] [0, 2, 3] rfl rfl (by decide) (by decide) (fun u H locs hw hdy => ?_)
      obtain ⟨f9, f10⟩ := u
      have hdy : kz_dy (dC, dI) vwCl A s.heap H locs [(pr, .inl (cI, 8, .inl f6)), (inv, .inl (cI, 8, .inl f10)), (hp, .inl (cI, 8, .inl f7)), (hq, .inl (cI, 8, .inl f8)), (hw16, .inl (cI, 16, .inl f9))] := hdy.sub [0, 4, 1, 2, 3] (by decide) rfl
      refine lv_aload_n hx hb zd_H_take_80 rfl (lv_at hl 0 rfl) ?_
      refine kz_calli (wk := [(pr, .inl (cI, 8, .inl f6)), (hp, .inl (cI, 8, .inl f7)), (hq, .inl (cI, 8, .inl f8)), (hw16, .inl (cI, 16, .inl f9))]) (va_runV (As := []) (rest := []) ⟨hx, hb, hml, hown, hts⟩ (c_Host_invert l dC dI cI cAA cB cL inv h pr hp hq hw16 f10 _) (cwV 0 hts (kz_g (kz_mc mw_216 (kz_mc mw_218 (kz_mc mw_3 (kz_mc mw_40 kz_mn)))) mw_219) rfl rfl rfl (by decide +kernel) ⟨Nat.le_of_ble_eq_true rfl, Nat.le_of_ble_eq_true rfl⟩) (kz_preVr hdy hA hK hro hZ hN [1] (by decide) rfl [(true, 0)] rfl (by decide) [0, 1, 2, 3] rfl (fun _ h => by cases h) (fun _ h => by cases h) rfl (ci := 2) (q0 := 0) rfl rfl rfl) rfl rfl hl.1 rfl (lv_room (Nat.le_of_ble_eq_true rfl)) zd_H_take_81 ⟨Nat.le_of_ble_eq_true rfl, Nat.le_of_ble_eq_true rfl⟩) hdy hA [1] [0, 2, 3, 4] rfl rfl (by decide) (by decide) (fun r u H locs hw hdy => ?_)
      obtain ⟨r12, rfl⟩ : ∃ z, z = r := ⟨_, rfl⟩
      obtain ⟨f11, rfl⟩ : ∃ z, z = u := ⟨_, rfl⟩
      try dsimp only at hw
      obtain ⟨hzr12, -⟩ := hw
      have hdy : kz_dy (dC, dI) vwCl A s.heap H locs [(pr, .inl (cI, 8, .inl f6)), (inv, .inl (cI, 8, .inl f11)), (hp, .inl (cI, 8, .inl f7)), (hq, .inl (cI, 8, .inl f8)), (hw16, .inl (cI, 16, .inl f9))] := hdy.sub [0, 4, 1, 2, 3] (by decide) rfl
      exact kz_zret F (f6, f11, f7, f8, f9) hdy (by first | exact Or.inl rfl | exact Or.inr rfl | assumption) (⟨by first | exact Or.inl rfl | exact Or.inr rfl | assumption, trivial⟩) zd_H_take_84
    · refine lv_iconst (v := (nI (0))) hx hb zd_H_take_38 (by decide) ?_
      exact kz_zret F (gpr, ginv, f1, f2, ghw16) hdy (by first | exact Or.inl rfl | exact Or.inr rfl | assumption) (⟨by first | exact Or.inl rfl | exact Or.inr rfl | assumption, trivial⟩) zd_H_take_39

