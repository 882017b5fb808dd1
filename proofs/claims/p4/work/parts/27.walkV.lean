set_option maxHeartbeats 4000000 in
set_option maxRecDepth 100000 in
/-- KeyMeetingModel.figures([II[I)V -/
theorem c_V_figures56 (l : Launch) (dC : Nat → ClassId) (dI : Nat → Nat → Nat) (cI cAA cB cL : ClassId) (o a : Nat) (go : Nat → Int32) (ga : Nat → Int32) (fr : Nat) (sz : Nat) (hfr : fr + 7 < 56) : Met l zy_N_figures zw_N_figures { frames := 0, cells := 0, slots := 0, locals := 0 } (kz_Pc (dC, dI) vwCl [(cI, .int), (cAA, .array .int), (cB, .byte), (cL, .long)] [] [] [.ref a, .int (nI (fr)), .ref o] [(o, .inl (cI, 16, .inl go))] [(a, .inl (cI, 56, .inl ga))] sz) (va_Qv (fun _ => True) (kz_B (dC, dI) vwCl (va_A [(o, .inl (cI, 16, .inl go))] sz) (fun u : (Nat → Int32) => [(o, .inl (cI, 16, .inl u))])) (va_A [(o, .inl (cI, 16, .inl go))] sz)) 0 0 (va_A [(o, .inl (cI, 16, .inl go))] sz) := by
  refine kz_met (y := zy_N_figures) (ws := zw_N_figures) (av := [.ref a, .int (nI (fr)), .ref o]) (sz := sz) (Qc := fun A => va_Qv (fun _ => True) (kz_B (dC, dI) vwCl A (fun u : (Nat → Int32) => [(o, .inl (cI, 16, .inl u))])) A) (cc := zc_N_figures) (maxL := 5) (ret := none) (by decide) rfl (Nat.le_of_ble_eq_true rfl) ?_
  intro p e s m below meth c A ls F hA hdy hK hro hZ hN hl
  obtain ⟨hx, hb, hml, hr, hown, hlocks, hts, hnm⟩ := id F
  have hl : lv_has ls 5 [(0, .ref a), (1, .int (nI (fr))), (2, .ref o)] := hl
  refine lv_iconst (v := (nI (0))) hx hb zd_N_figures_0 (by decide) ?_
  refine lv_istore_n (lv' := [(3, .int (nI (0))), (0, .ref a), (1, .int (nI (fr))), (2, .ref o)]) hx hb zd_N_figures_1 rfl hl (by decide) rfl (fun ls hl => ?_)
  have lp2 : ∀ (n2 k2 : Nat) (f1 : Nat → Int32) (H : Heap) (locs : List Loc) (ls : Array Slot), k2 ≤ 16 → 16 - k2 < n2 → kz_dy (dC, dI) vwCl A s.heap H locs [(o, .inl (cI, 16, .inl f1))] → lv_has ls 5 [(3, .int (nI (k2))), (0, .ref a), (1, .int (nI (fr))), (2, .ref o)] → W p l e { frames := 0, cells := 0, slots := 0, locals := 0 } s m ([.ref a, .int (nI (fr)), .ref o] : List Value).toArray below meth c H locs 0 0 (MQ below (va_Qv (fun _ => True) (kz_B (dC, dI) vwCl A (fun u : (Nat → Int32) => [(o, .inl (cI, 16, .inl u))])) A) ([.ref a, .int (nI (fr)), .ref o] : List Value).toArray s 0 0 A) (F0 m 2 ls []) := by
    intro n2
    induction n2 with
    | zero => intro k2; intros; omega
    | succ n2 ih2 =>
      intro k2 f1 H locs ls hi2 hn2 hdy hl
      refine lv_iload_n hx hb zd_N_figures_2 rfl (lv_at hl 0 rfl) ?_
      refine lv_bipush (v := (nI (16))) hx hb zd_N_figures_3 (by decide) ?_
      refine lv_icmp_ge (tgt := 48) hx hb zd_N_figures_5 (by decide) (fun hc5 => ?_) (fun hc5 => ?_)
      · have hc5 : 16 ≤ k2 := (nI_leI (by omega) (by omega)).mp hc5
        exact kz_vret F (f1) hdy (trivial) zd_N_figures_48
      · have hc5 : ¬ 16 ≤ k2 := fun h9 => hc5 ((nI_leI (by omega) (by omega)).mpr h9)
        refine lv_aload_n hx hb zd_N_figures_8 rfl (lv_at hl 1 rfl) ?_
        refine lv_iload_n hx hb zd_N_figures_9 rfl (lv_at hl 2 rfl) ?_
        refine lv_bipush (v := (nI (7))) hx hb zd_N_figures_10 (by decide) ?_
        refine kz_iadd hx hb zd_N_figures_12 (nI_add _ _) ?_
        refine lv_iload_n hx hb zd_N_figures_13 rfl (lv_at hl 0 rfl) ?_
        refine lv_iconst (v := (nI (2))) hx hb zd_N_figures_14 (by decide) ?_
        refine kz_idiv hx hb zd_N_figures_15 (by decide) (pk_div (by omega) (by omega) (by omega)) ?_
        refine kz_isub hx hb zd_N_figures_16 (pk_sub (by omega)) ?_
        refine kz_riald hx hb hK hro hdy.2.2 0 0 rfl rfl (vp_in_nI (by omega) (by omega)) zd_N_figures_17 ?_
        refine lv_topi (fun x2 _ => ?_)
        refine lv_istore (lv' := [(4, .int x2), (3, .int (nI (k2))), (0, .ref a), (1, .int (nI (fr))), (2, .ref o)]) hx hb zd_N_figures_18 hl (by decide) rfl (fun ls hl => ?_)
        refine lv_aload_n hx hb zd_N_figures_20 rfl (lv_at hl 4 rfl) ?_
        refine lv_iload_n hx hb zd_N_figures_21 rfl (lv_at hl 1 rfl) ?_
        refine lv_iload_n hx hb zd_N_figures_22 rfl (lv_at hl 1 rfl) ?_
        refine lv_iconst (v := (nI (2))) hx hb zd_N_figures_23 (by decide) ?_
        refine kz_irem hx hb zd_N_figures_24 (by decide) (pk_rem (by omega) (by omega) (by omega)) ?_
        refine lv_if_ne (tgt := 36) hx hb zd_N_figures_25 (by decide) (fun hc25 => ?_) (fun hc25 => ?_)
        · have hc25 : ¬ (k2 % 2) = 0 := fun h9 => hc25 (by have h8 := (nI_eq (by omega) (by omega)).mpr h9; rw [nI_0] at h8; exact h8)
          refine lv_iload hx hb zd_N_figures_36 (lv_at hl 0 rfl) ?_
          refine lv_bipush (v := (nI (16))) hx hb zd_N_figures_38 (by decide) ?_
          refine lv_iushr hx hb zd_N_figures_40 rfl ?_
          refine lv_topi (fun x3 _ => ?_)
          refine va_iast hx hb hK hdy.1 hdy.2.1 hdy.2.2 0 0 rfl rfl (vp_in_nI (by omega) (by omega)) zd_N_figures_41 (fun H locs hP hD hS => ?_)
          obtain ⟨f4, hdy⟩ : ∃ f4 : Nat → Int32, kz_dy (dC, dI) vwCl A s.heap H locs [(o, .inl (cI, 16, .inl f4))] := ⟨_, hP, hD, hS⟩
          refine lv_iinc (v := (nI (k2 + 1))) (lv' := [(3, .int (nI (k2 + 1))), (4, .int x2), (0, .ref a), (1, .int (nI (fr))), (2, .ref o)]) hx hb zd_N_figures_42 hl (k := 1) rfl (nI_1 _) (by decide) rfl (fun ls hl => ?_)
          refine lv_goto (tgt := 2) hx hb zd_N_figures_45 (by decide) ?_
          exact ih2 (k2 + 1) f4 _ _ _ (by omega) (by omega) hdy (lv_sub hl [0, 2, 3, 4] rfl)
        · have hc25 : (k2 % 2) = 0 := (nI_eq (by omega) (by omega)).mp (by rw [nI_0]; exact hc25)
          refine lv_iload hx hb zd_N_figures_28 (lv_at hl 0 rfl) ?_
          refine lv_ldc (v := (65535)) hx hb hown (hts _ (kz_c mw_693)) zd_N_figures_30 ?_
          refine lv_iand hx hb zd_N_figures_32 ?_
          refine lv_topi (fun x5 _ => ?_)
          refine lv_goto (tgt := 41) hx hb zd_N_figures_33 (by decide) ?_
          refine va_iast hx hb hK hdy.1 hdy.2.1 hdy.2.2 0 0 rfl rfl (vp_in_nI (by omega) (by omega)) zd_N_figures_41 (fun H locs hP hD hS => ?_)
          obtain ⟨f6, hdy⟩ : ∃ f6 : Nat → Int32, kz_dy (dC, dI) vwCl A s.heap H locs [(o, .inl (cI, 16, .inl f6))] := ⟨_, hP, hD, hS⟩
          refine lv_iinc (v := (nI (k2 + 1))) (lv' := [(3, .int (nI (k2 + 1))), (4, .int x2), (0, .ref a), (1, .int (nI (fr))), (2, .ref o)]) hx hb zd_N_figures_42 hl (k := 1) rfl (nI_1 _) (by decide) rfl (fun ls hl => ?_)
          refine lv_goto (tgt := 2) hx hb zd_N_figures_45 (by decide) ?_
          exact ih2 (k2 + 1) f6 _ _ _ (by omega) (by omega) hdy (lv_sub hl [0, 2, 3, 4] rfl)
  exact lp2 (16 - 0 + 1) 0 go _ _ _ (by omega) (by omega) hdy (lv_sub hl [0, 1, 2, 3] rfl)

set_option maxHeartbeats 4000000 in
set_option maxRecDepth 100000 in
/-- KeyMeetingModel.figures([II[I)V -/
theorem c_V_figures32 (l : Launch) (dC : Nat → ClassId) (dI : Nat → Nat → Nat) (cI cAA cB cL : ClassId) (o a : Nat) (go : Nat → Int32) (ga : Nat → Int32) (fr : Nat) (sz : Nat) (hfr : fr + 7 < 32) : Met l zy_N_figures zw_N_figures { frames := 0, cells := 0, slots := 0, locals := 0 } (kz_Pc (dC, dI) vwCl [(cI, .int), (cAA, .array .int), (cB, .byte), (cL, .long)] [] [] [.ref a, .int (nI (fr)), .ref o] [(o, .inl (cI, 16, .inl go))] [(a, .inl (cI, 32, .inl ga))] sz) (va_Qv (fun _ => True) (kz_B (dC, dI) vwCl (va_A [(o, .inl (cI, 16, .inl go))] sz) (fun u : (Nat → Int32) => [(o, .inl (cI, 16, .inl u))])) (va_A [(o, .inl (cI, 16, .inl go))] sz)) 0 0 (va_A [(o, .inl (cI, 16, .inl go))] sz) := by
  refine kz_met (y := zy_N_figures) (ws := zw_N_figures) (av := [.ref a, .int (nI (fr)), .ref o]) (sz := sz) (Qc := fun A => va_Qv (fun _ => True) (kz_B (dC, dI) vwCl A (fun u : (Nat → Int32) => [(o, .inl (cI, 16, .inl u))])) A) (cc := zc_N_figures) (maxL := 5) (ret := none) (by decide) rfl (Nat.le_of_ble_eq_true rfl) ?_
  intro p e s m below meth c A ls F hA hdy hK hro hZ hN hl
  obtain ⟨hx, hb, hml, hr, hown, hlocks, hts, hnm⟩ := id F
  have hl : lv_has ls 5 [(0, .ref a), (1, .int (nI (fr))), (2, .ref o)] := hl
  refine lv_iconst (v := (nI (0))) hx hb zd_N_figures_0 (by decide) ?_
  refine lv_istore_n (lv' := [(3, .int (nI (0))), (0, .ref a), (1, .int (nI (fr))), (2, .ref o)]) hx hb zd_N_figures_1 rfl hl (by decide) rfl (fun ls hl => ?_)
  have lp2 : ∀ (n2 k2 : Nat) (f1 : Nat → Int32) (H : Heap) (locs : List Loc) (ls : Array Slot), k2 ≤ 16 → 16 - k2 < n2 → kz_dy (dC, dI) vwCl A s.heap H locs [(o, .inl (cI, 16, .inl f1))] → lv_has ls 5 [(3, .int (nI (k2))), (0, .ref a), (1, .int (nI (fr))), (2, .ref o)] → W p l e { frames := 0, cells := 0, slots := 0, locals := 0 } s m ([.ref a, .int (nI (fr)), .ref o] : List Value).toArray below meth c H locs 0 0 (MQ below (va_Qv (fun _ => True) (kz_B (dC, dI) vwCl A (fun u : (Nat → Int32) => [(o, .inl (cI, 16, .inl u))])) A) ([.ref a, .int (nI (fr)), .ref o] : List Value).toArray s 0 0 A) (F0 m 2 ls []) := by
    intro n2
    induction n2 with
    | zero => intro k2; intros; omega
    | succ n2 ih2 =>
      intro k2 f1 H locs ls hi2 hn2 hdy hl
      refine lv_iload_n hx hb zd_N_figures_2 rfl (lv_at hl 0 rfl) ?_
      refine lv_bipush (v := (nI (16))) hx hb zd_N_figures_3 (by decide) ?_
      refine lv_icmp_ge (tgt := 48) hx hb zd_N_figures_5 (by decide) (fun hc5 => ?_) (fun hc5 => ?_)
      · have hc5 : 16 ≤ k2 := (nI_leI (by omega) (by omega)).mp hc5
        exact kz_vret F (f1) hdy (trivial) zd_N_figures_48
      · have hc5 : ¬ 16 ≤ k2 := fun h9 => hc5 ((nI_leI (by omega) (by omega)).mpr h9)
        refine lv_aload_n hx hb zd_N_figures_8 rfl (lv_at hl 1 rfl) ?_
        refine lv_iload_n hx hb zd_N_figures_9 rfl (lv_at hl 2 rfl) ?_
        refine lv_bipush (v := (nI (7))) hx hb zd_N_figures_10 (by decide) ?_
        refine kz_iadd hx hb zd_N_figures_12 (nI_add _ _) ?_
        refine lv_iload_n hx hb zd_N_figures_13 rfl (lv_at hl 0 rfl) ?_
        refine lv_iconst (v := (nI (2))) hx hb zd_N_figures_14 (by decide) ?_
        refine kz_idiv hx hb zd_N_figures_15 (by decide) (pk_div (by omega) (by omega) (by omega)) ?_
        refine kz_isub hx hb zd_N_figures_16 (pk_sub (by omega)) ?_
        refine kz_riald hx hb hK hro hdy.2.2 0 0 rfl rfl (vp_in_nI (by omega) (by omega)) zd_N_figures_17 ?_
        refine lv_topi (fun x2 _ => ?_)
        refine lv_istore (lv' := [(4, .int x2), (3, .int (nI (k2))), (0, .ref a), (1, .int (nI (fr))), (2, .ref o)]) hx hb zd_N_figures_18 hl (by decide) rfl (fun ls hl => ?_)
        refine lv_aload_n hx hb zd_N_figures_20 rfl (lv_at hl 4 rfl) ?_
        refine lv_iload_n hx hb zd_N_figures_21 rfl (lv_at hl 1 rfl) ?_
        refine lv_iload_n hx hb zd_N_figures_22 rfl (lv_at hl 1 rfl) ?_
        refine lv_iconst (v := (nI (2))) hx hb zd_N_figures_23 (by decide) ?_
        refine kz_irem hx hb zd_N_figures_24 (by decide) (pk_rem (by omega) (by omega) (by omega)) ?_
        refine lv_if_ne (tgt := 36) hx hb zd_N_figures_25 (by decide) (fun hc25 => ?_) (fun hc25 => ?_)
        · have hc25 : ¬ (k2 % 2) = 0 := fun h9 => hc25 (by have h8 := (nI_eq (by omega) (by omega)).mpr h9; rw [nI_0] at h8; exact h8)
          refine lv_iload hx hb zd_N_figures_36 (lv_at hl 0 rfl) ?_
          refine lv_bipush (v := (nI (16))) hx hb zd_N_figures_38 (by decide) ?_
          refine lv_iushr hx hb zd_N_figures_40 rfl ?_
          refine lv_topi (fun x3 _ => ?_)
          refine va_iast hx hb hK hdy.1 hdy.2.1 hdy.2.2 0 0 rfl rfl (vp_in_nI (by omega) (by omega)) zd_N_figures_41 (fun H locs hP hD hS => ?_)
          obtain ⟨f4, hdy⟩ : ∃ f4 : Nat → Int32, kz_dy (dC, dI) vwCl A s.heap H locs [(o, .inl (cI, 16, .inl f4))] := ⟨_, hP, hD, hS⟩
          refine lv_iinc (v := (nI (k2 + 1))) (lv' := [(3, .int (nI (k2 + 1))), (4, .int x2), (0, .ref a), (1, .int (nI (fr))), (2, .ref o)]) hx hb zd_N_figures_42 hl (k := 1) rfl (nI_1 _) (by decide) rfl (fun ls hl => ?_)
          refine lv_goto (tgt := 2) hx hb zd_N_figures_45 (by decide) ?_
          exact ih2 (k2 + 1) f4 _ _ _ (by omega) (by omega) hdy (lv_sub hl [0, 2, 3, 4] rfl)
        · have hc25 : (k2 % 2) = 0 := (nI_eq (by omega) (by omega)).mp (by rw [nI_0]; exact hc25)
          refine lv_iload hx hb zd_N_figures_28 (lv_at hl 0 rfl) ?_
          refine lv_ldc (v := (65535)) hx hb hown (hts _ (kz_c mw_693)) zd_N_figures_30 ?_
          refine lv_iand hx hb zd_N_figures_32 ?_
          refine lv_topi (fun x5 _ => ?_)
          refine lv_goto (tgt := 41) hx hb zd_N_figures_33 (by decide) ?_
          refine va_iast hx hb hK hdy.1 hdy.2.1 hdy.2.2 0 0 rfl rfl (vp_in_nI (by omega) (by omega)) zd_N_figures_41 (fun H locs hP hD hS => ?_)
          obtain ⟨f6, hdy⟩ : ∃ f6 : Nat → Int32, kz_dy (dC, dI) vwCl A s.heap H locs [(o, .inl (cI, 16, .inl f6))] := ⟨_, hP, hD, hS⟩
          refine lv_iinc (v := (nI (k2 + 1))) (lv' := [(3, .int (nI (k2 + 1))), (4, .int x2), (0, .ref a), (1, .int (nI (fr))), (2, .ref o)]) hx hb zd_N_figures_42 hl (k := 1) rfl (nI_1 _) (by decide) rfl (fun ls hl => ?_)
          refine lv_goto (tgt := 2) hx hb zd_N_figures_45 (by decide) ?_
          exact ih2 (k2 + 1) f6 _ _ _ (by omega) (by omega) hdy (lv_sub hl [0, 2, 3, 4] rfl)
  exact lp2 (16 - 0 + 1) 0 go _ _ _ (by omega) (by omega) hdy (lv_sub hl [0, 1, 2, 3] rfl)

set_option maxHeartbeats 4000000 in
set_option maxRecDepth 100000 in
/-- KeyMeetingModel.raise()V -/
theorem c_V_raise (l : Launch) (dC : Nat → ClassId) (dI : Nat → Nat → Nat) (cI cAA cB cL : ClassId) (mx me mr o mt mn ml mc mh mk mp mm mb mw mP mQ ms mo mW mD mB mR mS : Nat) (gmx : Nat → Nat) (gme : Nat → Nat) (gmr : Nat → Nat) (th : Int32) (sta : Int32) (hs : Int32) (sz_ : Nat) (gmm : Nat → Nat) (gmw : Nat → Int32) (gmb : Nat → Nat) (sz : Nat) (hd_gmx : ∀ j, gmx j < 65536) (hd_gme : ∀ j, gme j < 65536) (hd_gmr : ∀ j, gmr j < 65536) (hd_gmm : ∀ j, gmm j < 65536) (hd_gmb : ∀ j, gmb j < 65536) (hnz : kv_some gmm 0 16) : Met l zy_N_raise zw_N_raise { frames := 2, cells := 0, slots := 0, locals := 55 } (kz_Pc (dC, dI) vwCl [(cI, .int), (cAA, .array .int), (cB, .byte), (cL, .long)] [] [] [.ref o] [(mx, .inl (cI, 32, .inl (kz_dg gmx))), (me, .inl (cI, 18, .inl (kz_dg gme))), (mr, .inl (cI, 16, .inl (kz_dg gmr)))] [(o, .inr (4, [.int th, .int sta, .ref mt, .ref mn, .ref ml, .ref mc, .ref mh, .ref mk, .ref mp, .ref mm, .ref mb, .ref mw, .ref mr, .ref mx, .ref me, .ref mP, .ref mQ, .ref ms, .int hs, .int (nI (sz_)), .ref mo, .ref mW, .ref mD, .ref mB, .ref mR, .ref mS])), (mm, .inl (cI, 16, .inl (kz_dg gmm))), (mw, .inl (cI, 16, .inl gmw)), (mb, .inl (cI, 16, .inl (kz_dg gmb)))] sz) (va_Qv (fun (u : (Nat → Nat) × (Nat → Nat) × (Nat → Nat)) => (∀ j, u.1 j < 65536) ∧ (∀ j, u.2.1 j < 65536) ∧ (∀ j, u.2.2 j < 65536) ∧ True) (kz_B (dC, dI) vwCl (va_A [(mx, .inl (cI, 32, .inl (kz_dg gmx))), (me, .inl (cI, 18, .inl (kz_dg gme))), (mr, .inl (cI, 16, .inl (kz_dg gmr)))] sz) (fun u : (Nat → Nat) × (Nat → Nat) × (Nat → Nat) => [(mx, .inl (cI, 32, .inl (kz_dg u.1))), (me, .inl (cI, 18, .inl (kz_dg u.2.1))), (mr, .inl (cI, 16, .inl (kz_dg u.2.2)))])) (va_A [(mx, .inl (cI, 32, .inl (kz_dg gmx))), (me, .inl (cI, 18, .inl (kz_dg gme))), (mr, .inl (cI, 16, .inl (kz_dg gmr)))] sz)) 0 0 (va_A [(mx, .inl (cI, 32, .inl (kz_dg gmx))), (me, .inl (cI, 18, .inl (kz_dg gme))), (mr, .inl (cI, 16, .inl (kz_dg gmr)))] sz) := by
  refine kz_met (y := zy_N_raise) (ws := zw_N_raise) (av := [.ref o]) (sz := sz) (Qc := fun A => va_Qv (fun (u : (Nat → Nat) × (Nat → Nat) × (Nat → Nat)) => (∀ j, u.1 j < 65536) ∧ (∀ j, u.2.1 j < 65536) ∧ (∀ j, u.2.2 j < 65536) ∧ True) (kz_B (dC, dI) vwCl A (fun u : (Nat → Nat) × (Nat → Nat) × (Nat → Nat) => [(mx, .inl (cI, 32, .inl (kz_dg u.1))), (me, .inl (cI, 18, .inl (kz_dg u.2.1))), (mr, .inl (cI, 16, .inl (kz_dg u.2.2)))])) A) (cc := zc_N_raise) (maxL := 2) (ret := none) (by decide) rfl (Nat.le_of_ble_eq_true rfl) ?_
  intro p e s m below meth c A ls F hA hdy hK hro hZ hN hl
  obtain ⟨hx, hb, hml, hr, hown, hlocks, hts, hnm⟩ := id F
  have hl : lv_has ls 2 [(0, .ref o)] := hl
  refine lv_iconst (v := (nI (0))) hx hb zd_N_raise_0 (by decide) ?_
  refine lv_istore_n (lv' := [(1, .int (nI (0))), (0, .ref o)]) hx hb zd_N_raise_1 rfl hl (by decide) rfl (fun ls hl => ?_)
  have lp2 : ∀ (n2 k2 : Nat) (d1 : Nat → Nat) (d2 : Nat → Nat) (d3 : Nat → Nat) (H : Heap) (locs : List Loc) (ls : Array Slot), k2 ≤ 32 → 32 - k2 < n2 → (∀ j, d1 j < 65536) → (∀ j, d2 j < 65536) → (∀ j, d3 j < 65536) → kz_dy (dC, dI) vwCl A s.heap H locs [(mx, .inl (cI, 32, .inl (kz_dg d1))), (me, .inl (cI, 18, .inl (kz_dg d2))), (mr, .inl (cI, 16, .inl (kz_dg d3)))] → lv_has ls 2 [(1, .int (nI (k2))), (0, .ref o)] → W p l e { frames := 2, cells := 0, slots := 0, locals := 55 } s m ([.ref o] : List Value).toArray below meth c H locs 0 0 (MQ below (va_Qv (fun (u : (Nat → Nat) × (Nat → Nat) × (Nat → Nat)) => (∀ j, u.1 j < 65536) ∧ (∀ j, u.2.1 j < 65536) ∧ (∀ j, u.2.2 j < 65536) ∧ True) (kz_B (dC, dI) vwCl A (fun u : (Nat → Nat) × (Nat → Nat) × (Nat → Nat) => [(mx, .inl (cI, 32, .inl (kz_dg u.1))), (me, .inl (cI, 18, .inl (kz_dg u.2.1))), (mr, .inl (cI, 16, .inl (kz_dg u.2.2)))])) A) ([.ref o] : List Value).toArray s 0 0 A) (F0 m 2 ls []) := by
    intro n2
    induction n2 with
    | zero => intro k2; intros; omega
    | succ n2 ih2 =>
      intro k2 d1 d2 d3 H locs ls hi2 hn2 hd_d1 hd_d2 hd_d3 hdy hl
      refine lv_iload_n hx hb zd_N_raise_2 rfl (lv_at hl 0 rfl) ?_
      refine lv_bipush (v := (nI (32))) hx hb zd_N_raise_3 (by decide) ?_
      refine lv_icmp_ge (tgt := 29) hx hb zd_N_raise_5 (by decide) (fun hc5 => ?_) (fun hc5 => ?_)
      · have hc5 : 32 ≤ k2 := (nI_leI (by omega) (by omega)).mp hc5
        refine lv_aload_n hx hb zd_N_raise_29 rfl (lv_at hl 1 rfl) ?_
        refine lv_aload_n hx hb zd_N_raise_30 rfl (lv_at hl 1 rfl) ?_
        refine va_get (D := (dC, dI)) (ci := 4) (v := .ref mr) (C := zR_N) (T := zT_N) (N := 26) hx hb hts (fun w h => kz_c (zi_N w h)) hown hK (hro.ob hdy.2.2 (k := 0) rfl) 0 rfl rfl 12 (by decide) (hts _ (kz_c mw_603)) (fun _ h9 => h9) rfl zd_N_raise_31 ?_
        refine kz_callv (wk := [(mx, .inl (cI, 32, .inl (kz_dg d1)))]) (va_runV (As := [.ref mr]) (rest := []) ⟨hx, hb, hml, hown, hts⟩ (c_Z_remain l dC dI cI cAA cB cL me mr o mt mn ml mc mh mk mp mm mb mw mr mx mP mQ ms mo mW mD mB mR mS d2 d3 (th) (sta) (hs) sz_ gmm d1 _ hd_d2 hd_d3 hd_gmm hd_d1 (by first | omega | assumption)) (cwV 1 hts (kz_g (kz_mc mw_729 (kz_mc mw_731 (kz_mc mw_27 (kz_mc mw_43 kz_mn)))) mw_732) rfl rfl rfl (by decide +kernel) ⟨Nat.le_of_ble_eq_true rfl, Nat.le_of_ble_eq_true rfl⟩) (kz_preVr hdy hA hK hro hZ hN [1, 2] (by decide) rfl [(true, 0), (true, 1), (false, 0)] rfl (by decide) [0, 1, 2, 3] rfl (fun _ h => by cases h) (fun _ h => by cases h) rfl (ci := 4) (q0 := 0) rfl rfl rfl) rfl rfl hl.1 rfl (lv_room (Nat.le_of_ble_eq_true rfl)) zd_N_raise_34 ⟨Nat.le_of_ble_eq_true rfl, Nat.le_of_ble_eq_true rfl⟩) hdy hA [1, 2] [0] rfl rfl (by decide) (by decide) (fun u H locs hw hdy => ?_)
        obtain ⟨d4, d5⟩ := u
        try dsimp only at hw
        obtain ⟨hd_d4, hd_d5, -⟩ := hw
        have hdy : kz_dy (dC, dI) vwCl A s.heap H locs [(mx, .inl (cI, 32, .inl (kz_dg d1))), (me, .inl (cI, 18, .inl (kz_dg d4))), (mr, .inl (cI, 16, .inl (kz_dg d5)))] := hdy.sub [0, 1, 2] (by decide) rfl
        refine lv_sipush (v := (nI (255))) hx hb zd_N_raise_37 (by decide) ?_
        refine lv_istore_n (lv' := [(1, .int (nI (255))), (0, .ref o)]) hx hb zd_N_raise_40 rfl hl (by decide) rfl (fun ls hl => ?_)
        have lp41 : ∀ (n41 k41 : Nat) (d6 : Nat → Nat) (d7 : Nat → Nat) (d8 : Nat → Nat) (H : Heap) (locs : List Loc) (ls : Array Slot), k41 ≤ 256 → k41 < n41 → (∀ j, d6 j < 65536) → (∀ j, d7 j < 65536) → (∀ j, d8 j < 65536) → kz_dy (dC, dI) vwCl A s.heap H locs [(mx, .inl (cI, 32, .inl (kz_dg d6))), (me, .inl (cI, 18, .inl (kz_dg d7))), (mr, .inl (cI, 16, .inl (kz_dg d8)))] → lv_has ls 2 [(1, .int (nI (k41) - 1)), (0, .ref o)] → W p l e { frames := 2, cells := 0, slots := 0, locals := 55 } s m ([.ref o] : List Value).toArray below meth c H locs 0 0 (MQ below (va_Qv (fun (u : (Nat → Nat) × (Nat → Nat) × (Nat → Nat)) => (∀ j, u.1 j < 65536) ∧ (∀ j, u.2.1 j < 65536) ∧ (∀ j, u.2.2 j < 65536) ∧ True) (kz_B (dC, dI) vwCl A (fun u : (Nat → Nat) × (Nat → Nat) × (Nat → Nat) => [(mx, .inl (cI, 32, .inl (kz_dg u.1))), (me, .inl (cI, 18, .inl (kz_dg u.2.1))), (mr, .inl (cI, 16, .inl (kz_dg u.2.2)))])) A) ([.ref o] : List Value).toArray s 0 0 A) (F0 m 41 ls []) := by
          intro n41
          induction n41 with
          | zero => intro k41 d6 d7 d8 H locs ls hi41 hn41; exact absurd hn41 (Nat.not_lt_zero _)
          | succ n41 ih41 =>
            intro k41 d6 d7 d8 H locs ls hi41 hn41 hd_d6 hd_d7 hd_d8 hdy hl
            refine lv_iload_n hx hb zd_N_raise_41 rfl (lv_at hl 0 rfl) ?_
            refine lv_if_lt (tgt := 111) hx hb zd_N_raise_42 (by decide) (fun hc42 => ?_) (fun hc42 => ?_)
            · have hc42 : k41 = 0 := (kz_neg (by omega)).mp hc42
              exact kz_vret F (d6, d7, d8) hdy (⟨hd_d6, hd_d7, hd_d8, trivial⟩) zd_N_raise_111
            · have hc42 : ¬ k41 = 0 := fun h9 => hc42 ((kz_neg (by omega)).mpr h9)
              obtain ⟨k41p, rfl⟩ : ∃ j, k41 = j + 1 := ⟨k41 - 1, by omega⟩
              rw [nI_pred] at hl
              refine lv_aload_n hx hb zd_N_raise_45 rfl (lv_at hl 1 rfl) ?_
              refine lv_aload_n hx hb zd_N_raise_46 rfl (lv_at hl 1 rfl) ?_
              refine va_get (D := (dC, dI)) (ci := 4) (v := .ref mr) (C := zR_N) (T := zT_N) (N := 26) hx hb hts (fun w h => kz_c (zi_N w h)) hown hK (hro.ob hdy.2.2 (k := 0) rfl) 0 rfl rfl 12 (by decide) (hts _ (kz_c mw_603)) (fun _ h9 => h9) rfl zd_N_raise_47 ?_
              refine lv_aload_n hx hb zd_N_raise_50 rfl (lv_at hl 1 rfl) ?_
              refine va_get (D := (dC, dI)) (ci := 4) (v := .ref mr) (C := zR_N) (T := zT_N) (N := 26) hx hb hts (fun w h => kz_c (zi_N w h)) hown hK (hro.ob hdy.2.2 (k := 0) rfl) 0 rfl rfl 12 (by decide) (hts _ (kz_c mw_603)) (fun _ h9 => h9) rfl zd_N_raise_51 ?_
              refine kz_callv (wk := [(me, .inl (cI, 18, .inl (kz_dg d7))), (mr, .inl (cI, 16, .inl (kz_dg d8)))]) (va_runV (As := [.ref mr, .ref mr]) (rest := []) ⟨hx, hb, hml, hown, hts⟩ (c_Y_multiply l dC dI cI cAA cB cL mx o mt mn ml mc mh mk mp mm mb mw mr me mP mQ ms mo mW mD mB mR mS mr mr d6 (th) (sta) (hs) sz_ d8 d8 _ hd_d6 hd_d8 hd_d8) (cwV 2 hts (kz_g (kz_mc mw_704 (kz_mc mw_706 (kz_mc mw_23 (kz_mc mw_43 kz_mn)))) mw_707) rfl rfl rfl (by decide +kernel) ⟨Nat.le_of_ble_eq_true rfl, Nat.le_of_ble_eq_true rfl⟩) (kz_preVr hdy hA hK hro hZ hN [0] (by decide) rfl [(true, 0), (false, 2), (false, 2)] rfl (by decide) [0, 1, 2, 3] rfl (fun _ h => by cases h) (fun _ h => by cases h) rfl (ci := 4) (q0 := 0) rfl rfl rfl) rfl rfl hl.1 rfl (lv_room (Nat.le_of_ble_eq_true rfl)) zd_N_raise_54 ⟨Nat.le_of_ble_eq_true rfl, Nat.le_of_ble_eq_true rfl⟩) hdy hA [0] [1, 2] rfl rfl (by decide) (by decide) (fun u H locs hw hdy => ?_)
              obtain ⟨d9, rfl⟩ : ∃ z, z = u := ⟨_, rfl⟩
              try dsimp only at hw
              obtain ⟨hd_d9, q10, -⟩ := hw
              have hdy : kz_dy (dC, dI) vwCl A s.heap H locs [(mx, .inl (cI, 32, .inl (kz_dg d9))), (me, .inl (cI, 18, .inl (kz_dg d7))), (mr, .inl (cI, 16, .inl (kz_dg d8)))] := hdy.sub [2, 0, 1] (by decide) rfl
              refine lv_aload_n hx hb zd_N_raise_57 rfl (lv_at hl 1 rfl) ?_
              refine lv_aload_n hx hb zd_N_raise_58 rfl (lv_at hl 1 rfl) ?_
              refine va_get (D := (dC, dI)) (ci := 4) (v := .ref mr) (C := zR_N) (T := zT_N) (N := 26) hx hb hts (fun w h => kz_c (zi_N w h)) hown hK (hro.ob hdy.2.2 (k := 0) rfl) 0 rfl rfl 12 (by decide) (hts _ (kz_c mw_603)) (fun _ h9 => h9) rfl zd_N_raise_59 ?_
              refine kz_callv (wk := [(mx, .inl (cI, 32, .inl (kz_dg d9)))]) (va_runV (As := [.ref mr]) (rest := []) ⟨hx, hb, hml, hown, hts⟩ (c_Z_remain l dC dI cI cAA cB cL me mr o mt mn ml mc mh mk mp mm mb mw mr mx mP mQ ms mo mW mD mB mR mS d7 d8 (th) (sta) (hs) sz_ gmm d9 _ hd_d7 hd_d8 hd_gmm hd_d9 (by first | omega | assumption)) (cwV 1 hts (kz_g (kz_mc mw_729 (kz_mc mw_731 (kz_mc mw_27 (kz_mc mw_43 kz_mn)))) mw_732) rfl rfl rfl (by decide +kernel) ⟨Nat.le_of_ble_eq_true rfl, Nat.le_of_ble_eq_true rfl⟩) (kz_preVr hdy hA hK hro hZ hN [1, 2] (by decide) rfl [(true, 0), (true, 1), (false, 0)] rfl (by decide) [0, 1, 2, 3] rfl (fun _ h => by cases h) (fun _ h => by cases h) rfl (ci := 4) (q0 := 0) rfl rfl rfl) rfl rfl hl.1 rfl (lv_room (Nat.le_of_ble_eq_true rfl)) zd_N_raise_62 ⟨Nat.le_of_ble_eq_true rfl, Nat.le_of_ble_eq_true rfl⟩) hdy hA [1, 2] [0] rfl rfl (by decide) (by decide) (fun u H locs hw hdy => ?_)
              obtain ⟨d11, d12⟩ := u
              try dsimp only at hw
              obtain ⟨hd_d11, hd_d12, -⟩ := hw
              have hdy : kz_dy (dC, dI) vwCl A s.heap H locs [(mx, .inl (cI, 32, .inl (kz_dg d9))), (me, .inl (cI, 18, .inl (kz_dg d11))), (mr, .inl (cI, 16, .inl (kz_dg d12)))] := hdy.sub [0, 1, 2] (by decide) rfl
              refine lv_aload_n hx hb zd_N_raise_65 rfl (lv_at hl 1 rfl) ?_
              refine va_get (D := (dC, dI)) (ci := 4) (v := .ref mw) (C := zR_N) (T := zT_N) (N := 26) hx hb hts (fun w h => kz_c (zi_N w h)) hown hK (hro.ob hdy.2.2 (k := 0) rfl) 0 rfl rfl 11 (by decide) (hts _ (kz_c mw_602)) (fun _ h9 => h9) rfl zd_N_raise_66 ?_
              refine lv_iload_n hx hb zd_N_raise_69 rfl (lv_at hl 0 rfl) ?_
              refine lv_bipush (v := (nI (16))) hx hb zd_N_raise_70 (by decide) ?_
              refine kz_idiv hx hb zd_N_raise_72 (by decide) (pk_div (by omega) (by omega) (by omega)) ?_
              refine kz_riald hx hb hK hro hdy.2.2 2 0 rfl rfl (vp_in_nI (by omega) (by omega)) zd_N_raise_73 ?_
              refine lv_topi (fun x13 h9 => ?_)
              obtain rfl : x13 = gmw (k41p / 16) := h9.trans (by rw [nI_clamp (by omega)])
              refine lv_iload_n hx hb zd_N_raise_74 rfl (lv_at hl 0 rfl) ?_
              refine lv_bipush (v := (nI (16))) hx hb zd_N_raise_75 (by decide) ?_
              refine kz_irem hx hb zd_N_raise_77 (by decide) (pk_rem (by omega) (by omega) (by omega)) ?_
              refine lv_ishr hx hb zd_N_raise_78 ?_
              refine lv_topi (fun x14 _ => ?_)
              refine lv_iconst (v := (nI (1))) hx hb zd_N_raise_79 (by decide) ?_
              refine lv_iand hx hb zd_N_raise_80 ?_
              refine lv_topi (fun x15 _ => ?_)
              refine lv_iconst (v := (nI (1))) hx hb zd_N_raise_81 (by decide) ?_
              refine lv_icmp_ne (tgt := 105) hx hb zd_N_raise_82 (by decide) (fun hc82 => ?_) (fun hc82 => ?_)
              · refine lv_iinc (v := (nI (k41p) - 1)) (lv' := [(1, .int (nI (k41p) - 1)), (0, .ref o)]) hx hb zd_N_raise_105 hl (k := 0) rfl (kz_m1 _) (by decide) rfl (fun ls hl => ?_)
                refine lv_goto (tgt := 41) hx hb zd_N_raise_108 (by decide) ?_
                exact ih41 k41p d9 d11 d12 _ _ _ (by omega) (by omega) hd_d9 hd_d11 hd_d12 hdy (lv_sub hl [0, 1] rfl)
              · refine lv_aload_n hx hb zd_N_raise_85 rfl (lv_at hl 1 rfl) ?_
                refine lv_aload_n hx hb zd_N_raise_86 rfl (lv_at hl 1 rfl) ?_
                refine va_get (D := (dC, dI)) (ci := 4) (v := .ref mr) (C := zR_N) (T := zT_N) (N := 26) hx hb hts (fun w h => kz_c (zi_N w h)) hown hK (hro.ob hdy.2.2 (k := 0) rfl) 0 rfl rfl 12 (by decide) (hts _ (kz_c mw_603)) (fun _ h9 => h9) rfl zd_N_raise_87 ?_
                refine lv_aload_n hx hb zd_N_raise_90 rfl (lv_at hl 1 rfl) ?_
                refine va_get (D := (dC, dI)) (ci := 4) (v := .ref mb) (C := zR_N) (T := zT_N) (N := 26) hx hb hts (fun w h => kz_c (zi_N w h)) hown hK (hro.ob hdy.2.2 (k := 0) rfl) 0 rfl rfl 10 (by decide) (hts _ (kz_c mw_601)) (fun _ h9 => h9) rfl zd_N_raise_91 ?_
                refine kz_callv (wk := [(me, .inl (cI, 18, .inl (kz_dg d11))), (mr, .inl (cI, 16, .inl (kz_dg d12)))]) (va_runV (As := [.ref mr, .ref mb]) (rest := []) ⟨hx, hb, hml, hown, hts⟩ (c_Y_multiply l dC dI cI cAA cB cL mx o mt mn ml mc mh mk mp mm mb mw mr me mP mQ ms mo mW mD mB mR mS mr mb d9 (th) (sta) (hs) sz_ d12 gmb _ hd_d9 hd_d12 hd_gmb) (cwV 2 hts (kz_g (kz_mc mw_704 (kz_mc mw_706 (kz_mc mw_23 (kz_mc mw_43 kz_mn)))) mw_707) rfl rfl rfl (by decide +kernel) ⟨Nat.le_of_ble_eq_true rfl, Nat.le_of_ble_eq_true rfl⟩) (kz_preVr hdy hA hK hro hZ hN [0] (by decide) rfl [(true, 0), (false, 2), (true, 3)] rfl (by decide) [0, 1, 2, 3] rfl (fun _ h => by cases h) (fun _ h => by cases h) rfl (ci := 4) (q0 := 0) rfl rfl rfl) rfl rfl hl.1 rfl (lv_room (Nat.le_of_ble_eq_true rfl)) zd_N_raise_94 ⟨Nat.le_of_ble_eq_true rfl, Nat.le_of_ble_eq_true rfl⟩) hdy hA [0] [1, 2] rfl rfl (by decide) (by decide) (fun u H locs hw hdy => ?_)
                obtain ⟨d16, rfl⟩ : ∃ z, z = u := ⟨_, rfl⟩
                try dsimp only at hw
                obtain ⟨hd_d16, q17, -⟩ := hw
                have hdy : kz_dy (dC, dI) vwCl A s.heap H locs [(mx, .inl (cI, 32, .inl (kz_dg d16))), (me, .inl (cI, 18, .inl (kz_dg d11))), (mr, .inl (cI, 16, .inl (kz_dg d12)))] := hdy.sub [2, 0, 1] (by decide) rfl
                refine lv_aload_n hx hb zd_N_raise_97 rfl (lv_at hl 1 rfl) ?_
                refine lv_aload_n hx hb zd_N_raise_98 rfl (lv_at hl 1 rfl) ?_
                refine va_get (D := (dC, dI)) (ci := 4) (v := .ref mr) (C := zR_N) (T := zT_N) (N := 26) hx hb hts (fun w h => kz_c (zi_N w h)) hown hK (hro.ob hdy.2.2 (k := 0) rfl) 0 rfl rfl 12 (by decide) (hts _ (kz_c mw_603)) (fun _ h9 => h9) rfl zd_N_raise_99 ?_
                refine kz_callv (wk := [(mx, .inl (cI, 32, .inl (kz_dg d16)))]) (va_runV (As := [.ref mr]) (rest := []) ⟨hx, hb, hml, hown, hts⟩ (c_Z_remain l dC dI cI cAA cB cL me mr o mt mn ml mc mh mk mp mm mb mw mr mx mP mQ ms mo mW mD mB mR mS d11 d12 (th) (sta) (hs) sz_ gmm d16 _ hd_d11 hd_d12 hd_gmm hd_d16 (by first | omega | assumption)) (cwV 1 hts (kz_g (kz_mc mw_729 (kz_mc mw_731 (kz_mc mw_27 (kz_mc mw_43 kz_mn)))) mw_732) rfl rfl rfl (by decide +kernel) ⟨Nat.le_of_ble_eq_true rfl, Nat.le_of_ble_eq_true rfl⟩) (kz_preVr hdy hA hK hro hZ hN [1, 2] (by decide) rfl [(true, 0), (true, 1), (false, 0)] rfl (by decide) [0, 1, 2, 3] rfl (fun _ h => by cases h) (fun _ h => by cases h) rfl (ci := 4) (q0 := 0) rfl rfl rfl) rfl rfl hl.1 rfl (lv_room (Nat.le_of_ble_eq_true rfl)) zd_N_raise_102 ⟨Nat.le_of_ble_eq_true rfl, Nat.le_of_ble_eq_true rfl⟩) hdy hA [1, 2] [0] rfl rfl (by decide) (by decide) (fun u H locs hw hdy => ?_)
                obtain ⟨d18, d19⟩ := u
                try dsimp only at hw
                obtain ⟨hd_d18, hd_d19, -⟩ := hw
                have hdy : kz_dy (dC, dI) vwCl A s.heap H locs [(mx, .inl (cI, 32, .inl (kz_dg d16))), (me, .inl (cI, 18, .inl (kz_dg d18))), (mr, .inl (cI, 16, .inl (kz_dg d19)))] := hdy.sub [0, 1, 2] (by decide) rfl
                refine lv_iinc (v := (nI (k41p) - 1)) (lv' := [(1, .int (nI (k41p) - 1)), (0, .ref o)]) hx hb zd_N_raise_105 hl (k := 0) rfl (kz_m1 _) (by decide) rfl (fun ls hl => ?_)
                refine lv_goto (tgt := 41) hx hb zd_N_raise_108 (by decide) ?_
                exact ih41 k41p d16 d18 d19 _ _ _ (by omega) (by omega) hd_d16 hd_d18 hd_d19 hdy (lv_sub hl [0, 1] rfl)
        exact lp41 (256 + 1) 256 d1 d4 d5 _ _ _ (by omega) (by omega) hd_d1 hd_d4 hd_d5 hdy (lv_sub hl [0, 1] rfl)
      · have hc5 : ¬ 32 ≤ k2 := fun h9 => hc5 ((nI_leI (by omega) (by omega)).mpr h9)
        refine lv_aload_n hx hb zd_N_raise_8 rfl (lv_at hl 1 rfl) ?_
        refine va_get (D := (dC, dI)) (ci := 4) (v := .ref mx) (C := zR_N) (T := zT_N) (N := 26) hx hb hts (fun w h => kz_c (zi_N w h)) hown hK (hro.ob hdy.2.2 (k := 0) rfl) 0 rfl rfl 13 (by decide) (hts _ (kz_c mw_604)) (fun _ h9 => h9) rfl zd_N_raise_9 ?_
        refine lv_iload_n hx hb zd_N_raise_12 rfl (lv_at hl 0 rfl) ?_
        refine lv_iload_n hx hb zd_N_raise_13 rfl (lv_at hl 0 rfl) ?_
        refine lv_if_ne (tgt := 21) hx hb zd_N_raise_14 (by decide) (fun hc14 => ?_) (fun hc14 => ?_)
        · have hc14 : ¬ k2 = 0 := fun h9 => hc14 (by have h8 := (nI_eq (by omega) (by omega)).mpr h9; rw [nI_0] at h8; exact h8)
          refine lv_iconst (v := (nI (0))) hx hb zd_N_raise_21 (by decide) ?_
          refine va_iast hx hb hK hdy.1 hdy.2.1 hdy.2.2 0 0 rfl rfl (vp_in_nI (by omega) (by omega)) zd_N_raise_22 (fun H locs hP hD hS => ?_)
          have h9 := kz_dgu d1 (k := k2) 0 (by omega)
          rw [h9] at hP hD
          obtain ⟨f20, ef20, hd_f20, hdy⟩ : ∃ f20 : Nat → Nat, f20 = kv_up d1 k2 0 ∧ (∀ j, f20 j < 65536) ∧ kz_dy (dC, dI) vwCl A s.heap H locs [(mx, .inl (cI, 32, .inl (kz_dg f20))), (me, .inl (cI, 18, .inl (kz_dg d2))), (mr, .inl (cI, 16, .inl (kz_dg d3)))] := ⟨_, rfl, kv_up_lt hd_d1 (by omega), hP, hD, hS⟩
          refine lv_iinc (v := (nI (k2 + 1))) (lv' := [(1, .int (nI (k2 + 1))), (0, .ref o)]) hx hb zd_N_raise_23 hl (k := 0) rfl (nI_1 _) (by decide) rfl (fun ls hl => ?_)
          refine lv_goto (tgt := 2) hx hb zd_N_raise_26 (by decide) ?_
          exact ih2 (k2 + 1) f20 d2 d3 _ _ _ (by omega) (by omega) hd_f20 hd_d2 hd_d3 hdy (lv_sub hl [0, 1] rfl)
        · have hc14 : k2 = 0 := (nI_eq (by omega) (by omega)).mp (by rw [nI_0]; exact hc14)
          refine lv_iconst (v := (nI (1))) hx hb zd_N_raise_17 (by decide) ?_
          refine lv_goto (tgt := 22) hx hb zd_N_raise_18 (by decide) ?_
          refine va_iast hx hb hK hdy.1 hdy.2.1 hdy.2.2 0 0 rfl rfl (vp_in_nI (by omega) (by omega)) zd_N_raise_22 (fun H locs hP hD hS => ?_)
          have h9 := kz_dgu d1 (k := k2) 1 (by omega)
          rw [h9] at hP hD
          obtain ⟨f21, ef21, hd_f21, hdy⟩ : ∃ f21 : Nat → Nat, f21 = kv_up d1 k2 1 ∧ (∀ j, f21 j < 65536) ∧ kz_dy (dC, dI) vwCl A s.heap H locs [(mx, .inl (cI, 32, .inl (kz_dg f21))), (me, .inl (cI, 18, .inl (kz_dg d2))), (mr, .inl (cI, 16, .inl (kz_dg d3)))] := ⟨_, rfl, kv_up_lt hd_d1 (by omega), hP, hD, hS⟩
          refine lv_iinc (v := (nI (k2 + 1))) (lv' := [(1, .int (nI (k2 + 1))), (0, .ref o)]) hx hb zd_N_raise_23 hl (k := 0) rfl (nI_1 _) (by decide) rfl (fun ls hl => ?_)
          refine lv_goto (tgt := 2) hx hb zd_N_raise_26 (by decide) ?_
          exact ih2 (k2 + 1) f21 d2 d3 _ _ _ (by omega) (by omega) hd_f21 hd_d2 hd_d3 hdy (lv_sub hl [0, 1] rfl)
  exact lp2 (32 - 0 + 1) 0 gmx gme gmr _ _ _ (by omega) (by omega) hd_gmx hd_gme hd_gmr hdy (lv_sub hl [0, 1] rfl)

set_option maxHeartbeats 4000000 in
set_option maxRecDepth 100000 in
/-- KeyMeetingModel.find()V -/
theorem c_V_find (l : Launch) (dC : Nat → ClassId) (dI : Nat → Nat → Nat) (cI cAA cB cL : ClassId) (o mt mn ml mc mh mk mp mm mb mw mr mx me mP mQ ms mo mW mD mB mR mS : Nat) (th : Int32) (sta : Int32) (hs : Int32) (sz_ : Nat) (gmP : Nat → Nat) (gmQ : Nat → Nat) (gms : Nat → Int32) (gmx : Nat → Nat) (gmt : Nat → Int32) (sz : Nat) (hd_gmP : ∀ j, gmP j < 65536) (hd_gmQ : ∀ j, gmQ j < 65536) (hd_gmx : ∀ j, gmx j < 65536) : Met l zy_N_find zw_N_find { frames := 1, cells := 0, slots := 0, locals := 26 } (kz_Pc (dC, dI) vwCl [(cI, .int), (cAA, .array .int), (cB, .byte), (cL, .long)] [] [] [.ref o] [(o, .inr (4, [.int th, .int sta, .ref mt, .ref mn, .ref ml, .ref mc, .ref mh, .ref mk, .ref mp, .ref mm, .ref mb, .ref mw, .ref mr, .ref mx, .ref me, .ref mP, .ref mQ, .ref ms, .int hs, .int (nI (sz_)), .ref mo, .ref mW, .ref mD, .ref mB, .ref mR, .ref mS])), (mP, .inl (cI, 16, .inl (kz_dg gmP))), (mQ, .inl (cI, 16, .inl (kz_dg gmQ))), (ms, .inl (cI, 18, .inl gms)), (mx, .inl (cI, 32, .inl (kz_dg gmx)))] [(mt, .inl (cI, 56, .inl gmt))] sz) (va_Qv (fun (u : Int32 × (Nat → Nat) × (Nat → Nat) × (Nat → Int32) × (Nat → Nat)) => (∀ j, u.2.1 j < 65536) ∧ (∀ j, u.2.2.1 j < 65536) ∧ (∀ j, u.2.2.2.2 j < 65536) ∧ (u.1 = 0 ∨ (kv_some (kv_fig gmt 16) 0 8 ∧ kv_some (kv_fig gmt 24) 0 8)) ∧ True) (kz_B (dC, dI) vwCl (va_A [(o, .inr (4, [.int th, .int sta, .ref mt, .ref mn, .ref ml, .ref mc, .ref mh, .ref mk, .ref mp, .ref mm, .ref mb, .ref mw, .ref mr, .ref mx, .ref me, .ref mP, .ref mQ, .ref ms, .int hs, .int (nI (sz_)), .ref mo, .ref mW, .ref mD, .ref mB, .ref mR, .ref mS])), (mP, .inl (cI, 16, .inl (kz_dg gmP))), (mQ, .inl (cI, 16, .inl (kz_dg gmQ))), (ms, .inl (cI, 18, .inl gms)), (mx, .inl (cI, 32, .inl (kz_dg gmx)))] sz) (fun u : Int32 × (Nat → Nat) × (Nat → Nat) × (Nat → Int32) × (Nat → Nat) => [(o, .inr (4, [.int th, .int sta, .ref mt, .ref mn, .ref ml, .ref mc, .ref mh, .ref mk, .ref mp, .ref mm, .ref mb, .ref mw, .ref mr, .ref mx, .ref me, .ref mP, .ref mQ, .ref ms, .int u.1, .int (nI (sz_)), .ref mo, .ref mW, .ref mD, .ref mB, .ref mR, .ref mS])), (mP, .inl (cI, 16, .inl (kz_dg u.2.1))), (mQ, .inl (cI, 16, .inl (kz_dg u.2.2.1))), (ms, .inl (cI, 18, .inl u.2.2.2.1)), (mx, .inl (cI, 32, .inl (kz_dg u.2.2.2.2)))])) (va_A [(o, .inr (4, [.int th, .int sta, .ref mt, .ref mn, .ref ml, .ref mc, .ref mh, .ref mk, .ref mp, .ref mm, .ref mb, .ref mw, .ref mr, .ref mx, .ref me, .ref mP, .ref mQ, .ref ms, .int hs, .int (nI (sz_)), .ref mo, .ref mW, .ref mD, .ref mB, .ref mR, .ref mS])), (mP, .inl (cI, 16, .inl (kz_dg gmP))), (mQ, .inl (cI, 16, .inl (kz_dg gmQ))), (ms, .inl (cI, 18, .inl gms)), (mx, .inl (cI, 32, .inl (kz_dg gmx)))] sz)) 0 0 (va_A [(o, .inr (4, [.int th, .int sta, .ref mt, .ref mn, .ref ml, .ref mc, .ref mh, .ref mk, .ref mp, .ref mm, .ref mb, .ref mw, .ref mr, .ref mx, .ref me, .ref mP, .ref mQ, .ref ms, .int hs, .int (nI (sz_)), .ref mo, .ref mW, .ref mD, .ref mB, .ref mR, .ref mS])), (mP, .inl (cI, 16, .inl (kz_dg gmP))), (mQ, .inl (cI, 16, .inl (kz_dg gmQ))), (ms, .inl (cI, 18, .inl gms)), (mx, .inl (cI, 32, .inl (kz_dg gmx)))] sz) := by
  refine kz_met (y := zy_N_find) (ws := zw_N_find) (av := [.ref o]) (sz := sz) (Qc := fun A => va_Qv (fun (u : Int32 × (Nat → Nat) × (Nat → Nat) × (Nat → Int32) × (Nat → Nat)) => (∀ j, u.2.1 j < 65536) ∧ (∀ j, u.2.2.1 j < 65536) ∧ (∀ j, u.2.2.2.2 j < 65536) ∧ (u.1 = 0 ∨ (kv_some (kv_fig gmt 16) 0 8 ∧ kv_some (kv_fig gmt 24) 0 8)) ∧ True) (kz_B (dC, dI) vwCl A (fun u : Int32 × (Nat → Nat) × (Nat → Nat) × (Nat → Int32) × (Nat → Nat) => [(o, .inr (4, [.int th, .int sta, .ref mt, .ref mn, .ref ml, .ref mc, .ref mh, .ref mk, .ref mp, .ref mm, .ref mb, .ref mw, .ref mr, .ref mx, .ref me, .ref mP, .ref mQ, .ref ms, .int u.1, .int (nI (sz_)), .ref mo, .ref mW, .ref mD, .ref mB, .ref mR, .ref mS])), (mP, .inl (cI, 16, .inl (kz_dg u.2.1))), (mQ, .inl (cI, 16, .inl (kz_dg u.2.2.1))), (ms, .inl (cI, 18, .inl u.2.2.2.1)), (mx, .inl (cI, 32, .inl (kz_dg u.2.2.2.2)))])) A) (cc := zc_N_find) (maxL := 9) (ret := none) (by decide) rfl (Nat.le_of_ble_eq_true rfl) ?_
  intro p e s m below meth c A ls F hA hdy hK hro hZ hN hl
  obtain ⟨hx, hb, hml, hr, hown, hlocks, hts, hnm⟩ := id F
  have hl : lv_has ls 9 [(0, .ref o)] := hl
  refine lv_aload_n hx hb zd_N_find_0 rfl (lv_at hl 0 rfl) ?_
  refine va_get (D := (dC, dI)) (ci := 4) (v := .ref mt) (C := zR_N) (T := zT_N) (N := 26) hx hb hts (fun w h => kz_c (zi_N w h)) hown hK hdy.1 0 rfl rfl 2 (by decide) (hts _ (kz_c mw_593)) (fun _ h9 => h9) rfl zd_N_find_1 ?_
  refine lv_bipush (v := (nI (16))) hx hb zd_N_find_4 (by decide) ?_
  refine lv_aload_n hx hb zd_N_find_6 rfl (lv_at hl 0 rfl) ?_
  refine va_get (D := (dC, dI)) (ci := 4) (v := .ref mP) (C := zR_N) (T := zT_N) (N := 26) hx hb hts (fun w h => kz_c (zi_N w h)) hown hK hdy.1 0 rfl rfl 15 (by decide) (hts _ (kz_c mw_606)) (fun _ h9 => h9) rfl zd_N_find_7 ?_
  refine kz_callv (wk := [(o, .inr (4, [.int th, .int sta, .ref mt, .ref mn, .ref ml, .ref mc, .ref mh, .ref mk, .ref mp, .ref mm, .ref mb, .ref mw, .ref mr, .ref mx, .ref me, .ref mP, .ref mQ, .ref ms, .int hs, .int (nI (sz_)), .ref mo, .ref mW, .ref mD, .ref mB, .ref mR, .ref mS])), (mQ, .inl (cI, 16, .inl (kz_dg gmQ))), (ms, .inl (cI, 18, .inl gms)), (mx, .inl (cI, 32, .inl (kz_dg gmx)))]) (va_runS (As := [.ref mt, .int (nI (16)), .ref mP]) (rest := []) ⟨hx, hb, hml, hown, hts⟩ (c_X_figures56 l dC dI cI cAA cB cL mP mt gmP gmt 16 _ hd_gmP (by first | omega | assumption)) (va_cwS 3 hts (kz_g (kz_mc mw_690 (kz_mc mw_691 (kz_mc mw_43 kz_mn))) mw_692) rfl rfl rfl (by decide +kernel) ⟨Nat.le_of_ble_eq_true rfl, Nat.le_of_ble_eq_true rfl⟩) (kz_preS hdy hA hK hro hZ hN [1] (by decide) rfl [(true, 0)] rfl (by decide) [0, 1, 2, 3] rfl (fun _ h => by cases h) (fun _ h => by cases h) rfl) rfl rfl hl.1 rfl (lv_room (Nat.le_of_ble_eq_true rfl)) zd_N_find_10 ⟨Nat.le_of_ble_eq_true rfl, Nat.le_of_ble_eq_true rfl⟩) hdy hA [1] [0, 2, 3, 4] rfl rfl (by decide) (by decide) (fun u H locs hw hdy => ?_)
  obtain ⟨d1, rfl⟩ : ∃ z, z = u := ⟨_, rfl⟩
  try dsimp only at hw
  obtain ⟨hd_d1, q2, -⟩ := hw
  have hdy : kz_dy (dC, dI) vwCl A s.heap H locs [(o, .inr (4, [.int th, .int sta, .ref mt, .ref mn, .ref ml, .ref mc, .ref mh, .ref mk, .ref mp, .ref mm, .ref mb, .ref mw, .ref mr, .ref mx, .ref me, .ref mP, .ref mQ, .ref ms, .int hs, .int (nI (sz_)), .ref mo, .ref mW, .ref mD, .ref mB, .ref mR, .ref mS])), (mP, .inl (cI, 16, .inl (kz_dg d1))), (mQ, .inl (cI, 16, .inl (kz_dg gmQ))), (ms, .inl (cI, 18, .inl gms)), (mx, .inl (cI, 32, .inl (kz_dg gmx)))] := hdy.sub [0, 4, 1, 2, 3] (by decide) rfl
  refine lv_aload_n hx hb zd_N_find_13 rfl (lv_at hl 0 rfl) ?_
  refine va_get (D := (dC, dI)) (ci := 4) (v := .ref mt) (C := zR_N) (T := zT_N) (N := 26) hx hb hts (fun w h => kz_c (zi_N w h)) hown hK hdy.1 0 rfl rfl 2 (by decide) (hts _ (kz_c mw_593)) (fun _ h9 => h9) rfl zd_N_find_14 ?_
  refine lv_bipush (v := (nI (24))) hx hb zd_N_find_17 (by decide) ?_
  refine lv_aload_n hx hb zd_N_find_19 rfl (lv_at hl 0 rfl) ?_
  refine va_get (D := (dC, dI)) (ci := 4) (v := .ref mQ) (C := zR_N) (T := zT_N) (N := 26) hx hb hts (fun w h => kz_c (zi_N w h)) hown hK hdy.1 0 rfl rfl 16 (by decide) (hts _ (kz_c mw_607)) (fun _ h9 => h9) rfl zd_N_find_20 ?_
  refine kz_callv (wk := [(o, .inr (4, [.int th, .int sta, .ref mt, .ref mn, .ref ml, .ref mc, .ref mh, .ref mk, .ref mp, .ref mm, .ref mb, .ref mw, .ref mr, .ref mx, .ref me, .ref mP, .ref mQ, .ref ms, .int hs, .int (nI (sz_)), .ref mo, .ref mW, .ref mD, .ref mB, .ref mR, .ref mS])), (mP, .inl (cI, 16, .inl (kz_dg d1))), (ms, .inl (cI, 18, .inl gms)), (mx, .inl (cI, 32, .inl (kz_dg gmx)))]) (va_runS (As := [.ref mt, .int (nI (24)), .ref mQ]) (rest := []) ⟨hx, hb, hml, hown, hts⟩ (c_X_figures56 l dC dI cI cAA cB cL mQ mt gmQ gmt 24 _ hd_gmQ (by first | omega | assumption)) (va_cwS 3 hts (kz_g (kz_mc mw_690 (kz_mc mw_691 (kz_mc mw_43 kz_mn))) mw_692) rfl rfl rfl (by decide +kernel) ⟨Nat.le_of_ble_eq_true rfl, Nat.le_of_ble_eq_true rfl⟩) (kz_preS hdy hA hK hro hZ hN [2] (by decide) rfl [(true, 0)] rfl (by decide) [0, 1, 2, 3] rfl (fun _ h => by cases h) (fun _ h => by cases h) rfl) rfl rfl hl.1 rfl (lv_room (Nat.le_of_ble_eq_true rfl)) zd_N_find_23 ⟨Nat.le_of_ble_eq_true rfl, Nat.le_of_ble_eq_true rfl⟩) hdy hA [2] [0, 1, 3, 4] rfl rfl (by decide) (by decide) (fun u H locs hw hdy => ?_)
  obtain ⟨d3, rfl⟩ : ∃ z, z = u := ⟨_, rfl⟩
  try dsimp only at hw
  obtain ⟨hd_d3, q4, -⟩ := hw
  have hdy : kz_dy (dC, dI) vwCl A s.heap H locs [(o, .inr (4, [.int th, .int sta, .ref mt, .ref mn, .ref ml, .ref mc, .ref mh, .ref mk, .ref mp, .ref mm, .ref mb, .ref mw, .ref mr, .ref mx, .ref me, .ref mP, .ref mQ, .ref ms, .int hs, .int (nI (sz_)), .ref mo, .ref mW, .ref mD, .ref mB, .ref mR, .ref mS])), (mP, .inl (cI, 16, .inl (kz_dg d1))), (mQ, .inl (cI, 16, .inl (kz_dg d3))), (ms, .inl (cI, 18, .inl gms)), (mx, .inl (cI, 32, .inl (kz_dg gmx)))] := hdy.sub [0, 1, 4, 2, 3] (by decide) rfl
  refine lv_bipush (v := (nI (8))) hx hb zd_N_find_26 (by decide) ?_
  refine lv_istore_n (lv' := [(1, .int (nI (8))), (0, .ref o)]) hx hb zd_N_find_28 rfl hl (by decide) rfl (fun ls hl => ?_)
  have lp29 : ∀ (n29 k29 : Nat) (d5 : Nat → Nat) (d6 : Nat → Nat) (H : Heap) (locs : List Loc) (ls : Array Slot), k29 ≤ 16 → 16 - k29 < n29 → 8 ≤ k29 → (∀ j, d5 j < 65536) → (∀ j, d6 j < 65536) → (∀ j, j < 8 → d5 j = kv_fig gmt 16 j) → (∀ j, 8 ≤ j → j < k29 → d5 j = 0) → (∀ j, j < 8 → d6 j = kv_fig gmt 24 j) → (∀ j, 8 ≤ j → j < k29 → d6 j = 0) → kz_dy (dC, dI) vwCl A s.heap H locs [(o, .inr (4, [.int th, .int sta, .ref mt, .ref mn, .ref ml, .ref mc, .ref mh, .ref mk, .ref mp, .ref mm, .ref mb, .ref mw, .ref mr, .ref mx, .ref me, .ref mP, .ref mQ, .ref ms, .int hs, .int (nI (sz_)), .ref mo, .ref mW, .ref mD, .ref mB, .ref mR, .ref mS])), (mP, .inl (cI, 16, .inl (kz_dg d5))), (mQ, .inl (cI, 16, .inl (kz_dg d6))), (ms, .inl (cI, 18, .inl gms)), (mx, .inl (cI, 32, .inl (kz_dg gmx)))] → lv_has ls 9 [(1, .int (nI (k29))), (0, .ref o)] → W p l e { frames := 1, cells := 0, slots := 0, locals := 26 } s m ([.ref o] : List Value).toArray below meth c H locs 0 0 (MQ below (va_Qv (fun (u : Int32 × (Nat → Nat) × (Nat → Nat) × (Nat → Int32) × (Nat → Nat)) => (∀ j, u.2.1 j < 65536) ∧ (∀ j, u.2.2.1 j < 65536) ∧ (∀ j, u.2.2.2.2 j < 65536) ∧ (u.1 = 0 ∨ (kv_some (kv_fig gmt 16) 0 8 ∧ kv_some (kv_fig gmt 24) 0 8)) ∧ True) (kz_B (dC, dI) vwCl A (fun u : Int32 × (Nat → Nat) × (Nat → Nat) × (Nat → Int32) × (Nat → Nat) => [(o, .inr (4, [.int th, .int sta, .ref mt, .ref mn, .ref ml, .ref mc, .ref mh, .ref mk, .ref mp, .ref mm, .ref mb, .ref mw, .ref mr, .ref mx, .ref me, .ref mP, .ref mQ, .ref ms, .int u.1, .int (nI (sz_)), .ref mo, .ref mW, .ref mD, .ref mB, .ref mR, .ref mS])), (mP, .inl (cI, 16, .inl (kz_dg u.2.1))), (mQ, .inl (cI, 16, .inl (kz_dg u.2.2.1))), (ms, .inl (cI, 18, .inl u.2.2.2.1)), (mx, .inl (cI, 32, .inl (kz_dg u.2.2.2.2)))])) A) ([.ref o] : List Value).toArray s 0 0 A) (F0 m 29 ls []) := by
    intro n29
    induction n29 with
    | zero => intro k29; intros; omega
    | succ n29 ih29 =>
      intro k29 d5 d6 H locs ls hi29 hn29 hblow hd_d5 hd_d6 hfp hfp0 hfq hfq0 hdy hl
      refine lv_iload_n hx hb zd_N_find_29 rfl (lv_at hl 0 rfl) ?_
      refine lv_bipush (v := (nI (16))) hx hb zd_N_find_30 (by decide) ?_
      refine lv_icmp_ge (tgt := 55) hx hb zd_N_find_32 (by decide) (fun hc32 => ?_) (fun hc32 => ?_)
      · have hc32 : 16 ≤ k29 := (nI_leI (by omega) (by omega)).mp hc32
        refine lv_aload_n hx hb zd_N_find_55 rfl (lv_at hl 1 rfl) ?_
        refine lv_iconst (v := (nI (0))) hx hb zd_N_find_56 (by decide) ?_
        refine va_put (D := (dC, dI)) (ci := 4) (v := .int (nI (0))) (ty := .boolean) (C := zR_N) (T := zT_N) (N := 26) hx hb hts (fun w h => kz_c (zi_N w h)) zt_N zo_N zn_N hown hK hdy.1 hdy.2.1 hdy.2.2 0 rfl rfl 18 (by decide) (hts _ (kz_c mw_609)) (fun _ h9 => h9) rfl (by decide +kernel) rfl rfl (Nat.le_of_ble_eq_true rfl) zd_N_find_57 (fun H locs hP hD hS => ?_)
        have hdy : kz_dy (dC, dI) vwCl A s.heap H locs [(o, .inr (4, [.int th, .int sta, .ref mt, .ref mn, .ref ml, .ref mc, .ref mh, .ref mk, .ref mp, .ref mm, .ref mb, .ref mw, .ref mr, .ref mx, .ref me, .ref mP, .ref mQ, .ref ms, .int (nI (0)), .int (nI (sz_)), .ref mo, .ref mW, .ref mD, .ref mB, .ref mR, .ref mS])), (mP, .inl (cI, 16, .inl (kz_dg d5))), (mQ, .inl (cI, 16, .inl (kz_dg d6))), (ms, .inl (cI, 18, .inl gms)), (mx, .inl (cI, 32, .inl (kz_dg gmx)))] := ⟨hP, hD, hS⟩
        refine lv_iconst (v := (nI (0))) hx hb zd_N_find_60 (by decide) ?_
        refine lv_istore_n (lv' := [(1, .int (nI (0))), (0, .ref o)]) hx hb zd_N_find_61 rfl hl (by decide) rfl (fun ls hl => ?_)
        have lp62 : ∀ (n62 k62 : Nat) (f7 : Nat → Int32) (H : Heap) (locs : List Loc) (ls : Array Slot), k62 ≤ 18 → 18 - k62 < n62 → kz_dy (dC, dI) vwCl A s.heap H locs [(o, .inr (4, [.int th, .int sta, .ref mt, .ref mn, .ref ml, .ref mc, .ref mh, .ref mk, .ref mp, .ref mm, .ref mb, .ref mw, .ref mr, .ref mx, .ref me, .ref mP, .ref mQ, .ref ms, .int (nI (0)), .int (nI (sz_)), .ref mo, .ref mW, .ref mD, .ref mB, .ref mR, .ref mS])), (mP, .inl (cI, 16, .inl (kz_dg d5))), (mQ, .inl (cI, 16, .inl (kz_dg d6))), (ms, .inl (cI, 18, .inl f7)), (mx, .inl (cI, 32, .inl (kz_dg gmx)))] → lv_has ls 9 [(1, .int (nI (k62))), (0, .ref o)] → W p l e { frames := 1, cells := 0, slots := 0, locals := 26 } s m ([.ref o] : List Value).toArray below meth c H locs 0 0 (MQ below (va_Qv (fun (u : Int32 × (Nat → Nat) × (Nat → Nat) × (Nat → Int32) × (Nat → Nat)) => (∀ j, u.2.1 j < 65536) ∧ (∀ j, u.2.2.1 j < 65536) ∧ (∀ j, u.2.2.2.2 j < 65536) ∧ (u.1 = 0 ∨ (kv_some (kv_fig gmt 16) 0 8 ∧ kv_some (kv_fig gmt 24) 0 8)) ∧ True) (kz_B (dC, dI) vwCl A (fun u : Int32 × (Nat → Nat) × (Nat → Nat) × (Nat → Int32) × (Nat → Nat) => [(o, .inr (4, [.int th, .int sta, .ref mt, .ref mn, .ref ml, .ref mc, .ref mh, .ref mk, .ref mp, .ref mm, .ref mb, .ref mw, .ref mr, .ref mx, .ref me, .ref mP, .ref mQ, .ref ms, .int u.1, .int (nI (sz_)), .ref mo, .ref mW, .ref mD, .ref mB, .ref mR, .ref mS])), (mP, .inl (cI, 16, .inl (kz_dg u.2.1))), (mQ, .inl (cI, 16, .inl (kz_dg u.2.2.1))), (ms, .inl (cI, 18, .inl u.2.2.2.1)), (mx, .inl (cI, 32, .inl (kz_dg u.2.2.2.2)))])) A) ([.ref o] : List Value).toArray s 0 0 A) (F0 m 62 ls []) := by
          intro n62
          induction n62 with
          | zero => intro k62; intros; omega
          | succ n62 ih62 =>
            intro k62 f7 H locs ls hi62 hn62 hdy hl
            refine lv_iload_n hx hb zd_N_find_62 rfl (lv_at hl 0 rfl) ?_
            refine lv_bipush (v := (nI (18))) hx hb zd_N_find_63 (by decide) ?_
            refine lv_icmp_ge (tgt := 81) hx hb zd_N_find_65 (by decide) (fun hc65 => ?_) (fun hc65 => ?_)
            · have hc65 : 18 ≤ k62 := (nI_leI (by omega) (by omega)).mp hc65
              refine lv_aload_n hx hb zd_N_find_81 rfl (lv_at hl 1 rfl) ?_
              refine va_get (D := (dC, dI)) (ci := 4) (v := .ref mP) (C := zR_N) (T := zT_N) (N := 26) hx hb hts (fun w h => kz_c (zi_N w h)) hown hK hdy.1 0 rfl rfl 15 (by decide) (hts _ (kz_c mw_606)) (fun _ h9 => h9) rfl zd_N_find_82 ?_
              refine kz_calli (wk := [(o, .inr (4, [.int th, .int sta, .ref mt, .ref mn, .ref ml, .ref mc, .ref mh, .ref mk, .ref mp, .ref mm, .ref mb, .ref mw, .ref mr, .ref mx, .ref me, .ref mP, .ref mQ, .ref ms, .int (nI (0)), .int (nI (sz_)), .ref mo, .ref mW, .ref mD, .ref mB, .ref mR, .ref mS])), (mP, .inl (cI, 16, .inl (kz_dg d5))), (mQ, .inl (cI, 16, .inl (kz_dg d6))), (ms, .inl (cI, 18, .inl f7)), (mx, .inl (cI, 32, .inl (kz_dg gmx)))]) (va_runS (As := [.ref mP]) (rest := []) ⟨hx, hb, hml, hown, hts⟩ (c_X_isSmall l dC dI cI cAA cB cL mP d5 _ hd_d5) (va_cwS 1 hts (kz_g (kz_mc mw_698 (kz_mc mw_699 (kz_mc mw_43 kz_mn))) mw_700) rfl rfl rfl (by decide +kernel) ⟨Nat.le_of_ble_eq_true rfl, Nat.le_of_ble_eq_true rfl⟩) (kz_preS hdy hA hK hro hZ hN [] (by decide) rfl [(false, 1)] rfl (by decide) [0, 1, 2, 3] rfl (fun _ h => by cases h) (fun _ h => by cases h) rfl) rfl rfl hl.1 rfl (lv_room (Nat.le_of_ble_eq_true rfl)) zd_N_find_85 ⟨Nat.le_of_ble_eq_true rfl, Nat.le_of_ble_eq_true rfl⟩) hdy hA [] [0, 1, 2, 3, 4] rfl rfl (by decide) (by decide) (fun r u H locs hw hdy => ?_)
              obtain ⟨r8, rfl⟩ : ∃ z, z = r := ⟨_, rfl⟩
              try dsimp only at hw
              obtain ⟨hzr8, q9, -⟩ := hw
              have hdy : kz_dy (dC, dI) vwCl A s.heap H locs [(o, .inr (4, [.int th, .int sta, .ref mt, .ref mn, .ref ml, .ref mc, .ref mh, .ref mk, .ref mp, .ref mm, .ref mb, .ref mw, .ref mr, .ref mx, .ref me, .ref mP, .ref mQ, .ref ms, .int (nI (0)), .int (nI (sz_)), .ref mo, .ref mW, .ref mD, .ref mB, .ref mR, .ref mS])), (mP, .inl (cI, 16, .inl (kz_dg d5))), (mQ, .inl (cI, 16, .inl (kz_dg d6))), (ms, .inl (cI, 18, .inl f7)), (mx, .inl (cI, 32, .inl (kz_dg gmx)))] := hdy.sub [0, 1, 2, 3, 4] (by decide) rfl
              refine lv_if_ne (tgt := 101) hx hb zd_N_find_88 (by decide) (fun hc88 => ?_) (fun hc88 => ?_)
              · exact kz_vret F ((nI (0)), d5, d6, f7, gmx) hdy (⟨hd_d5, hd_d6, hd_gmx, by first | exact Or.inl rfl | exact Or.inr ⟨hfP, hfQ⟩, trivial⟩) zd_N_find_101
              · have hsP := q9 hc88
                refine lv_aload_n hx hb zd_N_find_91 rfl (lv_at hl 1 rfl) ?_
                refine va_get (D := (dC, dI)) (ci := 4) (v := .ref mQ) (C := zR_N) (T := zT_N) (N := 26) hx hb hts (fun w h => kz_c (zi_N w h)) hown hK hdy.1 0 rfl rfl 16 (by decide) (hts _ (kz_c mw_607)) (fun _ h9 => h9) rfl zd_N_find_92 ?_
                refine kz_calli (wk := [(o, .inr (4, [.int th, .int sta, .ref mt, .ref mn, .ref ml, .ref mc, .ref mh, .ref mk, .ref mp, .ref mm, .ref mb, .ref mw, .ref mr, .ref mx, .ref me, .ref mP, .ref mQ, .ref ms, .int (nI (0)), .int (nI (sz_)), .ref mo, .ref mW, .ref mD, .ref mB, .ref mR, .ref mS])), (mP, .inl (cI, 16, .inl (kz_dg d5))), (mQ, .inl (cI, 16, .inl (kz_dg d6))), (ms, .inl (cI, 18, .inl f7)), (mx, .inl (cI, 32, .inl (kz_dg gmx)))]) (va_runS (As := [.ref mQ]) (rest := []) ⟨hx, hb, hml, hown, hts⟩ (c_X_isSmall l dC dI cI cAA cB cL mQ d6 _ hd_d6) (va_cwS 1 hts (kz_g (kz_mc mw_698 (kz_mc mw_699 (kz_mc mw_43 kz_mn))) mw_700) rfl rfl rfl (by decide +kernel) ⟨Nat.le_of_ble_eq_true rfl, Nat.le_of_ble_eq_true rfl⟩) (kz_preS hdy hA hK hro hZ hN [] (by decide) rfl [(false, 2)] rfl (by decide) [0, 1, 2, 3] rfl (fun _ h => by cases h) (fun _ h => by cases h) rfl) rfl rfl hl.1 rfl (lv_room (Nat.le_of_ble_eq_true rfl)) zd_N_find_95 ⟨Nat.le_of_ble_eq_true rfl, Nat.le_of_ble_eq_true rfl⟩) hdy hA [] [0, 1, 2, 3, 4] rfl rfl (by decide) (by decide) (fun r u H locs hw hdy => ?_)
                obtain ⟨r10, rfl⟩ : ∃ z, z = r := ⟨_, rfl⟩
                try dsimp only at hw
                obtain ⟨hzr10, q11, -⟩ := hw
                have hdy : kz_dy (dC, dI) vwCl A s.heap H locs [(o, .inr (4, [.int th, .int sta, .ref mt, .ref mn, .ref ml, .ref mc, .ref mh, .ref mk, .ref mp, .ref mm, .ref mb, .ref mw, .ref mr, .ref mx, .ref me, .ref mP, .ref mQ, .ref ms, .int (nI (0)), .int (nI (sz_)), .ref mo, .ref mW, .ref mD, .ref mB, .ref mR, .ref mS])), (mP, .inl (cI, 16, .inl (kz_dg d5))), (mQ, .inl (cI, 16, .inl (kz_dg d6))), (ms, .inl (cI, 18, .inl f7)), (mx, .inl (cI, 32, .inl (kz_dg gmx)))] := hdy.sub [0, 1, 2, 3, 4] (by decide) rfl
                refine lv_if_eq (tgt := 102) hx hb zd_N_find_98 (by decide) (fun hc98 => ?_) (fun hc98 => ?_)
                · have hsQ := q11 hc98
                  have hfP := kv_some_low hsP hfp (fun j a b => hfp0 j a (by omega))
                  have hfQ := kv_some_low hsQ hfq (fun j a b => hfq0 j a (by omega))
                  refine lv_aload_n hx hb zd_N_find_102 rfl (lv_at hl 1 rfl) ?_
                  refine va_get (D := (dC, dI)) (ci := 4) (v := .ref mP) (C := zR_N) (T := zT_N) (N := 26) hx hb hts (fun w h => kz_c (zi_N w h)) hown hK hdy.1 0 rfl rfl 15 (by decide) (hts _ (kz_c mw_606)) (fun _ h9 => h9) rfl zd_N_find_103 ?_
                  refine kz_callv (wk := [(o, .inr (4, [.int th, .int sta, .ref mt, .ref mn, .ref ml, .ref mc, .ref mh, .ref mk, .ref mp, .ref mm, .ref mb, .ref mw, .ref mr, .ref mx, .ref me, .ref mP, .ref mQ, .ref ms, .int (nI (0)), .int (nI (sz_)), .ref mo, .ref mW, .ref mD, .ref mB, .ref mR, .ref mS])), (mQ, .inl (cI, 16, .inl (kz_dg d6))), (ms, .inl (cI, 18, .inl f7)), (mx, .inl (cI, 32, .inl (kz_dg gmx)))]) (va_runS (As := [.ref mP]) (rest := []) ⟨hx, hb, hml, hown, hts⟩ (c_X_lessOne l dC dI cI cAA cB cL mP d5 _ hd_d5 (by first | omega | assumption)) (va_cwS 1 hts (kz_g (kz_mc mw_701 (kz_mc mw_702 (kz_mc mw_43 kz_mn))) mw_703) rfl rfl rfl (by decide +kernel) ⟨Nat.le_of_ble_eq_true rfl, Nat.le_of_ble_eq_true rfl⟩) (kz_preS hdy hA hK hro hZ hN [1] (by decide) rfl [] rfl (by decide) [0, 1, 2, 3] rfl (fun _ h => by cases h) (fun _ h => by cases h) rfl) rfl rfl hl.1 rfl (lv_room (Nat.le_of_ble_eq_true rfl)) zd_N_find_106 ⟨Nat.le_of_ble_eq_true rfl, Nat.le_of_ble_eq_true rfl⟩) hdy hA [1] [0, 2, 3, 4] rfl rfl (by decide) (by decide) (fun u H locs hw hdy => ?_)
                  obtain ⟨d12, rfl⟩ : ∃ z, z = u := ⟨_, rfl⟩
                  try dsimp only at hw
                  obtain ⟨hd_d12, -⟩ := hw
                  have hdy : kz_dy (dC, dI) vwCl A s.heap H locs [(o, .inr (4, [.int th, .int sta, .ref mt, .ref mn, .ref ml, .ref mc, .ref mh, .ref mk, .ref mp, .ref mm, .ref mb, .ref mw, .ref mr, .ref mx, .ref me, .ref mP, .ref mQ, .ref ms, .int (nI (0)), .int (nI (sz_)), .ref mo, .ref mW, .ref mD, .ref mB, .ref mR, .ref mS])), (mP, .inl (cI, 16, .inl (kz_dg d12))), (mQ, .inl (cI, 16, .inl (kz_dg d6))), (ms, .inl (cI, 18, .inl f7)), (mx, .inl (cI, 32, .inl (kz_dg gmx)))] := hdy.sub [0, 4, 1, 2, 3] (by decide) rfl
                  refine lv_aload_n hx hb zd_N_find_109 rfl (lv_at hl 1 rfl) ?_
                  refine va_get (D := (dC, dI)) (ci := 4) (v := .ref mQ) (C := zR_N) (T := zT_N) (N := 26) hx hb hts (fun w h => kz_c (zi_N w h)) hown hK hdy.1 0 rfl rfl 16 (by decide) (hts _ (kz_c mw_607)) (fun _ h9 => h9) rfl zd_N_find_110 ?_
                  refine kz_callv (wk := [(o, .inr (4, [.int th, .int sta, .ref mt, .ref mn, .ref ml, .ref mc, .ref mh, .ref mk, .ref mp, .ref mm, .ref mb, .ref mw, .ref mr, .ref mx, .ref me, .ref mP, .ref mQ, .ref ms, .int (nI (0)), .int (nI (sz_)), .ref mo, .ref mW, .ref mD, .ref mB, .ref mR, .ref mS])), (mP, .inl (cI, 16, .inl (kz_dg d12))), (ms, .inl (cI, 18, .inl f7)), (mx, .inl (cI, 32, .inl (kz_dg gmx)))]) (va_runS (As := [.ref mQ]) (rest := []) ⟨hx, hb, hml, hown, hts⟩ (c_X_lessOne l dC dI cI cAA cB cL mQ d6 _ hd_d6 (by first | omega | assumption)) (va_cwS 1 hts (kz_g (kz_mc mw_701 (kz_mc mw_702 (kz_mc mw_43 kz_mn))) mw_703) rfl rfl rfl (by decide +kernel) ⟨Nat.le_of_ble_eq_true rfl, Nat.le_of_ble_eq_true rfl⟩) (kz_preS hdy hA hK hro hZ hN [2] (by decide) rfl [] rfl (by decide) [0, 1, 2, 3] rfl (fun _ h => by cases h) (fun _ h => by cases h) rfl) rfl rfl hl.1 rfl (lv_room (Nat.le_of_ble_eq_true rfl)) zd_N_find_113 ⟨Nat.le_of_ble_eq_true rfl, Nat.le_of_ble_eq_true rfl⟩) hdy hA [2] [0, 1, 3, 4] rfl rfl (by decide) (by decide) (fun u H locs hw hdy => ?_)
                  obtain ⟨d13, rfl⟩ : ∃ z, z = u := ⟨_, rfl⟩
                  try dsimp only at hw
                  obtain ⟨hd_d13, -⟩ := hw
                  have hdy : kz_dy (dC, dI) vwCl A s.heap H locs [(o, .inr (4, [.int th, .int sta, .ref mt, .ref mn, .ref ml, .ref mc, .ref mh, .ref mk, .ref mp, .ref mm, .ref mb, .ref mw, .ref mr, .ref mx, .ref me, .ref mP, .ref mQ, .ref ms, .int (nI (0)), .int (nI (sz_)), .ref mo, .ref mW, .ref mD, .ref mB, .ref mR, .ref mS])), (mP, .inl (cI, 16, .inl (kz_dg d12))), (mQ, .inl (cI, 16, .inl (kz_dg d13))), (ms, .inl (cI, 18, .inl f7)), (mx, .inl (cI, 32, .inl (kz_dg gmx)))] := hdy.sub [0, 1, 4, 2, 3] (by decide) rfl
                  refine lv_aload_n hx hb zd_N_find_116 rfl (lv_at hl 1 rfl) ?_
                  refine lv_aload_n hx hb zd_N_find_117 rfl (lv_at hl 1 rfl) ?_
                  refine va_get (D := (dC, dI)) (ci := 4) (v := .ref mP) (C := zR_N) (T := zT_N) (N := 26) hx hb hts (fun w h => kz_c (zi_N w h)) hown hK hdy.1 0 rfl rfl 15 (by decide) (hts _ (kz_c mw_606)) (fun _ h9 => h9) rfl zd_N_find_118 ?_
                  refine lv_aload_n hx hb zd_N_find_121 rfl (lv_at hl 1 rfl) ?_
                  refine va_get (D := (dC, dI)) (ci := 4) (v := .ref mQ) (C := zR_N) (T := zT_N) (N := 26) hx hb hts (fun w h => kz_c (zi_N w h)) hown hK hdy.1 0 rfl rfl 16 (by decide) (hts _ (kz_c mw_607)) (fun _ h9 => h9) rfl zd_N_find_122 ?_
                  refine kz_callv (wk := [(o, .inr (4, [.int th, .int sta, .ref mt, .ref mn, .ref ml, .ref mc, .ref mh, .ref mk, .ref mp, .ref mm, .ref mb, .ref mw, .ref mr, .ref mx, .ref me, .ref mP, .ref mQ, .ref ms, .int (nI (0)), .int (nI (sz_)), .ref mo, .ref mW, .ref mD, .ref mB, .ref mR, .ref mS])), (mP, .inl (cI, 16, .inl (kz_dg d12))), (mQ, .inl (cI, 16, .inl (kz_dg d13))), (ms, .inl (cI, 18, .inl f7))]) (va_runV (As := [.ref mP, .ref mQ]) (rest := []) ⟨hx, hb, hml, hown, hts⟩ (c_Y_multiply l dC dI cI cAA cB cL mx o mt mn ml mc mh mk mp mm mb mw mr me mP mQ ms mo mW mD mB mR mS mP mQ gmx (th) (sta) ((nI (0))) sz_ d12 d13 _ hd_gmx hd_d12 hd_d13) (cwV 2 hts (kz_g (kz_mc mw_704 (kz_mc mw_706 (kz_mc mw_23 (kz_mc mw_43 kz_mn)))) mw_707) rfl rfl rfl (by decide +kernel) ⟨Nat.le_of_ble_eq_true rfl, Nat.le_of_ble_eq_true rfl⟩) (kz_preV hdy hA hK hro hZ hN [4] (by decide) rfl [(false, 0), (false, 1), (false, 2)] rfl (by decide) [0, 1, 2, 3] rfl (fun _ h => by cases h) (fun _ h => by cases h) rfl (ci := 4) (q0 := 0) rfl rfl rfl) rfl rfl hl.1 rfl (lv_room (Nat.le_of_ble_eq_true rfl)) zd_N_find_125 ⟨Nat.le_of_ble_eq_true rfl, Nat.le_of_ble_eq_true rfl⟩) hdy hA [4] [0, 1, 2, 3] rfl rfl (by decide) (by decide) (fun u H locs hw hdy => ?_)
                  obtain ⟨d14, rfl⟩ : ∃ z, z = u := ⟨_, rfl⟩
                  try dsimp only at hw
                  obtain ⟨hd_d14, q15, -⟩ := hw
                  have hdy : kz_dy (dC, dI) vwCl A s.heap H locs [(o, .inr (4, [.int th, .int sta, .ref mt, .ref mn, .ref ml, .ref mc, .ref mh, .ref mk, .ref mp, .ref mm, .ref mb, .ref mw, .ref mr, .ref mx, .ref me, .ref mP, .ref mQ, .ref ms, .int (nI (0)), .int (nI (sz_)), .ref mo, .ref mW, .ref mD, .ref mB, .ref mR, .ref mS])), (mP, .inl (cI, 16, .inl (kz_dg d12))), (mQ, .inl (cI, 16, .inl (kz_dg d13))), (ms, .inl (cI, 18, .inl f7)), (mx, .inl (cI, 32, .inl (kz_dg d14)))] := hdy.sub [0, 1, 2, 3, 4] (by decide) rfl
                  refine lv_lconst (v := 0) hx hb zd_N_find_128 (by decide) ?_
                  refine lv_topl (fun yl16 h9 => ?_)
                  obtain rfl : yl16 = kz_lz (0) := h9.trans (kz_lz_c0)
                  refine lv_topl (fun yl18 h9 => ?_)
                  obtain ⟨z17, ez17, rfl⟩ : ∃ z : Int, z = 0 ∧ yl18 = kz_lz z := ⟨_, rfl, h9⟩
                  refine lv_lstore_n (lv' := [(1, .long (kz_lz (z17))), (0, .ref o)]) hx hb zd_N_find_129 rfl hl (by decide) rfl (fun ls hl => ?_)
                  refine lv_bipush (v := (nI (15))) hx hb zd_N_find_130 (by decide) ?_
                  refine lv_istore_n (lv' := [(3, .int (nI (15))), (1, .long (kz_lz (z17))), (0, .ref o)]) hx hb zd_N_find_132 rfl hl (by decide) rfl (fun ls hl => ?_)
                  have lp133 : ∀ (n133 k133 : Nat) (z19 : Int) (H : Heap) (locs : List Loc) (ls : Array Slot), k133 ≤ 16 → k133 < n133 → (0 ≤ z19) → (z19 < 65537) → kz_dy (dC, dI) vwCl A s.heap H locs [(o, .inr (4, [.int th, .int sta, .ref mt, .ref mn, .ref ml, .ref mc, .ref mh, .ref mk, .ref mp, .ref mm, .ref mb, .ref mw, .ref mr, .ref mx, .ref me, .ref mP, .ref mQ, .ref ms, .int (nI (0)), .int (nI (sz_)), .ref mo, .ref mW, .ref mD, .ref mB, .ref mR, .ref mS])), (mP, .inl (cI, 16, .inl (kz_dg d12))), (mQ, .inl (cI, 16, .inl (kz_dg d13))), (ms, .inl (cI, 18, .inl f7)), (mx, .inl (cI, 32, .inl (kz_dg d14)))] → lv_has ls 9 [(3, .int (nI (k133) - 1)), (1, .long (kz_lz (z19))), (0, .ref o)] → W p l e { frames := 1, cells := 0, slots := 0, locals := 26 } s m ([.ref o] : List Value).toArray below meth c H locs 0 0 (MQ below (va_Qv (fun (u : Int32 × (Nat → Nat) × (Nat → Nat) × (Nat → Int32) × (Nat → Nat)) => (∀ j, u.2.1 j < 65536) ∧ (∀ j, u.2.2.1 j < 65536) ∧ (∀ j, u.2.2.2.2 j < 65536) ∧ (u.1 = 0 ∨ (kv_some (kv_fig gmt 16) 0 8 ∧ kv_some (kv_fig gmt 24) 0 8)) ∧ True) (kz_B (dC, dI) vwCl A (fun u : Int32 × (Nat → Nat) × (Nat → Nat) × (Nat → Int32) × (Nat → Nat) => [(o, .inr (4, [.int th, .int sta, .ref mt, .ref mn, .ref ml, .ref mc, .ref mh, .ref mk, .ref mp, .ref mm, .ref mb, .ref mw, .ref mr, .ref mx, .ref me, .ref mP, .ref mQ, .ref ms, .int u.1, .int (nI (sz_)), .ref mo, .ref mW, .ref mD, .ref mB, .ref mR, .ref mS])), (mP, .inl (cI, 16, .inl (kz_dg u.2.1))), (mQ, .inl (cI, 16, .inl (kz_dg u.2.2.1))), (ms, .inl (cI, 18, .inl u.2.2.2.1)), (mx, .inl (cI, 32, .inl (kz_dg u.2.2.2.2)))])) A) ([.ref o] : List Value).toArray s 0 0 A) (F0 m 133 ls []) := by
                    intro n133
                    induction n133 with
                    | zero => intro k133 z19 H locs ls hi133 hn133; exact absurd hn133 (Nat.not_lt_zero _)
                    | succ n133 ih133 =>
                      intro k133 z19 H locs ls hi133 hn133 hp0 hp1 hdy hl
                      refine lv_iload_n hx hb zd_N_find_133 rfl (lv_at hl 0 rfl) ?_
                      refine lv_if_lt (tgt := 161) hx hb zd_N_find_134 (by decide) (fun hc134 => ?_) (fun hc134 => ?_)
                      · have hc134 : k133 = 0 := (kz_neg (by omega)).mp hc134
                        refine lv_lload_n hx hb zd_N_find_161 rfl (lv_at hl 1 rfl) ?_
                        refine lv_lconst (v := 0) hx hb zd_N_find_162 (by decide) ?_
                        refine lv_topl (fun yl20 h9 => ?_)
                        obtain rfl : yl20 = kz_lz (0) := h9.trans (kz_lz_c0)
                        refine kz_lne (tgt := 168) hx hb zd_N_find_163 zd_N_find_164 (by decide) (fun hc164 => ?_) (fun hc164 => ?_)
                        · have hc164 : ¬ z19 = 0 := fun h9 => hc164 ((kz_lz_eq (by omega) (by omega) (by omega) (by omega)).mpr h9)
                          obtain ⟨x9, hx9, hx7⟩ := kv_invZ (z := z19) (by omega) (by omega) hc164
                          refine lv_iconst (v := (nI (0))) hx hb zd_N_find_168 (by decide) ?_
                          refine lv_istore_n (lv' := [(3, .int (nI (0))), (1, .long (kz_lz (z19))), (0, .ref o)]) hx hb zd_N_find_169 rfl hl (by decide) rfl (fun ls hl => ?_)
                          have lp170 : ∀ (n170 k170 : Nat) (H : Heap) (locs : List Loc) (ls : Array Slot), k170 ≤ x9 → x9 - k170 < n170 → kz_dy (dC, dI) vwCl A s.heap H locs [(o, .inr (4, [.int th, .int sta, .ref mt, .ref mn, .ref ml, .ref mc, .ref mh, .ref mk, .ref mp, .ref mm, .ref mb, .ref mw, .ref mr, .ref mx, .ref me, .ref mP, .ref mQ, .ref ms, .int (nI (0)), .int (nI (sz_)), .ref mo, .ref mW, .ref mD, .ref mB, .ref mR, .ref mS])), (mP, .inl (cI, 16, .inl (kz_dg d12))), (mQ, .inl (cI, 16, .inl (kz_dg d13))), (ms, .inl (cI, 18, .inl f7)), (mx, .inl (cI, 32, .inl (kz_dg d14)))] → lv_has ls 9 [(3, .int (nI (k170))), (1, .long (kz_lz (z19))), (0, .ref o)] → W p l e { frames := 1, cells := 0, slots := 0, locals := 26 } s m ([.ref o] : List Value).toArray below meth c H locs 0 0 (MQ below (va_Qv (fun (u : Int32 × (Nat → Nat) × (Nat → Nat) × (Nat → Int32) × (Nat → Nat)) => (∀ j, u.2.1 j < 65536) ∧ (∀ j, u.2.2.1 j < 65536) ∧ (∀ j, u.2.2.2.2 j < 65536) ∧ (u.1 = 0 ∨ (kv_some (kv_fig gmt 16) 0 8 ∧ kv_some (kv_fig gmt 24) 0 8)) ∧ True) (kz_B (dC, dI) vwCl A (fun u : Int32 × (Nat → Nat) × (Nat → Nat) × (Nat → Int32) × (Nat → Nat) => [(o, .inr (4, [.int th, .int sta, .ref mt, .ref mn, .ref ml, .ref mc, .ref mh, .ref mk, .ref mp, .ref mm, .ref mb, .ref mw, .ref mr, .ref mx, .ref me, .ref mP, .ref mQ, .ref ms, .int u.1, .int (nI (sz_)), .ref mo, .ref mW, .ref mD, .ref mB, .ref mR, .ref mS])), (mP, .inl (cI, 16, .inl (kz_dg u.2.1))), (mQ, .inl (cI, 16, .inl (kz_dg u.2.2.1))), (ms, .inl (cI, 18, .inl u.2.2.2.1)), (mx, .inl (cI, 32, .inl (kz_dg u.2.2.2.2)))])) A) ([.ref o] : List Value).toArray s 0 0 A) (F0 m 170 ls []) := by
                            intro n170
                            induction n170 with
                            | zero => intro k170; intros; omega
                            | succ n170 ih170 =>
                              intro k170 H locs ls hi170 hn170 hdy hl
                              refine lv_lconst (v := 1) hx hb zd_N_find_170 (by decide) ?_
                              refine lv_topl (fun yl21 h9 => ?_)
                              obtain rfl : yl21 = kz_lz (1) := h9.trans (kz_lz_c1)
                              refine lv_iload_n hx hb zd_N_find_171 rfl (lv_at hl 0 rfl) ?_
                              refine lv_i2l hx hb zd_N_find_172 (kz_lz_i (n := k170) (by omega)) ?_
                              refine lv_lload_n hx hb zd_N_find_173 rfl (lv_at hl 1 rfl) ?_
                              refine lv_lmul hx hb zd_N_find_174 ?_
                              refine lv_topl (fun yl22 h9 => ?_)
                              obtain rfl : yl22 = kz_lz ((((k170 : Nat) : Int)) * z19) := h9.trans (kz_lz_mul _ _)
                              refine lv_ladd hx hb zd_N_find_175 ?_
                              refine lv_topl (fun yl23 h9 => ?_)
                              obtain rfl : yl23 = kz_lz (1 + ((((k170 : Nat) : Int)) * z19)) := h9.trans (kz_lz_add _ _)
                              have hkz := kv_kz (k := k170) (z := z19) (by omega) (by omega) (by omega)
                              refine lv_ldc2 (v := (65537)) hx hb hown (hts _ (kz_c mw_710)) zd_N_find_176 ?_
                              refine lv_topl (fun yl24 h9 => ?_)
                              obtain rfl : yl24 = kz_lz (65537) := h9.trans (kz_lz_c65537)
                              refine lv_lrem hx hb zd_N_find_179 (kz_lz_ne0 (by omega) (by omega)) ?_
                              refine lv_topl (fun yl25 h9 => ?_)
                              obtain rfl : yl25 = kz_lz ((1 + ((((k170 : Nat) : Int)) * z19)) % 65537) := h9.trans (kz_lz_remz (by omega) (by omega) (by omega) (by omega))
                              refine lv_lconst (v := 0) hx hb zd_N_find_180 (by decide) ?_
                              refine lv_topl (fun yl26 h9 => ?_)
                              obtain rfl : yl26 = kz_lz (0) := h9.trans (kz_lz_c0)
                              refine kz_leq (tgt := 191) hx hb zd_N_find_181 zd_N_find_182 (by decide) (fun hc182 => ?_) (fun hc182 => ?_)
                              · have hc182 : ((1 + ((((k170 : Nat) : Int)) * z19)) % 65537) = 0 := (kz_lz_eq (by omega) (by omega) (by omega) (by omega)).mp hc182
                                refine lv_lconst (v := 1) hx hb zd_N_find_191 (by decide) ?_
                                refine lv_topl (fun yl27 h9 => ?_)
                                obtain rfl : yl27 = kz_lz (1) := h9.trans (kz_lz_c1)
                                refine lv_topl (fun yl29 h9 => ?_)
                                obtain ⟨z28, ez28, rfl⟩ : ∃ z : Int, z = 1 ∧ yl29 = kz_lz z := ⟨_, rfl, h9⟩
                                refine lv_lstore (lv' := [(4, .long (kz_lz (z28))), (3, .int (nI (k170))), (1, .long (kz_lz (z19))), (0, .ref o)]) hx hb zd_N_find_192 hl (by decide) rfl (fun ls hl => ?_)
                                refine lv_iconst (v := (nI (0))) hx hb zd_N_find_194 (by decide) ?_
                                refine lv_istore (lv' := [(6, .int (nI (0))), (4, .long (kz_lz (z28))), (3, .int (nI (k170))), (1, .long (kz_lz (z19))), (0, .ref o)]) hx hb zd_N_find_195 hl (by decide) rfl (fun ls hl => ?_)
                                have lp197 : ∀ (n197 k197 : Nat) (yl30 : Int64) (f31 : Nat → Int32) (H : Heap) (locs : List Loc) (ls : Array Slot), k197 ≤ 18 → 18 - k197 < n197 → kz_dy (dC, dI) vwCl A s.heap H locs [(o, .inr (4, [.int th, .int sta, .ref mt, .ref mn, .ref ml, .ref mc, .ref mh, .ref mk, .ref mp, .ref mm, .ref mb, .ref mw, .ref mr, .ref mx, .ref me, .ref mP, .ref mQ, .ref ms, .int (nI (0)), .int (nI (sz_)), .ref mo, .ref mW, .ref mD, .ref mB, .ref mR, .ref mS])), (mP, .inl (cI, 16, .inl (kz_dg d12))), (mQ, .inl (cI, 16, .inl (kz_dg d13))), (ms, .inl (cI, 18, .inl f31)), (mx, .inl (cI, 32, .inl (kz_dg d14)))] → lv_has ls 9 [(6, .int (nI (k197))), (4, .long yl30), (3, .int (nI (k170))), (1, .long (kz_lz (z19))), (0, .ref o)] → W p l e { frames := 1, cells := 0, slots := 0, locals := 26 } s m ([.ref o] : List Value).toArray below meth c H locs 0 0 (MQ below (va_Qv (fun (u : Int32 × (Nat → Nat) × (Nat → Nat) × (Nat → Int32) × (Nat → Nat)) => (∀ j, u.2.1 j < 65536) ∧ (∀ j, u.2.2.1 j < 65536) ∧ (∀ j, u.2.2.2.2 j < 65536) ∧ (u.1 = 0 ∨ (kv_some (kv_fig gmt 16) 0 8 ∧ kv_some (kv_fig gmt 24) 0 8)) ∧ True) (kz_B (dC, dI) vwCl A (fun u : Int32 × (Nat → Nat) × (Nat → Nat) × (Nat → Int32) × (Nat → Nat) => [(o, .inr (4, [.int th, .int sta, .ref mt, .ref mn, .ref ml, .ref mc, .ref mh, .ref mk, .ref mp, .ref mm, .ref mb, .ref mw, .ref mr, .ref mx, .ref me, .ref mP, .ref mQ, .ref ms, .int u.1, .int (nI (sz_)), .ref mo, .ref mW, .ref mD, .ref mB, .ref mR, .ref mS])), (mP, .inl (cI, 16, .inl (kz_dg u.2.1))), (mQ, .inl (cI, 16, .inl (kz_dg u.2.2.1))), (ms, .inl (cI, 18, .inl u.2.2.2.1)), (mx, .inl (cI, 32, .inl (kz_dg u.2.2.2.2)))])) A) ([.ref o] : List Value).toArray s 0 0 A) (F0 m 197 ls []) := by
                                  intro n197
                                  induction n197 with
                                  | zero => intro k197; intros; omega
                                  | succ n197 ih197 =>
                                    intro k197 yl30 f31 H locs ls hi197 hn197 hdy hl
                                    refine lv_iload hx hb zd_N_find_197 (lv_at hl 0 rfl) ?_
                                    refine lv_bipush (v := (nI (18))) hx hb zd_N_find_199 (by decide) ?_
                                    refine lv_icmp_ge (tgt := 258) hx hb zd_N_find_201 (by decide) (fun hc201 => ?_) (fun hc201 => ?_)
                                    · have hc201 : 18 ≤ k197 := (nI_leI (by omega) (by omega)).mp hc201
                                      refine lv_lconst (v := 0) hx hb zd_N_find_258 (by decide) ?_
                                      refine lv_topl (fun yl32 h9 => ?_)
                                      obtain rfl : yl32 = kz_lz (0) := h9.trans (kz_lz_c0)
                                      refine lv_topl (fun yl34 h9 => ?_)
                                      obtain ⟨z33, ez33, rfl⟩ : ∃ z : Int, z = 0 ∧ yl34 = kz_lz z := ⟨_, rfl, h9⟩
                                      refine lv_lstore (lv' := [(6, .long (kz_lz (z33))), (4, .long yl30), (3, .int (nI (k170))), (1, .long (kz_lz (z19))), (0, .ref o)]) hx hb zd_N_find_259 hl (by decide) rfl (fun ls hl => ?_)
                                      refine lv_bipush (v := (nI (17))) hx hb zd_N_find_261 (by decide) ?_
                                      refine lv_istore (lv' := [(8, .int (nI (17))), (6, .long (kz_lz (z33))), (4, .long yl30), (3, .int (nI (k170))), (1, .long (kz_lz (z19))), (0, .ref o)]) hx hb zd_N_find_263 hl (by decide) rfl (fun ls hl => ?_)
                                      have lp265 : ∀ (n265 k265 : Nat) (yl35 : Int64) (f36 : Nat → Int32) (H : Heap) (locs : List Loc) (ls : Array Slot), k265 ≤ 18 → k265 < n265 → kz_dy (dC, dI) vwCl A s.heap H locs [(o, .inr (4, [.int th, .int sta, .ref mt, .ref mn, .ref ml, .ref mc, .ref mh, .ref mk, .ref mp, .ref mm, .ref mb, .ref mw, .ref mr, .ref mx, .ref me, .ref mP, .ref mQ, .ref ms, .int (nI (0)), .int (nI (sz_)), .ref mo, .ref mW, .ref mD, .ref mB, .ref mR, .ref mS])), (mP, .inl (cI, 16, .inl (kz_dg d12))), (mQ, .inl (cI, 16, .inl (kz_dg d13))), (ms, .inl (cI, 18, .inl f36)), (mx, .inl (cI, 32, .inl (kz_dg d14)))] → lv_has ls 9 [(8, .int (nI (k265) - 1)), (6, .long yl35), (4, .long yl30), (3, .int (nI (k170))), (1, .long (kz_lz (z19))), (0, .ref o)] → W p l e { frames := 1, cells := 0, slots := 0, locals := 26 } s m ([.ref o] : List Value).toArray below meth c H locs 0 0 (MQ below (va_Qv (fun (u : Int32 × (Nat → Nat) × (Nat → Nat) × (Nat → Int32) × (Nat → Nat)) => (∀ j, u.2.1 j < 65536) ∧ (∀ j, u.2.2.1 j < 65536) ∧ (∀ j, u.2.2.2.2 j < 65536) ∧ (u.1 = 0 ∨ (kv_some (kv_fig gmt 16) 0 8 ∧ kv_some (kv_fig gmt 24) 0 8)) ∧ True) (kz_B (dC, dI) vwCl A (fun u : Int32 × (Nat → Nat) × (Nat → Nat) × (Nat → Int32) × (Nat → Nat) => [(o, .inr (4, [.int th, .int sta, .ref mt, .ref mn, .ref ml, .ref mc, .ref mh, .ref mk, .ref mp, .ref mm, .ref mb, .ref mw, .ref mr, .ref mx, .ref me, .ref mP, .ref mQ, .ref ms, .int u.1, .int (nI (sz_)), .ref mo, .ref mW, .ref mD, .ref mB, .ref mR, .ref mS])), (mP, .inl (cI, 16, .inl (kz_dg u.2.1))), (mQ, .inl (cI, 16, .inl (kz_dg u.2.2.1))), (ms, .inl (cI, 18, .inl u.2.2.2.1)), (mx, .inl (cI, 32, .inl (kz_dg u.2.2.2.2)))])) A) ([.ref o] : List Value).toArray s 0 0 A) (F0 m 265 ls []) := by
                                        intro n265
                                        induction n265 with
                                        | zero => intro k265 yl35 f36 H locs ls hi265 hn265; exact absurd hn265 (Nat.not_lt_zero _)
                                        | succ n265 ih265 =>
                                          intro k265 yl35 f36 H locs ls hi265 hn265 hdy hl
                                          refine lv_iload hx hb zd_N_find_265 (lv_at hl 0 rfl) ?_
                                          refine lv_if_lt (tgt := 315) hx hb zd_N_find_267 (by decide) (fun hc267 => ?_) (fun hc267 => ?_)
                                          · have hc267 : k265 = 0 := (kz_neg (by omega)).mp hc267
                                            refine lv_aload_n hx hb zd_N_find_315 rfl (lv_at hl 5 rfl) ?_
                                            refine lv_iconst (v := (nI (1))) hx hb zd_N_find_316 (by decide) ?_
                                            refine va_put (D := (dC, dI)) (ci := 4) (v := .int (nI (1))) (ty := .boolean) (C := zR_N) (T := zT_N) (N := 26) hx hb hts (fun w h => kz_c (zi_N w h)) zt_N zo_N zn_N hown hK hdy.1 hdy.2.1 hdy.2.2 0 rfl rfl 18 (by decide) (hts _ (kz_c mw_609)) (fun _ h9 => h9) rfl (by decide +kernel) rfl rfl (Nat.le_of_ble_eq_true rfl) zd_N_find_317 (fun H locs hP hD hS => ?_)
                                            have hdy : kz_dy (dC, dI) vwCl A s.heap H locs [(o, .inr (4, [.int th, .int sta, .ref mt, .ref mn, .ref ml, .ref mc, .ref mh, .ref mk, .ref mp, .ref mm, .ref mb, .ref mw, .ref mr, .ref mx, .ref me, .ref mP, .ref mQ, .ref ms, .int (nI (1)), .int (nI (sz_)), .ref mo, .ref mW, .ref mD, .ref mB, .ref mR, .ref mS])), (mP, .inl (cI, 16, .inl (kz_dg d12))), (mQ, .inl (cI, 16, .inl (kz_dg d13))), (ms, .inl (cI, 18, .inl f36)), (mx, .inl (cI, 32, .inl (kz_dg d14)))] := ⟨hP, hD, hS⟩
                                            exact kz_vret F ((nI (1)), d12, d13, f36, d14) hdy (⟨hd_d12, hd_d13, hd_d14, by first | exact Or.inl rfl | exact Or.inr ⟨hfP, hfQ⟩, trivial⟩) zd_N_find_320
                                          · have hc267 : ¬ k265 = 0 := fun h9 => hc267 ((kz_neg (by omega)).mpr h9)
                                            obtain ⟨k265p, rfl⟩ : ∃ j, k265 = j + 1 := ⟨k265 - 1, by omega⟩
                                            rw [nI_pred] at hl
                                            refine lv_ldc2 (v := (65536)) hx hb hown (hts _ (kz_c mw_709)) zd_N_find_270 ?_
                                            refine lv_topl (fun yl37 h9 => ?_)
                                            obtain rfl : yl37 = kz_lz (65536) := h9.trans (kz_lz_c65536)
                                            refine lv_lload hx hb zd_N_find_273 (lv_at hl 1 rfl) ?_
                                            refine lv_lmul hx hb zd_N_find_275 ?_
                                            refine lv_topl (fun yl38 _ => ?_)
                                            refine lv_aload_n hx hb zd_N_find_276 rfl (lv_at hl 5 rfl) ?_
                                            refine va_get (D := (dC, dI)) (ci := 4) (v := .ref ms) (C := zR_N) (T := zT_N) (N := 26) hx hb hts (fun w h => kz_c (zi_N w h)) hown hK hdy.1 0 rfl rfl 17 (by decide) (hts _ (kz_c mw_608)) (fun _ h9 => h9) rfl zd_N_find_277 ?_
                                            refine lv_iload hx hb zd_N_find_280 (lv_at hl 0 rfl) ?_
                                            refine va_iald hx hb hK hdy.1 3 0 rfl rfl (vp_in_nI (by omega) (by omega)) zd_N_find_282 ?_
                                            refine lv_topi (fun x39 h9 => ?_)
                                            obtain rfl : x39 = f36 k265p := h9.trans (by rw [nI_clamp (by omega)])
                                            refine lv_i2l hx hb zd_N_find_283 rfl ?_
                                            refine lv_topl (fun yl40 _ => ?_)
                                            refine lv_ladd hx hb zd_N_find_284 ?_
                                            refine lv_topl (fun yl41 _ => ?_)
                                            refine lv_lstore (lv' := [(6, .long yl41), (8, .int (nI (k265p))), (4, .long yl30), (3, .int (nI (k170))), (1, .long (kz_lz (z19))), (0, .ref o)]) hx hb zd_N_find_285 hl (by decide) rfl (fun ls hl => ?_)
                                            refine lv_aload_n hx hb zd_N_find_287 rfl (lv_at hl 5 rfl) ?_
                                            refine va_get (D := (dC, dI)) (ci := 4) (v := .ref ms) (C := zR_N) (T := zT_N) (N := 26) hx hb hts (fun w h => kz_c (zi_N w h)) hown hK hdy.1 0 rfl rfl 17 (by decide) (hts _ (kz_c mw_608)) (fun _ h9 => h9) rfl zd_N_find_288 ?_
                                            refine lv_iload hx hb zd_N_find_291 (lv_at hl 1 rfl) ?_
                                            refine lv_lload hx hb zd_N_find_293 (lv_at hl 0 rfl) ?_
                                            refine lv_ldc2 (v := (65537)) hx hb hown (hts _ (kz_c mw_710)) zd_N_find_295 ?_
                                            refine lv_topl (fun yl42 h9 => ?_)
                                            obtain rfl : yl42 = kz_lz (65537) := h9.trans (kz_lz_c65537)
                                            refine lv_ldiv hx hb zd_N_find_298 (kz_lz_ne0 (by omega) (by omega)) ?_
                                            refine lv_topl (fun yl43 _ => ?_)
                                            refine lv_l2i hx hb zd_N_find_299 rfl ?_
                                            refine lv_topi (fun x44 _ => ?_)
                                            refine va_iast hx hb hK hdy.1 hdy.2.1 hdy.2.2 3 0 rfl rfl (vp_in_nI (by omega) (by omega)) zd_N_find_300 (fun H locs hP hD hS => ?_)
                                            rw [nI_clamp (by omega)] at hP hD
                                            obtain ⟨f45, ef45, hdy⟩ : ∃ f45 : Nat → Int32, f45 = upd f36 k265p (x44) ∧ kz_dy (dC, dI) vwCl A s.heap H locs [(o, .inr (4, [.int th, .int sta, .ref mt, .ref mn, .ref ml, .ref mc, .ref mh, .ref mk, .ref mp, .ref mm, .ref mb, .ref mw, .ref mr, .ref mx, .ref me, .ref mP, .ref mQ, .ref ms, .int (nI (0)), .int (nI (sz_)), .ref mo, .ref mW, .ref mD, .ref mB, .ref mR, .ref mS])), (mP, .inl (cI, 16, .inl (kz_dg d12))), (mQ, .inl (cI, 16, .inl (kz_dg d13))), (ms, .inl (cI, 18, .inl f45)), (mx, .inl (cI, 32, .inl (kz_dg d14)))] := ⟨_, rfl, hP, hD, hS⟩
                                            refine lv_lload hx hb zd_N_find_301 (lv_at hl 0 rfl) ?_
                                            refine lv_ldc2 (v := (65537)) hx hb hown (hts _ (kz_c mw_710)) zd_N_find_303 ?_
                                            refine lv_topl (fun yl46 h9 => ?_)
                                            obtain rfl : yl46 = kz_lz (65537) := h9.trans (kz_lz_c65537)
                                            refine lv_lrem hx hb zd_N_find_306 (kz_lz_ne0 (by omega) (by omega)) ?_
                                            refine lv_topl (fun yl47 _ => ?_)
                                            refine lv_lstore (lv' := [(6, .long yl47), (8, .int (nI (k265p))), (4, .long yl30), (3, .int (nI (k170))), (1, .long (kz_lz (z19))), (0, .ref o)]) hx hb zd_N_find_307 hl (by decide) rfl (fun ls hl => ?_)
                                            refine lv_iinc (v := (nI (k265p) - 1)) (lv' := [(8, .int (nI (k265p) - 1)), (6, .long yl47), (4, .long yl30), (3, .int (nI (k170))), (1, .long (kz_lz (z19))), (0, .ref o)]) hx hb zd_N_find_309 hl (k := 1) rfl (kz_m1 _) (by decide) rfl (fun ls hl => ?_)
                                            refine lv_goto (tgt := 265) hx hb zd_N_find_312 (by decide) ?_
                                            exact ih265 k265p (yl47) f45 _ _ _ (by omega) (by omega) hdy (lv_sub hl [0, 1, 2, 3, 4, 5] rfl)
                                      exact lp265 (18 + 1) 18 ((kz_lz (z33))) f31 _ _ _ (by omega) (by omega) hdy (lv_sub hl [0, 1, 2, 3, 4, 5] rfl)
                                    · have hc201 : ¬ 18 ≤ k197 := fun h9 => hc201 ((nI_leI (by omega) (by omega)).mpr h9)
                                      refine lv_lload hx hb zd_N_find_204 (lv_at hl 1 rfl) ?_
                                      refine lv_iload hx hb zd_N_find_206 (lv_at hl 0 rfl) ?_
                                      refine lv_bipush (v := (nI (16))) hx hb zd_N_find_208 (by decide) ?_
                                      refine lv_icmp_ge (tgt := 227) hx hb zd_N_find_210 (by decide) (fun hc210 => ?_) (fun hc210 => ?_)
                                      · have hc210 : 16 ≤ k197 := (nI_leI (by omega) (by omega)).mp hc210
                                        refine lv_lconst (v := 0) hx hb zd_N_find_227 (by decide) ?_
                                        refine lv_topl (fun yl48 h9 => ?_)
                                        obtain rfl : yl48 = kz_lz (0) := h9.trans (kz_lz_c0)
                                        refine lv_ladd hx hb zd_N_find_228 ?_
                                        refine lv_topl (fun yl49 _ => ?_)
                                        refine lv_lstore (lv' := [(4, .long yl49), (6, .int (nI (k197))), (3, .int (nI (k170))), (1, .long (kz_lz (z19))), (0, .ref o)]) hx hb zd_N_find_229 hl (by decide) rfl (fun ls hl => ?_)
                                        refine lv_aload_n hx hb zd_N_find_231 rfl (lv_at hl 4 rfl) ?_
                                        refine va_get (D := (dC, dI)) (ci := 4) (v := .ref ms) (C := zR_N) (T := zT_N) (N := 26) hx hb hts (fun w h => kz_c (zi_N w h)) hown hK hdy.1 0 rfl rfl 17 (by decide) (hts _ (kz_c mw_608)) (fun _ h9 => h9) rfl zd_N_find_232 ?_
                                        refine lv_iload hx hb zd_N_find_235 (lv_at hl 1 rfl) ?_
                                        refine lv_lload hx hb zd_N_find_237 (lv_at hl 0 rfl) ?_
                                        refine lv_ldc2 (v := (65535)) hx hb hown (hts _ (kz_c mw_708)) zd_N_find_239 ?_
                                        refine lv_topl (fun yl50 h9 => ?_)
                                        obtain rfl : yl50 = kz_lz (65535) := h9.trans (kz_lz_c65535)
                                        refine kz_mask16 hx hb zd_N_find_242 (fun w51 hw51 => ?_)
                                        refine lv_l2i hx hb zd_N_find_243 (kz_lz_in (z := ((w51 : Nat) : Int)) (by omega)) ?_
                                        refine va_iast hx hb hK hdy.1 hdy.2.1 hdy.2.2 3 0 rfl rfl (vp_in_nI (by omega) (by omega)) zd_N_find_244 (fun H locs hP hD hS => ?_)
                                        rw [nI_clamp (by omega)] at hP hD
                                        obtain ⟨f52, ef52, hdy⟩ : ∃ f52 : Nat → Int32, f52 = upd f31 k197 ((nI ((((w51 : Nat) : Int)).toNat))) ∧ kz_dy (dC, dI) vwCl A s.heap H locs [(o, .inr (4, [.int th, .int sta, .ref mt, .ref mn, .ref ml, .ref mc, .ref mh, .ref mk, .ref mp, .ref mm, .ref mb, .ref mw, .ref mr, .ref mx, .ref me, .ref mP, .ref mQ, .ref ms, .int (nI (0)), .int (nI (sz_)), .ref mo, .ref mW, .ref mD, .ref mB, .ref mR, .ref mS])), (mP, .inl (cI, 16, .inl (kz_dg d12))), (mQ, .inl (cI, 16, .inl (kz_dg d13))), (ms, .inl (cI, 18, .inl f52)), (mx, .inl (cI, 32, .inl (kz_dg d14)))] := ⟨_, rfl, hP, hD, hS⟩
                                        refine lv_lload hx hb zd_N_find_245 (lv_at hl 0 rfl) ?_
                                        refine lv_bipush (v := (nI (16))) hx hb zd_N_find_247 (by decide) ?_
                                        refine lv_lshr hx hb zd_N_find_249 rfl ?_
                                        refine lv_topl (fun yl53 _ => ?_)
                                        refine lv_lstore (lv' := [(4, .long yl53), (6, .int (nI (k197))), (3, .int (nI (k170))), (1, .long (kz_lz (z19))), (0, .ref o)]) hx hb zd_N_find_250 hl (by decide) rfl (fun ls hl => ?_)
                                        refine lv_iinc (v := (nI (k197 + 1))) (lv' := [(6, .int (nI (k197 + 1))), (4, .long yl53), (3, .int (nI (k170))), (1, .long (kz_lz (z19))), (0, .ref o)]) hx hb zd_N_find_252 hl (k := 1) rfl (nI_1 _) (by decide) rfl (fun ls hl => ?_)
                                        refine lv_goto (tgt := 197) hx hb zd_N_find_255 (by decide) ?_
                                        exact ih197 (k197 + 1) (yl53) f52 _ _ _ (by omega) (by omega) hdy (lv_sub hl [0, 1, 2, 3, 4] rfl)
                                      · have hc210 : ¬ 16 ≤ k197 := fun h9 => hc210 ((nI_leI (by omega) (by omega)).mpr h9)
                                        refine lv_iload_n hx hb zd_N_find_213 rfl (lv_at hl 2 rfl) ?_
                                        refine lv_i2l hx hb zd_N_find_214 (kz_lz_i (n := k170) (by omega)) ?_
                                        refine lv_aload_n hx hb zd_N_find_215 rfl (lv_at hl 4 rfl) ?_
                                        refine va_get (D := (dC, dI)) (ci := 4) (v := .ref mx) (C := zR_N) (T := zT_N) (N := 26) hx hb hts (fun w h => kz_c (zi_N w h)) hown hK hdy.1 0 rfl rfl 13 (by decide) (hts _ (kz_c mw_604)) (fun _ h9 => h9) rfl zd_N_find_216 ?_
                                        refine lv_iload hx hb zd_N_find_219 (lv_at hl 0 rfl) ?_
                                        refine va_iald hx hb hK hdy.1 4 0 rfl rfl (vp_in_nI (by omega) (by omega)) zd_N_find_221 ?_
                                        refine lv_topi (fun x54 h9 => ?_)
                                        obtain rfl : x54 = nI (d14 k197) := h9.trans (kz_dgl d14 (by omega))
                                        have hbx54 := hd_d14 k197
                                        refine lv_i2l hx hb zd_N_find_222 (kz_lz_i (n := d14 k197) (by omega)) ?_
                                        refine lv_lmul hx hb zd_N_find_223 ?_
                                        refine lv_topl (fun yl55 h9 => ?_)
                                        obtain rfl : yl55 = kz_lz ((((k170 : Nat) : Int)) * (((d14 k197 : Nat) : Int))) := h9.trans (kz_lz_mul _ _)
                                        refine lv_goto (tgt := 228) hx hb zd_N_find_224 (by decide) ?_
                                        refine lv_ladd hx hb zd_N_find_228 ?_
                                        refine lv_topl (fun yl56 _ => ?_)
                                        refine lv_lstore (lv' := [(4, .long yl56), (6, .int (nI (k197))), (3, .int (nI (k170))), (1, .long (kz_lz (z19))), (0, .ref o)]) hx hb zd_N_find_229 hl (by decide) rfl (fun ls hl => ?_)
                                        refine lv_aload_n hx hb zd_N_find_231 rfl (lv_at hl 4 rfl) ?_
                                        refine va_get (D := (dC, dI)) (ci := 4) (v := .ref ms) (C := zR_N) (T := zT_N) (N := 26) hx hb hts (fun w h => kz_c (zi_N w h)) hown hK hdy.1 0 rfl rfl 17 (by decide) (hts _ (kz_c mw_608)) (fun _ h9 => h9) rfl zd_N_find_232 ?_
                                        refine lv_iload hx hb zd_N_find_235 (lv_at hl 1 rfl) ?_
                                        refine lv_lload hx hb zd_N_find_237 (lv_at hl 0 rfl) ?_
                                        refine lv_ldc2 (v := (65535)) hx hb hown (hts _ (kz_c mw_708)) zd_N_find_239 ?_
                                        refine lv_topl (fun yl57 h9 => ?_)
                                        obtain rfl : yl57 = kz_lz (65535) := h9.trans (kz_lz_c65535)
                                        refine kz_mask16 hx hb zd_N_find_242 (fun w58 hw58 => ?_)
                                        refine lv_l2i hx hb zd_N_find_243 (kz_lz_in (z := ((w58 : Nat) : Int)) (by omega)) ?_
                                        refine va_iast hx hb hK hdy.1 hdy.2.1 hdy.2.2 3 0 rfl rfl (vp_in_nI (by omega) (by omega)) zd_N_find_244 (fun H locs hP hD hS => ?_)
                                        rw [nI_clamp (by omega)] at hP hD
                                        obtain ⟨f59, ef59, hdy⟩ : ∃ f59 : Nat → Int32, f59 = upd f31 k197 ((nI ((((w58 : Nat) : Int)).toNat))) ∧ kz_dy (dC, dI) vwCl A s.heap H locs [(o, .inr (4, [.int th, .int sta, .ref mt, .ref mn, .ref ml, .ref mc, .ref mh, .ref mk, .ref mp, .ref mm, .ref mb, .ref mw, .ref mr, .ref mx, .ref me, .ref mP, .ref mQ, .ref ms, .int (nI (0)), .int (nI (sz_)), .ref mo, .ref mW, .ref mD, .ref mB, .ref mR, .ref mS])), (mP, .inl (cI, 16, .inl (kz_dg d12))), (mQ, .inl (cI, 16, .inl (kz_dg d13))), (ms, .inl (cI, 18, .inl f59)), (mx, .inl (cI, 32, .inl (kz_dg d14)))] := ⟨_, rfl, hP, hD, hS⟩
                                        refine lv_lload hx hb zd_N_find_245 (lv_at hl 0 rfl) ?_
                                        refine lv_bipush (v := (nI (16))) hx hb zd_N_find_247 (by decide) ?_
                                        refine lv_lshr hx hb zd_N_find_249 rfl ?_
                                        refine lv_topl (fun yl60 _ => ?_)
                                        refine lv_lstore (lv' := [(4, .long yl60), (6, .int (nI (k197))), (3, .int (nI (k170))), (1, .long (kz_lz (z19))), (0, .ref o)]) hx hb zd_N_find_250 hl (by decide) rfl (fun ls hl => ?_)
                                        refine lv_iinc (v := (nI (k197 + 1))) (lv' := [(6, .int (nI (k197 + 1))), (4, .long yl60), (3, .int (nI (k170))), (1, .long (kz_lz (z19))), (0, .ref o)]) hx hb zd_N_find_252 hl (k := 1) rfl (nI_1 _) (by decide) rfl (fun ls hl => ?_)
                                        refine lv_goto (tgt := 197) hx hb zd_N_find_255 (by decide) ?_
                                        exact ih197 (k197 + 1) (yl60) f59 _ _ _ (by omega) (by omega) hdy (lv_sub hl [0, 1, 2, 3, 4] rfl)
                                exact lp197 (18 - 0 + 1) 0 ((kz_lz (z28))) f7 _ _ _ (by omega) (by omega) hdy (lv_sub hl [0, 1, 2, 3, 4] rfl)
                              · have hc182 : ¬ ((1 + ((((k170 : Nat) : Int)) * z19)) % 65537) = 0 := fun h9 => hc182 ((kz_lz_eq (by omega) (by omega) (by omega) (by omega)).mpr h9)
                                have hne : k170 ≠ x9 := fun q => hc182 (by rw [q]; exact hx7)
                                refine lv_iinc (v := (nI (k170 + 1))) (lv' := [(3, .int (nI (k170 + 1))), (1, .long (kz_lz (z19))), (0, .ref o)]) hx hb zd_N_find_185 hl (k := 0) rfl (nI_1 _) (by decide) rfl (fun ls hl => ?_)
                                refine lv_goto (tgt := 170) hx hb zd_N_find_188 (by decide) ?_
                                exact ih170 (k170 + 1) _ _ _ (by omega) (by omega) hdy (lv_sub hl [0, 1, 2] rfl)
                          exact lp170 (x9 - 0 + 1) 0 _ _ _ (by omega) (by omega) hdy (lv_sub hl [0, 1, 2] rfl)
                        · have hc164 : z19 = 0 := (kz_lz_eq (by omega) (by omega) (by omega) (by omega)).mp hc164
                          exact kz_vret F ((nI (0)), d12, d13, f7, d14) hdy (⟨hd_d12, hd_d13, hd_d14, by first | exact Or.inl rfl | exact Or.inr ⟨hfP, hfQ⟩, trivial⟩) zd_N_find_167
                      · have hc134 : ¬ k133 = 0 := fun h9 => hc134 ((kz_neg (by omega)).mpr h9)
                        obtain ⟨k133p, rfl⟩ : ∃ j, k133 = j + 1 := ⟨k133 - 1, by omega⟩
                        rw [nI_pred] at hl
                        refine lv_ldc2 (v := (65536)) hx hb hown (hts _ (kz_c mw_709)) zd_N_find_137 ?_
                        refine lv_topl (fun yl61 h9 => ?_)
                        obtain rfl : yl61 = kz_lz (65536) := h9.trans (kz_lz_c65536)
                        refine lv_lload_n hx hb zd_N_find_140 rfl (lv_at hl 1 rfl) ?_
                        refine lv_lmul hx hb zd_N_find_141 ?_
                        refine lv_topl (fun yl62 h9 => ?_)
                        obtain rfl : yl62 = kz_lz (65536 * z19) := h9.trans (kz_lz_mul _ _)
                        refine lv_aload_n hx hb zd_N_find_142 rfl (lv_at hl 2 rfl) ?_
                        refine va_get (D := (dC, dI)) (ci := 4) (v := .ref mx) (C := zR_N) (T := zT_N) (N := 26) hx hb hts (fun w h => kz_c (zi_N w h)) hown hK hdy.1 0 rfl rfl 13 (by decide) (hts _ (kz_c mw_604)) (fun _ h9 => h9) rfl zd_N_find_143 ?_
                        refine lv_iload_n hx hb zd_N_find_146 rfl (lv_at hl 0 rfl) ?_
                        refine va_iald hx hb hK hdy.1 4 0 rfl rfl (vp_in_nI (by omega) (by omega)) zd_N_find_147 ?_
                        refine lv_topi (fun x63 h9 => ?_)
                        obtain rfl : x63 = nI (d14 k133p) := h9.trans (kz_dgl d14 (by omega))
                        have hbx63 := hd_d14 k133p
                        refine lv_i2l hx hb zd_N_find_148 (kz_lz_i (n := d14 k133p) (by omega)) ?_
                        refine lv_ladd hx hb zd_N_find_149 ?_
                        refine lv_topl (fun yl64 h9 => ?_)
                        obtain rfl : yl64 = kz_lz ((65536 * z19) + (((d14 k133p : Nat) : Int))) := h9.trans (kz_lz_add _ _)
                        refine lv_ldc2 (v := (65537)) hx hb hown (hts _ (kz_c mw_710)) zd_N_find_150 ?_
                        refine lv_topl (fun yl65 h9 => ?_)
                        obtain rfl : yl65 = kz_lz (65537) := h9.trans (kz_lz_c65537)
                        refine lv_lrem hx hb zd_N_find_153 (kz_lz_ne0 (by omega) (by omega)) ?_
                        refine lv_topl (fun yl66 h9 => ?_)
                        obtain rfl : yl66 = kz_lz (((65536 * z19) + (((d14 k133p : Nat) : Int))) % 65537) := h9.trans (kz_lz_remz (by omega) (by omega) (by omega) (by omega))
                        refine lv_topl (fun yl68 h9 => ?_)
                        obtain ⟨z67, ez67, rfl⟩ : ∃ z : Int, z = ((65536 * z19) + (((d14 k133p : Nat) : Int))) % 65537 ∧ yl68 = kz_lz z := ⟨_, rfl, h9⟩
                        refine lv_lstore_n (lv' := [(1, .long (kz_lz (z67))), (3, .int (nI (k133p))), (0, .ref o)]) hx hb zd_N_find_154 rfl hl (by decide) rfl (fun ls hl => ?_)
                        refine lv_iinc (v := (nI (k133p) - 1)) (lv' := [(3, .int (nI (k133p) - 1)), (1, .long (kz_lz (z67))), (0, .ref o)]) hx hb zd_N_find_155 hl (k := 1) rfl (kz_m1 _) (by decide) rfl (fun ls hl => ?_)
                        refine lv_goto (tgt := 133) hx hb zd_N_find_158 (by decide) ?_
                        have hi9_hp069 : 0 ≤ z67 := by omega
                        have hi9_hp170 : z67 < 65537 := by omega
                        exact ih133 k133p (z67) _ _ _ (by omega) (by omega) hi9_hp069 hi9_hp170 hdy (lv_sub hl [0, 1, 2] rfl)
                  have hi9_hp071 : 0 ≤ z17 := by omega
                  have hi9_hp172 : z17 < 65537 := by omega
                  exact lp133 (16 + 1) 16 (z17) _ _ _ (by omega) (by omega) hi9_hp071 hi9_hp172 hdy (lv_sub hl [0, 1, 2] rfl)
                · exact kz_vret F ((nI (0)), d5, d6, f7, gmx) hdy (⟨hd_d5, hd_d6, hd_gmx, by first | exact Or.inl rfl | exact Or.inr ⟨hfP, hfQ⟩, trivial⟩) zd_N_find_101
            · have hc65 : ¬ 18 ≤ k62 := fun h9 => hc65 ((nI_leI (by omega) (by omega)).mpr h9)
              refine lv_aload_n hx hb zd_N_find_68 rfl (lv_at hl 1 rfl) ?_
              refine va_get (D := (dC, dI)) (ci := 4) (v := .ref ms) (C := zR_N) (T := zT_N) (N := 26) hx hb hts (fun w h => kz_c (zi_N w h)) hown hK hdy.1 0 rfl rfl 17 (by decide) (hts _ (kz_c mw_608)) (fun _ h9 => h9) rfl zd_N_find_69 ?_
              refine lv_iload_n hx hb zd_N_find_72 rfl (lv_at hl 0 rfl) ?_
              refine lv_iconst (v := (nI (0))) hx hb zd_N_find_73 (by decide) ?_
              refine va_iast hx hb hK hdy.1 hdy.2.1 hdy.2.2 3 0 rfl rfl (vp_in_nI (by omega) (by omega)) zd_N_find_74 (fun H locs hP hD hS => ?_)
              rw [nI_clamp (by omega)] at hP hD
              obtain ⟨f73, ef73, hdy⟩ : ∃ f73 : Nat → Int32, f73 = upd f7 k62 ((nI (0))) ∧ kz_dy (dC, dI) vwCl A s.heap H locs [(o, .inr (4, [.int th, .int sta, .ref mt, .ref mn, .ref ml, .ref mc, .ref mh, .ref mk, .ref mp, .ref mm, .ref mb, .ref mw, .ref mr, .ref mx, .ref me, .ref mP, .ref mQ, .ref ms, .int (nI (0)), .int (nI (sz_)), .ref mo, .ref mW, .ref mD, .ref mB, .ref mR, .ref mS])), (mP, .inl (cI, 16, .inl (kz_dg d5))), (mQ, .inl (cI, 16, .inl (kz_dg d6))), (ms, .inl (cI, 18, .inl f73)), (mx, .inl (cI, 32, .inl (kz_dg gmx)))] := ⟨_, rfl, hP, hD, hS⟩
              refine lv_iinc (v := (nI (k62 + 1))) (lv' := [(1, .int (nI (k62 + 1))), (0, .ref o)]) hx hb zd_N_find_75 hl (k := 0) rfl (nI_1 _) (by decide) rfl (fun ls hl => ?_)
              refine lv_goto (tgt := 62) hx hb zd_N_find_78 (by decide) ?_
              exact ih62 (k62 + 1) f73 _ _ _ (by omega) (by omega) hdy (lv_sub hl [0, 1] rfl)
        exact lp62 (18 - 0 + 1) 0 gms _ _ _ (by omega) (by omega) hdy (lv_sub hl [0, 1] rfl)
      · have hc32 : ¬ 16 ≤ k29 := fun h9 => hc32 ((nI_leI (by omega) (by omega)).mpr h9)
        refine lv_aload_n hx hb zd_N_find_35 rfl (lv_at hl 1 rfl) ?_
        refine va_get (D := (dC, dI)) (ci := 4) (v := .ref mP) (C := zR_N) (T := zT_N) (N := 26) hx hb hts (fun w h => kz_c (zi_N w h)) hown hK hdy.1 0 rfl rfl 15 (by decide) (hts _ (kz_c mw_606)) (fun _ h9 => h9) rfl zd_N_find_36 ?_
        refine lv_iload_n hx hb zd_N_find_39 rfl (lv_at hl 0 rfl) ?_
        refine lv_iconst (v := (nI (0))) hx hb zd_N_find_40 (by decide) ?_
        refine va_iast hx hb hK hdy.1 hdy.2.1 hdy.2.2 1 0 rfl rfl (vp_in_nI (by omega) (by omega)) zd_N_find_41 (fun H locs hP hD hS => ?_)
        have h9 := kz_dgu d5 (k := k29) 0 (by omega)
        rw [h9] at hP hD
        obtain ⟨f74, ef74, hd_f74, hdy⟩ : ∃ f74 : Nat → Nat, f74 = kv_up d5 k29 0 ∧ (∀ j, f74 j < 65536) ∧ kz_dy (dC, dI) vwCl A s.heap H locs [(o, .inr (4, [.int th, .int sta, .ref mt, .ref mn, .ref ml, .ref mc, .ref mh, .ref mk, .ref mp, .ref mm, .ref mb, .ref mw, .ref mr, .ref mx, .ref me, .ref mP, .ref mQ, .ref ms, .int hs, .int (nI (sz_)), .ref mo, .ref mW, .ref mD, .ref mB, .ref mR, .ref mS])), (mP, .inl (cI, 16, .inl (kz_dg f74))), (mQ, .inl (cI, 16, .inl (kz_dg d6))), (ms, .inl (cI, 18, .inl gms)), (mx, .inl (cI, 32, .inl (kz_dg gmx)))] := ⟨_, rfl, kv_up_lt hd_d5 (by omega), hP, hD, hS⟩
        refine lv_aload_n hx hb zd_N_find_42 rfl (lv_at hl 1 rfl) ?_
        refine va_get (D := (dC, dI)) (ci := 4) (v := .ref mQ) (C := zR_N) (T := zT_N) (N := 26) hx hb hts (fun w h => kz_c (zi_N w h)) hown hK hdy.1 0 rfl rfl 16 (by decide) (hts _ (kz_c mw_607)) (fun _ h9 => h9) rfl zd_N_find_43 ?_
        refine lv_iload_n hx hb zd_N_find_46 rfl (lv_at hl 0 rfl) ?_
        refine lv_iconst (v := (nI (0))) hx hb zd_N_find_47 (by decide) ?_
        refine va_iast hx hb hK hdy.1 hdy.2.1 hdy.2.2 2 0 rfl rfl (vp_in_nI (by omega) (by omega)) zd_N_find_48 (fun H locs hP hD hS => ?_)
        have h9 := kz_dgu d6 (k := k29) 0 (by omega)
        rw [h9] at hP hD
        obtain ⟨f75, ef75, hd_f75, hdy⟩ : ∃ f75 : Nat → Nat, f75 = kv_up d6 k29 0 ∧ (∀ j, f75 j < 65536) ∧ kz_dy (dC, dI) vwCl A s.heap H locs [(o, .inr (4, [.int th, .int sta, .ref mt, .ref mn, .ref ml, .ref mc, .ref mh, .ref mk, .ref mp, .ref mm, .ref mb, .ref mw, .ref mr, .ref mx, .ref me, .ref mP, .ref mQ, .ref ms, .int hs, .int (nI (sz_)), .ref mo, .ref mW, .ref mD, .ref mB, .ref mR, .ref mS])), (mP, .inl (cI, 16, .inl (kz_dg f74))), (mQ, .inl (cI, 16, .inl (kz_dg f75))), (ms, .inl (cI, 18, .inl gms)), (mx, .inl (cI, 32, .inl (kz_dg gmx)))] := ⟨_, rfl, kv_up_lt hd_d6 (by omega), hP, hD, hS⟩
        refine lv_iinc (v := (nI (k29 + 1))) (lv' := [(1, .int (nI (k29 + 1))), (0, .ref o)]) hx hb zd_N_find_49 hl (k := 0) rfl (nI_1 _) (by decide) rfl (fun ls hl => ?_)
        refine lv_goto (tgt := 29) hx hb zd_N_find_52 (by decide) ?_
        have hi9_hfp76 : ∀ j, j < 8 → f74 j = kv_fig gmt 16 j := by intro j hj; rw [ef74, kv_up_ne _ _ (by omega)]; exact hfp j hj
        have hi9_hfp077 : ∀ j, 8 ≤ j → j < k29 + 1 → f74 j = 0 := by intro j a b; rw [ef74]; unfold kv_up; split; rfl; exact hfp0 j a (by omega)
        have hi9_hfq78 : ∀ j, j < 8 → f75 j = kv_fig gmt 24 j := by intro j hj; rw [ef75, kv_up_ne _ _ (by omega)]; exact hfq j hj
        have hi9_hfq079 : ∀ j, 8 ≤ j → j < k29 + 1 → f75 j = 0 := by intro j a b; rw [ef75]; unfold kv_up; split; rfl; exact hfq0 j a (by omega)
        exact ih29 (k29 + 1) f74 f75 _ _ _ (by omega) (by omega) (by omega) hd_f74 hd_f75 hi9_hfp76 hi9_hfp077 hi9_hfq78 hi9_hfq079 hdy (lv_sub hl [0, 1] rfl)
  have hi9_hfp80 : ∀ j, j < 8 → d1 j = kv_fig gmt 16 j := by exact fun j hj => q2 j (by omega)
  have hi9_hfp081 : ∀ j, 8 ≤ j → j < 8 → d1 j = 0 := by intro j a b; omega
  have hi9_hfq82 : ∀ j, j < 8 → d3 j = kv_fig gmt 24 j := by exact fun j hj => q4 j (by omega)
  have hi9_hfq083 : ∀ j, 8 ≤ j → j < 8 → d3 j = 0 := by intro j a b; omega
  exact lp29 (16 - 8 + 1) 8 d1 d3 _ _ _ (by omega) (by omega) (by omega) hd_d1 hd_d3 hi9_hfp80 hi9_hfp081 hi9_hfq82 hi9_hfq083 hdy (lv_sub hl [0, 1] rfl)

set_option maxHeartbeats 4000000 in
set_option maxRecDepth 100000 in
/-- KeyMeetingModel.isWithin([III)Z -/
theorem c_V_isWithin (l : Launch) (dC : Nat → ClassId) (dI : Nat → Nat → Nat) (cI cAA cB cL : ClassId) (me o mt mn ml mc mh mk mp mm mb mw mr mx mP mQ ms mo mW mD mB mR mS a : Nat) (gme : Nat → Nat) (th : Int32) (sta : Int32) (hs : Int32) (sz_ : Nat) (ga : Nat → Nat) (gmp : Nat → Nat) (sz : Nat) (hd_gme : ∀ j, gme j < 65536) (hd_ga : ∀ j, ga j < 65536) (hd_gmp : ∀ j, gmp j < 65536) : Met l zy_N_isWithin zw_N_isWithin { frames := 1, cells := 0, slots := 0, locals := 22 } (kz_Pc (dC, dI) vwCl [(cI, .int), (cAA, .array .int), (cB, .byte), (cL, .long)] [] [] [.ref o, .ref a, .int (nI (2)), .int (nI (2))] [(me, .inl (cI, 18, .inl (kz_dg gme)))] [(o, .inr (4, [.int th, .int sta, .ref mt, .ref mn, .ref ml, .ref mc, .ref mh, .ref mk, .ref mp, .ref mm, .ref mb, .ref mw, .ref mr, .ref mx, .ref me, .ref mP, .ref mQ, .ref ms, .int hs, .int (nI (sz_)), .ref mo, .ref mW, .ref mD, .ref mB, .ref mR, .ref mS])), (a, .inl (cI, 16, .inl (kz_dg ga))), (mp, .inl (cI, 16, .inl (kz_dg gmp)))] sz) (va_Qi (fun (r : Int32) (u : (Nat → Nat)) => (∀ j, u j < 65536) ∧ (r = 0 ∨ r = 1) ∧ True) (kz_B (dC, dI) vwCl (va_A [(me, .inl (cI, 18, .inl (kz_dg gme)))] sz) (fun u : (Nat → Nat) => [(me, .inl (cI, 18, .inl (kz_dg u)))])) (va_A [(me, .inl (cI, 18, .inl (kz_dg gme)))] sz)) 0 0 (va_A [(me, .inl (cI, 18, .inl (kz_dg gme)))] sz) := by
  refine kz_met (y := zy_N_isWithin) (ws := zw_N_isWithin) (av := [.ref o, .ref a, .int (nI (2)), .int (nI (2))]) (sz := sz) (Qc := fun A => va_Qi (fun (r : Int32) (u : (Nat → Nat)) => (∀ j, u j < 65536) ∧ (r = 0 ∨ r = 1) ∧ True) (kz_B (dC, dI) vwCl A (fun u : (Nat → Nat) => [(me, .inl (cI, 18, .inl (kz_dg u)))])) A) (cc := zc_N_isWithin) (maxL := 10) (ret := some .boolean) (by decide) rfl (Nat.le_of_ble_eq_true rfl) ?_
  intro p e s m below meth c A ls F hA hdy hK hro hZ hN hl
  obtain ⟨hx, hb, hml, hr, hown, hlocks, hts, hnm⟩ := id F
  have hl : lv_has ls 10 [(0, .ref o), (1, .ref a), (2, .int (nI (2))), (3, .int (nI (2)))] := hl
  refine lv_lconst (v := 0) hx hb zd_N_isWithin_0 (by decide) ?_
  refine lv_topl (fun yl1 h9 => ?_)
  obtain rfl : yl1 = kz_lz (0) := h9.trans (kz_lz_c0)
  refine lv_topl (fun yl3 h9 => ?_)
  obtain ⟨z2, ez2, rfl⟩ : ∃ z : Int, z = 0 ∧ yl3 = kz_lz z := ⟨_, rfl, h9⟩
  refine lv_lstore (lv' := [(4, .long (kz_lz (z2))), (0, .ref o), (1, .ref a), (2, .int (nI (2))), (3, .int (nI (2)))]) hx hb zd_N_isWithin_1 hl (by decide) rfl (fun ls hl => ?_)
  refine lv_iconst (v := (nI (0))) hx hb zd_N_isWithin_3 (by decide) ?_
  refine lv_istore (lv' := [(6, .int (nI (0))), (4, .long (kz_lz (z2))), (0, .ref o), (1, .ref a), (2, .int (nI (2))), (3, .int (nI (2)))]) hx hb zd_N_isWithin_4 hl (by decide) rfl (fun ls hl => ?_)
  refine lv_bipush (v := (nI (15))) hx hb zd_N_isWithin_6 (by decide) ?_
  refine lv_istore (lv' := [(7, .int (nI (15))), (6, .int (nI (0))), (4, .long (kz_lz (z2))), (0, .ref o), (1, .ref a), (2, .int (nI (2))), (3, .int (nI (2)))]) hx hb zd_N_isWithin_8 hl (by decide) rfl (fun ls hl => ?_)
  have lp10 : ∀ (n10 k10 : Nat) (x4 : Int32) (yl5 : Int64) (H : Heap) (locs : List Loc) (ls : Array Slot), k10 ≤ 16 → k10 < n10 → kz_dy (dC, dI) vwCl A s.heap H locs [(me, .inl (cI, 18, .inl (kz_dg gme)))] → lv_has ls 10 [(7, .int (nI (k10) - 1)), (6, .int x4), (4, .long yl5), (0, .ref o), (1, .ref a), (2, .int (nI (2))), (3, .int (nI (2)))] → W p l e { frames := 1, cells := 0, slots := 0, locals := 22 } s m ([.ref o, .ref a, .int (nI (2)), .int (nI (2))] : List Value).toArray below meth c H locs 0 0 (MQ below (va_Qi (fun (r : Int32) (u : (Nat → Nat)) => (∀ j, u j < 65536) ∧ (r = 0 ∨ r = 1) ∧ True) (kz_B (dC, dI) vwCl A (fun u : (Nat → Nat) => [(me, .inl (cI, 18, .inl (kz_dg u)))])) A) ([.ref o, .ref a, .int (nI (2)), .int (nI (2))] : List Value).toArray s 0 0 A) (F0 m 10 ls []) := by
    intro n10
    induction n10 with
    | zero => intro k10 x4 yl5 H locs ls hi10 hn10; exact absurd hn10 (Nat.not_lt_zero _)
    | succ n10 ih10 =>
      intro k10 x4 yl5 H locs ls hi10 hn10 hdy hl
      refine lv_iload hx hb zd_N_isWithin_10 (lv_at hl 0 rfl) ?_
      refine lv_if_lt (tgt := 71) hx hb zd_N_isWithin_12 (by decide) (fun hc12 => ?_) (fun hc12 => ?_)
      · have hc12 : k10 = 0 := (kz_neg (by omega)).mp hc12
        refine lv_iload hx hb zd_N_isWithin_71 (lv_at hl 1 rfl) ?_
        refine lv_if_ne (tgt := 86) hx hb zd_N_isWithin_73 (by decide) (fun hc73 => ?_) (fun hc73 => ?_)
        · refine lv_iload_n hx hb zd_N_isWithin_86 rfl (lv_at hl 6 rfl) ?_
          refine lv_i2l hx hb zd_N_isWithin_87 (kz_lz_i (n := 2) (by omega)) ?_
          refine lv_topl (fun yl7 h9 => ?_)
          obtain ⟨z6, ez6, rfl⟩ : ∃ z : Int, z = ((2 : Nat) : Int) ∧ yl7 = kz_lz z := ⟨_, rfl, h9⟩
          refine lv_lstore (lv' := [(7, .long (kz_lz (z6))), (6, .int x4), (4, .long yl5), (0, .ref o), (1, .ref a), (2, .int (nI (2))), (3, .int (nI (2)))]) hx hb zd_N_isWithin_88 hl (by decide) rfl (fun ls hl => ?_)
          refine lv_iconst (v := (nI (0))) hx hb zd_N_isWithin_90 (by decide) ?_
          refine lv_istore (lv' := [(9, .int (nI (0))), (7, .long (kz_lz (z6))), (6, .int x4), (4, .long yl5), (0, .ref o), (1, .ref a), (2, .int (nI (2))), (3, .int (nI (2)))]) hx hb zd_N_isWithin_91 hl (by decide) rfl (fun ls hl => ?_)
          have lp93 : ∀ (n93 k93 : Nat) (yl8 : Int64) (d9 : Nat → Nat) (H : Heap) (locs : List Loc) (ls : Array Slot), k93 ≤ 16 → 16 - k93 < n93 → (∀ j, d9 j < 65536) → kz_dy (dC, dI) vwCl A s.heap H locs [(me, .inl (cI, 18, .inl (kz_dg d9)))] → lv_has ls 10 [(9, .int (nI (k93))), (7, .long yl8), (6, .int x4), (4, .long yl5), (0, .ref o), (1, .ref a), (2, .int (nI (2))), (3, .int (nI (2)))] → W p l e { frames := 1, cells := 0, slots := 0, locals := 22 } s m ([.ref o, .ref a, .int (nI (2)), .int (nI (2))] : List Value).toArray below meth c H locs 0 0 (MQ below (va_Qi (fun (r : Int32) (u : (Nat → Nat)) => (∀ j, u j < 65536) ∧ (r = 0 ∨ r = 1) ∧ True) (kz_B (dC, dI) vwCl A (fun u : (Nat → Nat) => [(me, .inl (cI, 18, .inl (kz_dg u)))])) A) ([.ref o, .ref a, .int (nI (2)), .int (nI (2))] : List Value).toArray s 0 0 A) (F0 m 93 ls []) := by
            intro n93
            induction n93 with
            | zero => intro k93; intros; omega
            | succ n93 ih93 =>
              intro k93 yl8 d9 H locs ls hi93 hn93 hd_d9 hdy hl
              refine lv_iload hx hb zd_N_isWithin_93 (lv_at hl 0 rfl) ?_
              refine lv_bipush (v := (nI (16))) hx hb zd_N_isWithin_95 (by decide) ?_
              refine lv_icmp_ge (tgt := 137) hx hb zd_N_isWithin_97 (by decide) (fun hc97 => ?_) (fun hc97 => ?_)
              · have hc97 : 16 ≤ k93 := (nI_leI (by omega) (by omega)).mp hc97
                refine lv_lload hx hb zd_N_isWithin_137 (lv_at hl 1 rfl) ?_
                refine lv_lconst (v := 0) hx hb zd_N_isWithin_139 (by decide) ?_
                refine lv_topl (fun yl10 h9 => ?_)
                obtain rfl : yl10 = kz_lz (0) := h9.trans (kz_lz_c0)
                refine kz_lne (tgt := 162) hx hb zd_N_isWithin_140 zd_N_isWithin_141 (by decide) (fun hc141 => ?_) (fun hc141 => ?_)
                · refine lv_iconst (v := (nI (0))) hx hb zd_N_isWithin_162 (by decide) ?_
                  exact kz_zret F (d9) hdy (by first | exact Or.inl rfl | exact Or.inr rfl | assumption) (⟨hd_d9, by first | exact Or.inl rfl | exact Or.inr rfl | assumption, trivial⟩) zd_N_isWithin_163
                · refine lv_aload_n hx hb zd_N_isWithin_144 rfl (lv_at hl 4 rfl) ?_
                  refine va_get (D := (dC, dI)) (ci := 4) (v := .ref me) (C := zR_N) (T := zT_N) (N := 26) hx hb hts (fun w h => kz_c (zi_N w h)) hown hK (hro.ob hdy.2.2 (k := 0) rfl) 0 rfl rfl 14 (by decide) (hts _ (kz_c mw_605)) (fun _ h9 => h9) rfl zd_N_isWithin_145 ?_
                  refine lv_aload_n hx hb zd_N_isWithin_148 rfl (lv_at hl 4 rfl) ?_
                  refine va_get (D := (dC, dI)) (ci := 4) (v := .ref mp) (C := zR_N) (T := zT_N) (N := 26) hx hb hts (fun w h => kz_c (zi_N w h)) hown hK (hro.ob hdy.2.2 (k := 0) rfl) 0 rfl rfl 8 (by decide) (hts _ (kz_c mw_599)) (fun _ h9 => h9) rfl zd_N_isWithin_149 ?_
                  refine kz_calli (wk := [(me, .inl (cI, 18, .inl (kz_dg d9)))]) (va_runS (As := [.ref me, .ref mp]) (rest := []) ⟨hx, hb, hml, hown, hts⟩ (c_X_compare18 l dC dI cI cAA cB cL me mp d9 gmp _ hd_d9 hd_gmp) (va_cwS 2 hts (kz_g (kz_mc mw_715 (kz_mc mw_716 (kz_mc mw_43 kz_mn))) mw_717) rfl rfl rfl (by decide +kernel) ⟨Nat.le_of_ble_eq_true rfl, Nat.le_of_ble_eq_true rfl⟩) (kz_preS hdy hA hK hro hZ hN [] (by decide) rfl [(false, 0), (true, 2)] rfl (by decide) [0, 1, 2, 3] rfl (fun _ h => by cases h) (fun _ h => by cases h) rfl) rfl rfl hl.1 rfl (lv_room (Nat.le_of_ble_eq_true rfl)) zd_N_isWithin_152 ⟨Nat.le_of_ble_eq_true rfl, Nat.le_of_ble_eq_true rfl⟩) hdy hA [] [0] rfl rfl (by decide) (by decide) (fun r u H locs hw hdy => ?_)
                  obtain ⟨r11, rfl⟩ : ∃ z, z = r := ⟨_, rfl⟩
                  try dsimp only at hw
                  obtain ⟨q12, -⟩ := hw
                  have hdy : kz_dy (dC, dI) vwCl A s.heap H locs [(me, .inl (cI, 18, .inl (kz_dg d9)))] := hdy.sub [0] (by decide) rfl
                  refine lv_if_gt (tgt := 162) hx hb zd_N_isWithin_155 (by decide) (fun hc155 => ?_) (fun hc155 => ?_)
                  · refine lv_iconst (v := (nI (0))) hx hb zd_N_isWithin_162 (by decide) ?_
                    exact kz_zret F (d9) hdy (by first | exact Or.inl rfl | exact Or.inr rfl | assumption) (⟨hd_d9, by first | exact Or.inl rfl | exact Or.inr rfl | assumption, trivial⟩) zd_N_isWithin_163
                  · refine lv_iconst (v := (nI (1))) hx hb zd_N_isWithin_158 (by decide) ?_
                    refine lv_goto (tgt := 163) hx hb zd_N_isWithin_159 (by decide) ?_
                    exact kz_zret F (d9) hdy (by first | exact Or.inl rfl | exact Or.inr rfl | assumption) (⟨hd_d9, by first | exact Or.inl rfl | exact Or.inr rfl | assumption, trivial⟩) zd_N_isWithin_163
              · have hc97 : ¬ 16 ≤ k93 := fun h9 => hc97 ((nI_leI (by omega) (by omega)).mpr h9)
                refine lv_lload hx hb zd_N_isWithin_100 (lv_at hl 1 rfl) ?_
                refine lv_aload_n hx hb zd_N_isWithin_102 rfl (lv_at hl 5 rfl) ?_
                refine lv_iload hx hb zd_N_isWithin_103 (lv_at hl 0 rfl) ?_
                refine kz_riald hx hb hK hro hdy.2.2 1 0 rfl rfl (vp_in_nI (by omega) (by omega)) zd_N_isWithin_105 ?_
                refine lv_topi (fun x13 h9 => ?_)
                obtain rfl : x13 = nI (ga k93) := h9.trans (kz_dgl ga (by omega))
                have hbx13 := hd_ga k93
                refine lv_i2l hx hb zd_N_isWithin_106 (kz_lz_i (n := ga k93) (by omega)) ?_
                refine lv_ladd hx hb zd_N_isWithin_107 ?_
                refine lv_topl (fun yl14 _ => ?_)
                refine lv_lstore (lv' := [(7, .long yl14), (9, .int (nI (k93))), (6, .int x4), (4, .long yl5), (0, .ref o), (1, .ref a), (2, .int (nI (2))), (3, .int (nI (2)))]) hx hb zd_N_isWithin_108 hl (by decide) rfl (fun ls hl => ?_)
                refine lv_aload_n hx hb zd_N_isWithin_110 rfl (lv_at hl 4 rfl) ?_
                refine va_get (D := (dC, dI)) (ci := 4) (v := .ref me) (C := zR_N) (T := zT_N) (N := 26) hx hb hts (fun w h => kz_c (zi_N w h)) hown hK (hro.ob hdy.2.2 (k := 0) rfl) 0 rfl rfl 14 (by decide) (hts _ (kz_c mw_605)) (fun _ h9 => h9) rfl zd_N_isWithin_111 ?_
                refine lv_iload hx hb zd_N_isWithin_114 (lv_at hl 1 rfl) ?_
                refine lv_lload hx hb zd_N_isWithin_116 (lv_at hl 0 rfl) ?_
                refine lv_ldc2 (v := (65535)) hx hb hown (hts _ (kz_c mw_708)) zd_N_isWithin_118 ?_
                refine lv_topl (fun yl15 h9 => ?_)
                obtain rfl : yl15 = kz_lz (65535) := h9.trans (kz_lz_c65535)
                refine kz_mask16 hx hb zd_N_isWithin_121 (fun w16 hw16 => ?_)
                refine lv_l2i hx hb zd_N_isWithin_122 (kz_lz_in (z := ((w16 : Nat) : Int)) (by omega)) ?_
                refine va_iast hx hb hK hdy.1 hdy.2.1 hdy.2.2 0 0 rfl rfl (vp_in_nI (by omega) (by omega)) zd_N_isWithin_123 (fun H locs hP hD hS => ?_)
                have h9 := kz_dgu d9 (k := k93) ((((w16 : Nat) : Int)).toNat) (by omega)
                rw [h9] at hP hD
                obtain ⟨f17, ef17, hd_f17, hdy⟩ : ∃ f17 : Nat → Nat, f17 = kv_up d9 k93 ((((w16 : Nat) : Int)).toNat) ∧ (∀ j, f17 j < 65536) ∧ kz_dy (dC, dI) vwCl A s.heap H locs [(me, .inl (cI, 18, .inl (kz_dg f17)))] := ⟨_, rfl, kv_up_lt hd_d9 (by omega), hP, hD, hS⟩
                refine lv_lload hx hb zd_N_isWithin_124 (lv_at hl 0 rfl) ?_
                refine lv_bipush (v := (nI (16))) hx hb zd_N_isWithin_126 (by decide) ?_
                refine lv_lshr hx hb zd_N_isWithin_128 rfl ?_
                refine lv_topl (fun yl18 _ => ?_)
                refine lv_lstore (lv' := [(7, .long yl18), (9, .int (nI (k93))), (6, .int x4), (4, .long yl5), (0, .ref o), (1, .ref a), (2, .int (nI (2))), (3, .int (nI (2)))]) hx hb zd_N_isWithin_129 hl (by decide) rfl (fun ls hl => ?_)
                refine lv_iinc (v := (nI (k93 + 1))) (lv' := [(9, .int (nI (k93 + 1))), (7, .long yl18), (6, .int x4), (4, .long yl5), (0, .ref o), (1, .ref a), (2, .int (nI (2))), (3, .int (nI (2)))]) hx hb zd_N_isWithin_131 hl (k := 1) rfl (nI_1 _) (by decide) rfl (fun ls hl => ?_)
                refine lv_goto (tgt := 93) hx hb zd_N_isWithin_134 (by decide) ?_
                exact ih93 (k93 + 1) (yl18) f17 _ _ _ (by omega) (by omega) hd_f17 hdy (lv_sub hl [0, 1, 2, 3, 4, 5, 6, 7] rfl)
          exact lp93 (16 - 0 + 1) 0 ((kz_lz (z6))) gme _ _ _ (by omega) (by omega) hd_gme hdy (lv_sub hl [0, 1, 2, 3, 4, 5, 6, 7] rfl)
        · refine lv_lload hx hb zd_N_isWithin_76 (lv_at hl 2 rfl) ?_
          refine lv_iload_n hx hb zd_N_isWithin_78 rfl (lv_at hl 5 rfl) ?_
          refine lv_i2l hx hb zd_N_isWithin_79 (kz_lz_i (n := 2) (by omega)) ?_
          refine kz_lge (tgt := 86) hx hb zd_N_isWithin_80 zd_N_isWithin_81 (by decide) (fun hc81 => ?_) (fun hc81 => ?_)
          · refine lv_iload_n hx hb zd_N_isWithin_86 rfl (lv_at hl 6 rfl) ?_
            refine lv_i2l hx hb zd_N_isWithin_87 (kz_lz_i (n := 2) (by omega)) ?_
            refine lv_topl (fun yl20 h9 => ?_)
            obtain ⟨z19, ez19, rfl⟩ : ∃ z : Int, z = ((2 : Nat) : Int) ∧ yl20 = kz_lz z := ⟨_, rfl, h9⟩
            refine lv_lstore (lv' := [(7, .long (kz_lz (z19))), (6, .int x4), (4, .long yl5), (0, .ref o), (1, .ref a), (2, .int (nI (2))), (3, .int (nI (2)))]) hx hb zd_N_isWithin_88 hl (by decide) rfl (fun ls hl => ?_)
            refine lv_iconst (v := (nI (0))) hx hb zd_N_isWithin_90 (by decide) ?_
            refine lv_istore (lv' := [(9, .int (nI (0))), (7, .long (kz_lz (z19))), (6, .int x4), (4, .long yl5), (0, .ref o), (1, .ref a), (2, .int (nI (2))), (3, .int (nI (2)))]) hx hb zd_N_isWithin_91 hl (by decide) rfl (fun ls hl => ?_)
            have lp93 : ∀ (n93 k93 : Nat) (yl21 : Int64) (d22 : Nat → Nat) (H : Heap) (locs : List Loc) (ls : Array Slot), k93 ≤ 16 → 16 - k93 < n93 → (∀ j, d22 j < 65536) → kz_dy (dC, dI) vwCl A s.heap H locs [(me, .inl (cI, 18, .inl (kz_dg d22)))] → lv_has ls 10 [(9, .int (nI (k93))), (7, .long yl21), (6, .int x4), (4, .long yl5), (0, .ref o), (1, .ref a), (2, .int (nI (2))), (3, .int (nI (2)))] → W p l e { frames := 1, cells := 0, slots := 0, locals := 22 } s m ([.ref o, .ref a, .int (nI (2)), .int (nI (2))] : List Value).toArray below meth c H locs 0 0 (MQ below (va_Qi (fun (r : Int32) (u : (Nat → Nat)) => (∀ j, u j < 65536) ∧ (r = 0 ∨ r = 1) ∧ True) (kz_B (dC, dI) vwCl A (fun u : (Nat → Nat) => [(me, .inl (cI, 18, .inl (kz_dg u)))])) A) ([.ref o, .ref a, .int (nI (2)), .int (nI (2))] : List Value).toArray s 0 0 A) (F0 m 93 ls []) := by
              intro n93
              induction n93 with
              | zero => intro k93; intros; omega
              | succ n93 ih93 =>
                intro k93 yl21 d22 H locs ls hi93 hn93 hd_d22 hdy hl
                refine lv_iload hx hb zd_N_isWithin_93 (lv_at hl 0 rfl) ?_
                refine lv_bipush (v := (nI (16))) hx hb zd_N_isWithin_95 (by decide) ?_
                refine lv_icmp_ge (tgt := 137) hx hb zd_N_isWithin_97 (by decide) (fun hc97 => ?_) (fun hc97 => ?_)
                · have hc97 : 16 ≤ k93 := (nI_leI (by omega) (by omega)).mp hc97
                  refine lv_lload hx hb zd_N_isWithin_137 (lv_at hl 1 rfl) ?_
                  refine lv_lconst (v := 0) hx hb zd_N_isWithin_139 (by decide) ?_
                  refine lv_topl (fun yl23 h9 => ?_)
                  obtain rfl : yl23 = kz_lz (0) := h9.trans (kz_lz_c0)
                  refine kz_lne (tgt := 162) hx hb zd_N_isWithin_140 zd_N_isWithin_141 (by decide) (fun hc141 => ?_) (fun hc141 => ?_)
                  · refine lv_iconst (v := (nI (0))) hx hb zd_N_isWithin_162 (by decide) ?_
                    exact kz_zret F (d22) hdy (by first | exact Or.inl rfl | exact Or.inr rfl | assumption) (⟨hd_d22, by first | exact Or.inl rfl | exact Or.inr rfl | assumption, trivial⟩) zd_N_isWithin_163
                  · refine lv_aload_n hx hb zd_N_isWithin_144 rfl (lv_at hl 4 rfl) ?_
                    refine va_get (D := (dC, dI)) (ci := 4) (v := .ref me) (C := zR_N) (T := zT_N) (N := 26) hx hb hts (fun w h => kz_c (zi_N w h)) hown hK (hro.ob hdy.2.2 (k := 0) rfl) 0 rfl rfl 14 (by decide) (hts _ (kz_c mw_605)) (fun _ h9 => h9) rfl zd_N_isWithin_145 ?_
                    refine lv_aload_n hx hb zd_N_isWithin_148 rfl (lv_at hl 4 rfl) ?_
                    refine va_get (D := (dC, dI)) (ci := 4) (v := .ref mp) (C := zR_N) (T := zT_N) (N := 26) hx hb hts (fun w h => kz_c (zi_N w h)) hown hK (hro.ob hdy.2.2 (k := 0) rfl) 0 rfl rfl 8 (by decide) (hts _ (kz_c mw_599)) (fun _ h9 => h9) rfl zd_N_isWithin_149 ?_
                    refine kz_calli (wk := [(me, .inl (cI, 18, .inl (kz_dg d22)))]) (va_runS (As := [.ref me, .ref mp]) (rest := []) ⟨hx, hb, hml, hown, hts⟩ (c_X_compare18 l dC dI cI cAA cB cL me mp d22 gmp _ hd_d22 hd_gmp) (va_cwS 2 hts (kz_g (kz_mc mw_715 (kz_mc mw_716 (kz_mc mw_43 kz_mn))) mw_717) rfl rfl rfl (by decide +kernel) ⟨Nat.le_of_ble_eq_true rfl, Nat.le_of_ble_eq_true rfl⟩) (kz_preS hdy hA hK hro hZ hN [] (by decide) rfl [(false, 0), (true, 2)] rfl (by decide) [0, 1, 2, 3] rfl (fun _ h => by cases h) (fun _ h => by cases h) rfl) rfl rfl hl.1 rfl (lv_room (Nat.le_of_ble_eq_true rfl)) zd_N_isWithin_152 ⟨Nat.le_of_ble_eq_true rfl, Nat.le_of_ble_eq_true rfl⟩) hdy hA [] [0] rfl rfl (by decide) (by decide) (fun r u H locs hw hdy => ?_)
                    obtain ⟨r24, rfl⟩ : ∃ z, z = r := ⟨_, rfl⟩
                    try dsimp only at hw
                    obtain ⟨q25, -⟩ := hw
                    have hdy : kz_dy (dC, dI) vwCl A s.heap H locs [(me, .inl (cI, 18, .inl (kz_dg d22)))] := hdy.sub [0] (by decide) rfl
                    refine lv_if_gt (tgt := 162) hx hb zd_N_isWithin_155 (by decide) (fun hc155 => ?_) (fun hc155 => ?_)
                    · refine lv_iconst (v := (nI (0))) hx hb zd_N_isWithin_162 (by decide) ?_
                      exact kz_zret F (d22) hdy (by first | exact Or.inl rfl | exact Or.inr rfl | assumption) (⟨hd_d22, by first | exact Or.inl rfl | exact Or.inr rfl | assumption, trivial⟩) zd_N_isWithin_163
                    · refine lv_iconst (v := (nI (1))) hx hb zd_N_isWithin_158 (by decide) ?_
                      refine lv_goto (tgt := 163) hx hb zd_N_isWithin_159 (by decide) ?_
                      exact kz_zret F (d22) hdy (by first | exact Or.inl rfl | exact Or.inr rfl | assumption) (⟨hd_d22, by first | exact Or.inl rfl | exact Or.inr rfl | assumption, trivial⟩) zd_N_isWithin_163
                · have hc97 : ¬ 16 ≤ k93 := fun h9 => hc97 ((nI_leI (by omega) (by omega)).mpr h9)
                  refine lv_lload hx hb zd_N_isWithin_100 (lv_at hl 1 rfl) ?_
                  refine lv_aload_n hx hb zd_N_isWithin_102 rfl (lv_at hl 5 rfl) ?_
                  refine lv_iload hx hb zd_N_isWithin_103 (lv_at hl 0 rfl) ?_
                  refine kz_riald hx hb hK hro hdy.2.2 1 0 rfl rfl (vp_in_nI (by omega) (by omega)) zd_N_isWithin_105 ?_
                  refine lv_topi (fun x26 h9 => ?_)
                  obtain rfl : x26 = nI (ga k93) := h9.trans (kz_dgl ga (by omega))
                  have hbx26 := hd_ga k93
                  refine lv_i2l hx hb zd_N_isWithin_106 (kz_lz_i (n := ga k93) (by omega)) ?_
                  refine lv_ladd hx hb zd_N_isWithin_107 ?_
                  refine lv_topl (fun yl27 _ => ?_)
                  refine lv_lstore (lv' := [(7, .long yl27), (9, .int (nI (k93))), (6, .int x4), (4, .long yl5), (0, .ref o), (1, .ref a), (2, .int (nI (2))), (3, .int (nI (2)))]) hx hb zd_N_isWithin_108 hl (by decide) rfl (fun ls hl => ?_)
                  refine lv_aload_n hx hb zd_N_isWithin_110 rfl (lv_at hl 4 rfl) ?_
                  refine va_get (D := (dC, dI)) (ci := 4) (v := .ref me) (C := zR_N) (T := zT_N) (N := 26) hx hb hts (fun w h => kz_c (zi_N w h)) hown hK (hro.ob hdy.2.2 (k := 0) rfl) 0 rfl rfl 14 (by decide) (hts _ (kz_c mw_605)) (fun _ h9 => h9) rfl zd_N_isWithin_111 ?_
                  refine lv_iload hx hb zd_N_isWithin_114 (lv_at hl 1 rfl) ?_
                  refine lv_lload hx hb zd_N_isWithin_116 (lv_at hl 0 rfl) ?_
                  refine lv_ldc2 (v := (65535)) hx hb hown (hts _ (kz_c mw_708)) zd_N_isWithin_118 ?_
                  refine lv_topl (fun yl28 h9 => ?_)
                  obtain rfl : yl28 = kz_lz (65535) := h9.trans (kz_lz_c65535)
                  refine kz_mask16 hx hb zd_N_isWithin_121 (fun w29 hw29 => ?_)
                  refine lv_l2i hx hb zd_N_isWithin_122 (kz_lz_in (z := ((w29 : Nat) : Int)) (by omega)) ?_
                  refine va_iast hx hb hK hdy.1 hdy.2.1 hdy.2.2 0 0 rfl rfl (vp_in_nI (by omega) (by omega)) zd_N_isWithin_123 (fun H locs hP hD hS => ?_)
                  have h9 := kz_dgu d22 (k := k93) ((((w29 : Nat) : Int)).toNat) (by omega)
                  rw [h9] at hP hD
                  obtain ⟨f30, ef30, hd_f30, hdy⟩ : ∃ f30 : Nat → Nat, f30 = kv_up d22 k93 ((((w29 : Nat) : Int)).toNat) ∧ (∀ j, f30 j < 65536) ∧ kz_dy (dC, dI) vwCl A s.heap H locs [(me, .inl (cI, 18, .inl (kz_dg f30)))] := ⟨_, rfl, kv_up_lt hd_d22 (by omega), hP, hD, hS⟩
                  refine lv_lload hx hb zd_N_isWithin_124 (lv_at hl 0 rfl) ?_
                  refine lv_bipush (v := (nI (16))) hx hb zd_N_isWithin_126 (by decide) ?_
                  refine lv_lshr hx hb zd_N_isWithin_128 rfl ?_
                  refine lv_topl (fun yl31 _ => ?_)
                  refine lv_lstore (lv' := [(7, .long yl31), (9, .int (nI (k93))), (6, .int x4), (4, .long yl5), (0, .ref o), (1, .ref a), (2, .int (nI (2))), (3, .int (nI (2)))]) hx hb zd_N_isWithin_129 hl (by decide) rfl (fun ls hl => ?_)
                  refine lv_iinc (v := (nI (k93 + 1))) (lv' := [(9, .int (nI (k93 + 1))), (7, .long yl31), (6, .int x4), (4, .long yl5), (0, .ref o), (1, .ref a), (2, .int (nI (2))), (3, .int (nI (2)))]) hx hb zd_N_isWithin_131 hl (k := 1) rfl (nI_1 _) (by decide) rfl (fun ls hl => ?_)
                  refine lv_goto (tgt := 93) hx hb zd_N_isWithin_134 (by decide) ?_
                  exact ih93 (k93 + 1) (yl31) f30 _ _ _ (by omega) (by omega) hd_f30 hdy (lv_sub hl [0, 1, 2, 3, 4, 5, 6, 7] rfl)
            exact lp93 (16 - 0 + 1) 0 ((kz_lz (z19))) gme _ _ _ (by omega) (by omega) hd_gme hdy (lv_sub hl [0, 1, 2, 3, 4, 5, 6, 7] rfl)
          · refine lv_iconst (v := (nI (0))) hx hb zd_N_isWithin_84 (by decide) ?_
            exact kz_zret F (gme) hdy (by first | exact Or.inl rfl | exact Or.inr rfl | assumption) (⟨hd_gme, by first | exact Or.inl rfl | exact Or.inr rfl | assumption, trivial⟩) zd_N_isWithin_85
      · have hc12 : ¬ k10 = 0 := fun h9 => hc12 ((kz_neg (by omega)).mpr h9)
        obtain ⟨k10p, rfl⟩ : ∃ j, k10 = j + 1 := ⟨k10 - 1, by omega⟩
        rw [nI_pred] at hl
        refine lv_iload hx hb zd_N_isWithin_15 (lv_at hl 1 rfl) ?_
        refine lv_if_ne (tgt := 33) hx hb zd_N_isWithin_17 (by decide) (fun hc17 => ?_) (fun hc17 => ?_)
        · refine lv_iconst (v := (nI (1))) hx hb zd_N_isWithin_33 (by decide) ?_
          refine lv_goto (tgt := 38) hx hb zd_N_isWithin_34 (by decide) ?_
          refine lv_istore (lv' := [(6, .int (nI (1))), (7, .int (nI (k10p))), (4, .long yl5), (0, .ref o), (1, .ref a), (2, .int (nI (2))), (3, .int (nI (2)))]) hx hb zd_N_isWithin_38 hl (by decide) rfl (fun ls hl => ?_)
          refine lv_iload hx hb zd_N_isWithin_40 (lv_at hl 1 rfl) ?_
          refine lv_iconst (v := (nI (2))) hx hb zd_N_isWithin_42 (by decide) ?_
          refine lv_icmp_ge (tgt := 61) hx hb zd_N_isWithin_43 (by decide) (fun hc43 => ?_) (fun hc43 => ?_)
          · have hc43 : 2 ≤ k10p := (nI_leI (by omega) (by omega)).mp hc43
            refine lv_lload hx hb zd_N_isWithin_61 (lv_at hl 2 rfl) ?_
            refine lv_lstore (lv' := [(4, .long yl5), (6, .int (nI (1))), (7, .int (nI (k10p))), (0, .ref o), (1, .ref a), (2, .int (nI (2))), (3, .int (nI (2)))]) hx hb zd_N_isWithin_63 hl (by decide) rfl (fun ls hl => ?_)
            refine lv_iinc (v := (nI (k10p) - 1)) (lv' := [(7, .int (nI (k10p) - 1)), (4, .long yl5), (6, .int (nI (1))), (0, .ref o), (1, .ref a), (2, .int (nI (2))), (3, .int (nI (2)))]) hx hb zd_N_isWithin_65 hl (k := 2) rfl (kz_m1 _) (by decide) rfl (fun ls hl => ?_)
            refine lv_goto (tgt := 10) hx hb zd_N_isWithin_68 (by decide) ?_
            exact ih10 k10p ((nI (1))) (yl5) _ _ _ (by omega) (by omega) hdy (lv_sub hl [0, 2, 1, 3, 4, 5, 6] rfl)
          · have hc43 : ¬ 2 ≤ k10p := fun h9 => hc43 ((nI_leI (by omega) (by omega)).mpr h9)
            refine lv_ldc2 (v := (65536)) hx hb hown (hts _ (kz_c mw_709)) zd_N_isWithin_46 ?_
            refine lv_topl (fun yl32 h9 => ?_)
            obtain rfl : yl32 = kz_lz (65536) := h9.trans (kz_lz_c65536)
            refine lv_lload hx hb zd_N_isWithin_49 (lv_at hl 2 rfl) ?_
            refine lv_lmul hx hb zd_N_isWithin_51 ?_
            refine lv_topl (fun yl33 _ => ?_)
            refine lv_aload_n hx hb zd_N_isWithin_52 rfl (lv_at hl 4 rfl) ?_
            refine lv_iload hx hb zd_N_isWithin_53 (lv_at hl 1 rfl) ?_
            refine kz_riald hx hb hK hro hdy.2.2 1 0 rfl rfl (vp_in_nI (by omega) (by omega)) zd_N_isWithin_55 ?_
            refine lv_topi (fun x34 h9 => ?_)
            obtain rfl : x34 = nI (ga k10p) := h9.trans (kz_dgl ga (by omega))
            have hbx34 := hd_ga k10p
            refine lv_i2l hx hb zd_N_isWithin_56 (kz_lz_i (n := ga k10p) (by omega)) ?_
            refine lv_ladd hx hb zd_N_isWithin_57 ?_
            refine lv_topl (fun yl35 _ => ?_)
            refine lv_goto (tgt := 63) hx hb zd_N_isWithin_58 (by decide) ?_
            refine lv_lstore (lv' := [(4, .long yl35), (6, .int (nI (1))), (7, .int (nI (k10p))), (0, .ref o), (1, .ref a), (2, .int (nI (2))), (3, .int (nI (2)))]) hx hb zd_N_isWithin_63 hl (by decide) rfl (fun ls hl => ?_)
            refine lv_iinc (v := (nI (k10p) - 1)) (lv' := [(7, .int (nI (k10p) - 1)), (4, .long yl35), (6, .int (nI (1))), (0, .ref o), (1, .ref a), (2, .int (nI (2))), (3, .int (nI (2)))]) hx hb zd_N_isWithin_65 hl (k := 2) rfl (kz_m1 _) (by decide) rfl (fun ls hl => ?_)
            refine lv_goto (tgt := 10) hx hb zd_N_isWithin_68 (by decide) ?_
            exact ih10 k10p ((nI (1))) (yl35) _ _ _ (by omega) (by omega) hdy (lv_sub hl [0, 2, 1, 3, 4, 5, 6] rfl)
        · refine lv_iload hx hb zd_N_isWithin_20 (lv_at hl 0 rfl) ?_
          refine lv_iconst (v := (nI (1))) hx hb zd_N_isWithin_22 (by decide) ?_
          refine lv_icmp_le (tgt := 37) hx hb zd_N_isWithin_23 (by decide) (fun hc23 => ?_) (fun hc23 => ?_)
          · have hc23 : k10p ≤ 1 := (nI_leI (by omega) (by omega)).mp hc23
            refine lv_iconst (v := (nI (0))) hx hb zd_N_isWithin_37 (by decide) ?_
            refine lv_istore (lv' := [(6, .int (nI (0))), (7, .int (nI (k10p))), (4, .long yl5), (0, .ref o), (1, .ref a), (2, .int (nI (2))), (3, .int (nI (2)))]) hx hb zd_N_isWithin_38 hl (by decide) rfl (fun ls hl => ?_)
            refine lv_iload hx hb zd_N_isWithin_40 (lv_at hl 1 rfl) ?_
            refine lv_iconst (v := (nI (2))) hx hb zd_N_isWithin_42 (by decide) ?_
            refine lv_icmp_ge (tgt := 61) hx hb zd_N_isWithin_43 (by decide) (fun hc43 => ?_) (fun hc43 => ?_)
            · have hc43 : 2 ≤ k10p := (nI_leI (by omega) (by omega)).mp hc43
              refine lv_lload hx hb zd_N_isWithin_61 (lv_at hl 2 rfl) ?_
              refine lv_lstore (lv' := [(4, .long yl5), (6, .int (nI (0))), (7, .int (nI (k10p))), (0, .ref o), (1, .ref a), (2, .int (nI (2))), (3, .int (nI (2)))]) hx hb zd_N_isWithin_63 hl (by decide) rfl (fun ls hl => ?_)
              refine lv_iinc (v := (nI (k10p) - 1)) (lv' := [(7, .int (nI (k10p) - 1)), (4, .long yl5), (6, .int (nI (0))), (0, .ref o), (1, .ref a), (2, .int (nI (2))), (3, .int (nI (2)))]) hx hb zd_N_isWithin_65 hl (k := 2) rfl (kz_m1 _) (by decide) rfl (fun ls hl => ?_)
              refine lv_goto (tgt := 10) hx hb zd_N_isWithin_68 (by decide) ?_
              exact ih10 k10p ((nI (0))) (yl5) _ _ _ (by omega) (by omega) hdy (lv_sub hl [0, 2, 1, 3, 4, 5, 6] rfl)
            · have hc43 : ¬ 2 ≤ k10p := fun h9 => hc43 ((nI_leI (by omega) (by omega)).mpr h9)
              refine lv_ldc2 (v := (65536)) hx hb hown (hts _ (kz_c mw_709)) zd_N_isWithin_46 ?_
              refine lv_topl (fun yl36 h9 => ?_)
              obtain rfl : yl36 = kz_lz (65536) := h9.trans (kz_lz_c65536)
              refine lv_lload hx hb zd_N_isWithin_49 (lv_at hl 2 rfl) ?_
              refine lv_lmul hx hb zd_N_isWithin_51 ?_
              refine lv_topl (fun yl37 _ => ?_)
              refine lv_aload_n hx hb zd_N_isWithin_52 rfl (lv_at hl 4 rfl) ?_
              refine lv_iload hx hb zd_N_isWithin_53 (lv_at hl 1 rfl) ?_
              refine kz_riald hx hb hK hro hdy.2.2 1 0 rfl rfl (vp_in_nI (by omega) (by omega)) zd_N_isWithin_55 ?_
              refine lv_topi (fun x38 h9 => ?_)
              obtain rfl : x38 = nI (ga k10p) := h9.trans (kz_dgl ga (by omega))
              have hbx38 := hd_ga k10p
              refine lv_i2l hx hb zd_N_isWithin_56 (kz_lz_i (n := ga k10p) (by omega)) ?_
              refine lv_ladd hx hb zd_N_isWithin_57 ?_
              refine lv_topl (fun yl39 _ => ?_)
              refine lv_goto (tgt := 63) hx hb zd_N_isWithin_58 (by decide) ?_
              refine lv_lstore (lv' := [(4, .long yl39), (6, .int (nI (0))), (7, .int (nI (k10p))), (0, .ref o), (1, .ref a), (2, .int (nI (2))), (3, .int (nI (2)))]) hx hb zd_N_isWithin_63 hl (by decide) rfl (fun ls hl => ?_)
              refine lv_iinc (v := (nI (k10p) - 1)) (lv' := [(7, .int (nI (k10p) - 1)), (4, .long yl39), (6, .int (nI (0))), (0, .ref o), (1, .ref a), (2, .int (nI (2))), (3, .int (nI (2)))]) hx hb zd_N_isWithin_65 hl (k := 2) rfl (kz_m1 _) (by decide) rfl (fun ls hl => ?_)
              refine lv_goto (tgt := 10) hx hb zd_N_isWithin_68 (by decide) ?_
              exact ih10 k10p ((nI (0))) (yl39) _ _ _ (by omega) (by omega) hdy (lv_sub hl [0, 2, 1, 3, 4, 5, 6] rfl)
          · have hc23 : ¬ k10p ≤ 1 := fun h9 => hc23 ((nI_leI (by omega) (by omega)).mpr h9)
            refine lv_aload_n hx hb zd_N_isWithin_26 rfl (lv_at hl 4 rfl) ?_
            refine lv_iload hx hb zd_N_isWithin_27 (lv_at hl 0 rfl) ?_
            refine kz_riald hx hb hK hro hdy.2.2 1 0 rfl rfl (vp_in_nI (by omega) (by omega)) zd_N_isWithin_29 ?_
            refine lv_topi (fun x40 h9 => ?_)
            obtain rfl : x40 = nI (ga k10p) := h9.trans (kz_dgl ga (by omega))
            have hbx40 := hd_ga k10p
            refine lv_if_le (tgt := 37) hx hb zd_N_isWithin_30 (by decide) (fun hc30 => ?_) (fun hc30 => ?_)
            · have hc30 : (ga k10p) ≤ 0 := (nI_leI (by omega) (by omega)).mp (by rw [nI_0]; exact hc30)
              refine lv_iconst (v := (nI (0))) hx hb zd_N_isWithin_37 (by decide) ?_
              refine lv_istore (lv' := [(6, .int (nI (0))), (7, .int (nI (k10p))), (4, .long yl5), (0, .ref o), (1, .ref a), (2, .int (nI (2))), (3, .int (nI (2)))]) hx hb zd_N_isWithin_38 hl (by decide) rfl (fun ls hl => ?_)
              refine lv_iload hx hb zd_N_isWithin_40 (lv_at hl 1 rfl) ?_
              refine lv_iconst (v := (nI (2))) hx hb zd_N_isWithin_42 (by decide) ?_
              refine lv_icmp_ge (tgt := 61) hx hb zd_N_isWithin_43 (by decide) (fun hc43 => ?_) (fun hc43 => ?_)
              · have hc43 : 2 ≤ k10p := (nI_leI (by omega) (by omega)).mp hc43
                refine lv_lload hx hb zd_N_isWithin_61 (lv_at hl 2 rfl) ?_
                refine lv_lstore (lv' := [(4, .long yl5), (6, .int (nI (0))), (7, .int (nI (k10p))), (0, .ref o), (1, .ref a), (2, .int (nI (2))), (3, .int (nI (2)))]) hx hb zd_N_isWithin_63 hl (by decide) rfl (fun ls hl => ?_)
                refine lv_iinc (v := (nI (k10p) - 1)) (lv' := [(7, .int (nI (k10p) - 1)), (4, .long yl5), (6, .int (nI (0))), (0, .ref o), (1, .ref a), (2, .int (nI (2))), (3, .int (nI (2)))]) hx hb zd_N_isWithin_65 hl (k := 2) rfl (kz_m1 _) (by decide) rfl (fun ls hl => ?_)
                refine lv_goto (tgt := 10) hx hb zd_N_isWithin_68 (by decide) ?_
                exact ih10 k10p ((nI (0))) (yl5) _ _ _ (by omega) (by omega) hdy (lv_sub hl [0, 2, 1, 3, 4, 5, 6] rfl)
              · have hc43 : ¬ 2 ≤ k10p := fun h9 => hc43 ((nI_leI (by omega) (by omega)).mpr h9)
                refine lv_ldc2 (v := (65536)) hx hb hown (hts _ (kz_c mw_709)) zd_N_isWithin_46 ?_
                refine lv_topl (fun yl41 h9 => ?_)
                obtain rfl : yl41 = kz_lz (65536) := h9.trans (kz_lz_c65536)
                refine lv_lload hx hb zd_N_isWithin_49 (lv_at hl 2 rfl) ?_
                refine lv_lmul hx hb zd_N_isWithin_51 ?_
                refine lv_topl (fun yl42 _ => ?_)
                refine lv_aload_n hx hb zd_N_isWithin_52 rfl (lv_at hl 4 rfl) ?_
                refine lv_iload hx hb zd_N_isWithin_53 (lv_at hl 1 rfl) ?_
                refine kz_riald hx hb hK hro hdy.2.2 1 0 rfl rfl (vp_in_nI (by omega) (by omega)) zd_N_isWithin_55 ?_
                refine lv_topi (fun x43 h9 => ?_)
                obtain rfl : x43 = nI (ga k10p) := h9.trans (kz_dgl ga (by omega))
                have hbx43 := hd_ga k10p
                refine lv_i2l hx hb zd_N_isWithin_56 (kz_lz_i (n := ga k10p) (by omega)) ?_
                refine lv_ladd hx hb zd_N_isWithin_57 ?_
                refine lv_topl (fun yl44 _ => ?_)
                refine lv_goto (tgt := 63) hx hb zd_N_isWithin_58 (by decide) ?_
                refine lv_lstore (lv' := [(4, .long yl44), (6, .int (nI (0))), (7, .int (nI (k10p))), (0, .ref o), (1, .ref a), (2, .int (nI (2))), (3, .int (nI (2)))]) hx hb zd_N_isWithin_63 hl (by decide) rfl (fun ls hl => ?_)
                refine lv_iinc (v := (nI (k10p) - 1)) (lv' := [(7, .int (nI (k10p) - 1)), (4, .long yl44), (6, .int (nI (0))), (0, .ref o), (1, .ref a), (2, .int (nI (2))), (3, .int (nI (2)))]) hx hb zd_N_isWithin_65 hl (k := 2) rfl (kz_m1 _) (by decide) rfl (fun ls hl => ?_)
                refine lv_goto (tgt := 10) hx hb zd_N_isWithin_68 (by decide) ?_
                exact ih10 k10p ((nI (0))) (yl44) _ _ _ (by omega) (by omega) hdy (lv_sub hl [0, 2, 1, 3, 4, 5, 6] rfl)
            · have hc30 : ¬ (ga k10p) ≤ 0 := fun h9 => hc30 (by have h8 := (nI_leI (by omega) (by omega)).mpr h9; rw [nI_0] at h8; exact h8)
              refine lv_iconst (v := (nI (1))) hx hb zd_N_isWithin_33 (by decide) ?_
              refine lv_goto (tgt := 38) hx hb zd_N_isWithin_34 (by decide) ?_
              refine lv_istore (lv' := [(6, .int (nI (1))), (7, .int (nI (k10p))), (4, .long yl5), (0, .ref o), (1, .ref a), (2, .int (nI (2))), (3, .int (nI (2)))]) hx hb zd_N_isWithin_38 hl (by decide) rfl (fun ls hl => ?_)
              refine lv_iload hx hb zd_N_isWithin_40 (lv_at hl 1 rfl) ?_
              refine lv_iconst (v := (nI (2))) hx hb zd_N_isWithin_42 (by decide) ?_
              refine lv_icmp_ge (tgt := 61) hx hb zd_N_isWithin_43 (by decide) (fun hc43 => ?_) (fun hc43 => ?_)
              · have hc43 : 2 ≤ k10p := (nI_leI (by omega) (by omega)).mp hc43
                refine lv_lload hx hb zd_N_isWithin_61 (lv_at hl 2 rfl) ?_
                refine lv_lstore (lv' := [(4, .long yl5), (6, .int (nI (1))), (7, .int (nI (k10p))), (0, .ref o), (1, .ref a), (2, .int (nI (2))), (3, .int (nI (2)))]) hx hb zd_N_isWithin_63 hl (by decide) rfl (fun ls hl => ?_)
                refine lv_iinc (v := (nI (k10p) - 1)) (lv' := [(7, .int (nI (k10p) - 1)), (4, .long yl5), (6, .int (nI (1))), (0, .ref o), (1, .ref a), (2, .int (nI (2))), (3, .int (nI (2)))]) hx hb zd_N_isWithin_65 hl (k := 2) rfl (kz_m1 _) (by decide) rfl (fun ls hl => ?_)
                refine lv_goto (tgt := 10) hx hb zd_N_isWithin_68 (by decide) ?_
                exact ih10 k10p ((nI (1))) (yl5) _ _ _ (by omega) (by omega) hdy (lv_sub hl [0, 2, 1, 3, 4, 5, 6] rfl)
              · have hc43 : ¬ 2 ≤ k10p := fun h9 => hc43 ((nI_leI (by omega) (by omega)).mpr h9)
                refine lv_ldc2 (v := (65536)) hx hb hown (hts _ (kz_c mw_709)) zd_N_isWithin_46 ?_
                refine lv_topl (fun yl45 h9 => ?_)
                obtain rfl : yl45 = kz_lz (65536) := h9.trans (kz_lz_c65536)
                refine lv_lload hx hb zd_N_isWithin_49 (lv_at hl 2 rfl) ?_
                refine lv_lmul hx hb zd_N_isWithin_51 ?_
                refine lv_topl (fun yl46 _ => ?_)
                refine lv_aload_n hx hb zd_N_isWithin_52 rfl (lv_at hl 4 rfl) ?_
                refine lv_iload hx hb zd_N_isWithin_53 (lv_at hl 1 rfl) ?_
                refine kz_riald hx hb hK hro hdy.2.2 1 0 rfl rfl (vp_in_nI (by omega) (by omega)) zd_N_isWithin_55 ?_
                refine lv_topi (fun x47 h9 => ?_)
                obtain rfl : x47 = nI (ga k10p) := h9.trans (kz_dgl ga (by omega))
                have hbx47 := hd_ga k10p
                refine lv_i2l hx hb zd_N_isWithin_56 (kz_lz_i (n := ga k10p) (by omega)) ?_
                refine lv_ladd hx hb zd_N_isWithin_57 ?_
                refine lv_topl (fun yl48 _ => ?_)
                refine lv_goto (tgt := 63) hx hb zd_N_isWithin_58 (by decide) ?_
                refine lv_lstore (lv' := [(4, .long yl48), (6, .int (nI (1))), (7, .int (nI (k10p))), (0, .ref o), (1, .ref a), (2, .int (nI (2))), (3, .int (nI (2)))]) hx hb zd_N_isWithin_63 hl (by decide) rfl (fun ls hl => ?_)
                refine lv_iinc (v := (nI (k10p) - 1)) (lv' := [(7, .int (nI (k10p) - 1)), (4, .long yl48), (6, .int (nI (1))), (0, .ref o), (1, .ref a), (2, .int (nI (2))), (3, .int (nI (2)))]) hx hb zd_N_isWithin_65 hl (k := 2) rfl (kz_m1 _) (by decide) rfl (fun ls hl => ?_)
                refine lv_goto (tgt := 10) hx hb zd_N_isWithin_68 (by decide) ?_
                exact ih10 k10p ((nI (1))) (yl48) _ _ _ (by omega) (by omega) hdy (lv_sub hl [0, 2, 1, 3, 4, 5, 6] rfl)
  exact lp10 (16 + 1) 16 ((nI (0))) ((kz_lz (z2))) _ _ _ (by omega) (by omega) hdy (lv_sub hl [0, 1, 2, 3, 4, 5, 6] rfl)

