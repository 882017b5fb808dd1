set_option maxHeartbeats 4000000 in
set_option maxRecDepth 100000 in
/-- KeyMeetingModel.figures([II[I)V -/
theorem c_X_figures56 (l : Launch) (dC : Nat → ClassId) (dI : Nat → Nat → Nat) (cI cAA cB cL : ClassId) (o a : Nat) (go : Nat → Nat) (ga : Nat → Int32) (fr : Nat) (sz : Nat) (hd_go : ∀ j, go j < 65536) (hfr : fr + 7 < 56) : Met l zy_N_figures zw_N_figures { frames := 0, cells := 0, slots := 0, locals := 0 } (kz_Pc (dC, dI) vwCl [(cI, .int), (cAA, .array .int), (cB, .byte), (cL, .long)] [] [] [.ref a, .int (nI (fr)), .ref o] [(o, .inl (cI, 16, .inl (kz_dg go)))] [(a, .inl (cI, 56, .inl ga))] sz) (va_Qv (fun (u : (Nat → Nat)) => (∀ j, u j < 65536) ∧ (∀ j, j < 16 → u j = kv_fig ga fr j) ∧ True) (kz_B (dC, dI) vwCl (va_A [(o, .inl (cI, 16, .inl (kz_dg go)))] sz) (fun u : (Nat → Nat) => [(o, .inl (cI, 16, .inl (kz_dg u)))])) (va_A [(o, .inl (cI, 16, .inl (kz_dg go)))] sz)) 0 0 (va_A [(o, .inl (cI, 16, .inl (kz_dg go)))] sz) := by
  refine kz_met (y := zy_N_figures) (ws := zw_N_figures) (av := [.ref a, .int (nI (fr)), .ref o]) (sz := sz) (Qc := fun A => va_Qv (fun (u : (Nat → Nat)) => (∀ j, u j < 65536) ∧ (∀ j, j < 16 → u j = kv_fig ga fr j) ∧ True) (kz_B (dC, dI) vwCl A (fun u : (Nat → Nat) => [(o, .inl (cI, 16, .inl (kz_dg u)))])) A) (cc := zc_N_figures) (maxL := 5) (ret := none) (by decide) rfl (Nat.le_of_ble_eq_true rfl) ?_
  intro p e s m below meth c A ls F hA hdy hK hro hZ hN hl
  obtain ⟨hx, hb, hml, hr, hown, hlocks, hts, hnm⟩ := id F
  have hl : lv_has ls 5 [(0, .ref a), (1, .int (nI (fr))), (2, .ref o)] := hl
  refine lv_iconst (v := (nI (0))) hx hb zd_N_figures_0 (by decide) ?_
  refine lv_istore_n (lv' := [(3, .int (nI (0))), (0, .ref a), (1, .int (nI (fr))), (2, .ref o)]) hx hb zd_N_figures_1 rfl hl (by decide) rfl (fun ls hl => ?_)
  have lp2 : ∀ (n2 k2 : Nat) (d1 : Nat → Nat) (H : Heap) (locs : List Loc) (ls : Array Slot), k2 ≤ 16 → 16 - k2 < n2 → (∀ j, d1 j < 65536) → (∀ j, j < k2 → d1 j = kv_fig ga fr j) → kz_dy (dC, dI) vwCl A s.heap H locs [(o, .inl (cI, 16, .inl (kz_dg d1)))] → lv_has ls 5 [(3, .int (nI (k2))), (0, .ref a), (1, .int (nI (fr))), (2, .ref o)] → W p l e { frames := 0, cells := 0, slots := 0, locals := 0 } s m ([.ref a, .int (nI (fr)), .ref o] : List Value).toArray below meth c H locs 0 0 (MQ below (va_Qv (fun (u : (Nat → Nat)) => (∀ j, u j < 65536) ∧ (∀ j, j < 16 → u j = kv_fig ga fr j) ∧ True) (kz_B (dC, dI) vwCl A (fun u : (Nat → Nat) => [(o, .inl (cI, 16, .inl (kz_dg u)))])) A) ([.ref a, .int (nI (fr)), .ref o] : List Value).toArray s 0 0 A) (F0 m 2 ls []) := by
    intro n2
    induction n2 with
    | zero => intro k2; intros; omega
    | succ n2 ih2 =>
      intro k2 d1 H locs ls hi2 hn2 hd_d1 hfi hdy hl
      refine lv_iload_n hx hb zd_N_figures_2 rfl (lv_at hl 0 rfl) ?_
      refine lv_bipush (v := (nI (16))) hx hb zd_N_figures_3 (by decide) ?_
      refine lv_icmp_ge (tgt := 48) hx hb zd_N_figures_5 (by decide) (fun hc5 => ?_) (fun hc5 => ?_)
      · have hc5 : 16 ≤ k2 := (nI_leI (by omega) (by omega)).mp hc5
        exact kz_vret F (d1) hdy (⟨hd_d1, by exact fun j hj => hfi j (by omega), trivial⟩) zd_N_figures_48
      · have hc5 : ¬ 16 ≤ k2 := fun h9 => hc5 ((nI_leI (by omega) (by omega)).mpr h9)
        refine lv_aload_n hx hb zd_N_figures_8 rfl (lv_at hl 1 rfl) ?_
        refine lv_iload_n hx hb zd_N_figures_9 rfl (lv_at hl 2 rfl) ?_
        refine lv_bipush (v := (nI (7))) hx hb zd_N_figures_10 (by decide) ?_
        refine kz_iadd hx hb zd_N_figures_12 (nI_add _ _) ?_
        refine lv_iload_n hx hb zd_N_figures_13 rfl (lv_at hl 0 rfl) ?_
        refine lv_iconst (v := (nI (2))) hx hb zd_N_figures_14 (by decide) ?_
        refine kz_idiv hx hb zd_N_figures_15 (by decide) (pk_div (by omega) (by omega) (by omega)) ?_
        refine kz_isub hx hb zd_N_figures_16 (pk_sub (by omega)) ?_
        refine kz_riald hx hb hK hro hdy.2.2 0 0 rfl rfl (vp_in_nI (by omega) (by omega)) zd_N_figures_17 ?_
        refine lv_topi (fun x2 h9 => ?_)
        obtain rfl : x2 = ga (fr + 7 - (k2 / 2)) := h9.trans (by rw [nI_clamp (by omega)])
        refine lv_istore (lv' := [(4, .int (ga (fr + 7 - (k2 / 2)))), (3, .int (nI (k2))), (0, .ref a), (1, .int (nI (fr))), (2, .ref o)]) hx hb zd_N_figures_18 hl (by decide) rfl (fun ls hl => ?_)
        refine lv_aload_n hx hb zd_N_figures_20 rfl (lv_at hl 4 rfl) ?_
        refine lv_iload_n hx hb zd_N_figures_21 rfl (lv_at hl 1 rfl) ?_
        refine lv_iload_n hx hb zd_N_figures_22 rfl (lv_at hl 1 rfl) ?_
        refine lv_iconst (v := (nI (2))) hx hb zd_N_figures_23 (by decide) ?_
        refine kz_irem hx hb zd_N_figures_24 (by decide) (pk_rem (by omega) (by omega) (by omega)) ?_
        refine lv_if_ne (tgt := 36) hx hb zd_N_figures_25 (by decide) (fun hc25 => ?_) (fun hc25 => ?_)
        · have hc25 : ¬ (k2 % 2) = 0 := fun h9 => hc25 (by have h8 := (nI_eq (by omega) (by omega)).mpr h9; rw [nI_0] at h8; exact h8)
          refine lv_iload hx hb zd_N_figures_36 (lv_at hl 0 rfl) ?_
          refine lv_bipush (v := (nI (16))) hx hb zd_N_figures_38 (by decide) ?_
          refine lv_iushr hx hb zd_N_figures_40 (kz_ushr16i (ga (fr + 7 - (k2 / 2)))) ?_
          have hu3 := kz_ult (ga (fr + 7 - (k2 / 2)))
          refine va_iast hx hb hK hdy.1 hdy.2.1 hdy.2.2 0 0 rfl rfl (vp_in_nI (by omega) (by omega)) zd_N_figures_41 (fun H locs hP hD hS => ?_)
          have h9 := kz_dgu d1 (k := k2) ((ga (fr + 7 - (k2 / 2))).toUInt32.toNat / 65536) (by omega)
          rw [h9] at hP hD
          obtain ⟨f4, ef4, hd_f4, hdy⟩ : ∃ f4 : Nat → Nat, f4 = kv_up d1 k2 ((ga (fr + 7 - (k2 / 2))).toUInt32.toNat / 65536) ∧ (∀ j, f4 j < 65536) ∧ kz_dy (dC, dI) vwCl A s.heap H locs [(o, .inl (cI, 16, .inl (kz_dg f4)))] := ⟨_, rfl, kv_up_lt hd_d1 (by omega), hP, hD, hS⟩
          refine lv_iinc (v := (nI (k2 + 1))) (lv' := [(3, .int (nI (k2 + 1))), (4, .int (ga (fr + 7 - (k2 / 2)))), (0, .ref a), (1, .int (nI (fr))), (2, .ref o)]) hx hb zd_N_figures_42 hl (k := 1) rfl (nI_1 _) (by decide) rfl (fun ls hl => ?_)
          refine lv_goto (tgt := 2) hx hb zd_N_figures_45 (by decide) ?_
          have hi9_hfi5 : ∀ j, j < k2 + 1 → f4 j = kv_fig ga fr j := by rw [ef4]; exact kv_fill hfi (by unfold kv_fig; first | rw [if_pos (by omega)] | rw [if_neg (by omega)])
          exact ih2 (k2 + 1) f4 _ _ _ (by omega) (by omega) hd_f4 hi9_hfi5 hdy (lv_sub hl [0, 2, 3, 4] rfl)
        · have hc25 : (k2 % 2) = 0 := (nI_eq (by omega) (by omega)).mp (by rw [nI_0]; exact hc25)
          refine lv_iload hx hb zd_N_figures_28 (lv_at hl 0 rfl) ?_
          refine lv_ldc (v := (nI (65535))) hx hb hown (hts _ (kz_c mw_693)) zd_N_figures_30 ?_
          refine lv_iand hx hb zd_N_figures_32 ?_
          have hu6 := kz_ult (ga (fr + 7 - (k2 / 2)))
          refine lv_topi (fun x7 h9 => ?_)
          obtain rfl : x7 = nI ((ga (fr + 7 - (k2 / 2))).toUInt32.toNat % 65536) := h9.trans (kz_and16i _)
          refine lv_goto (tgt := 41) hx hb zd_N_figures_33 (by decide) ?_
          refine va_iast hx hb hK hdy.1 hdy.2.1 hdy.2.2 0 0 rfl rfl (vp_in_nI (by omega) (by omega)) zd_N_figures_41 (fun H locs hP hD hS => ?_)
          have h9 := kz_dgu d1 (k := k2) ((ga (fr + 7 - (k2 / 2))).toUInt32.toNat % 65536) (by omega)
          rw [h9] at hP hD
          obtain ⟨f8, ef8, hd_f8, hdy⟩ : ∃ f8 : Nat → Nat, f8 = kv_up d1 k2 ((ga (fr + 7 - (k2 / 2))).toUInt32.toNat % 65536) ∧ (∀ j, f8 j < 65536) ∧ kz_dy (dC, dI) vwCl A s.heap H locs [(o, .inl (cI, 16, .inl (kz_dg f8)))] := ⟨_, rfl, kv_up_lt hd_d1 (by omega), hP, hD, hS⟩
          refine lv_iinc (v := (nI (k2 + 1))) (lv' := [(3, .int (nI (k2 + 1))), (4, .int (ga (fr + 7 - (k2 / 2)))), (0, .ref a), (1, .int (nI (fr))), (2, .ref o)]) hx hb zd_N_figures_42 hl (k := 1) rfl (nI_1 _) (by decide) rfl (fun ls hl => ?_)
          refine lv_goto (tgt := 2) hx hb zd_N_figures_45 (by decide) ?_
          have hi9_hfi9 : ∀ j, j < k2 + 1 → f8 j = kv_fig ga fr j := by rw [ef8]; exact kv_fill hfi (by unfold kv_fig; first | rw [if_pos (by omega)] | rw [if_neg (by omega)])
          exact ih2 (k2 + 1) f8 _ _ _ (by omega) (by omega) hd_f8 hi9_hfi9 hdy (lv_sub hl [0, 2, 3, 4] rfl)
  have hi9_hfi10 : ∀ j, j < 0 → go j = kv_fig ga fr j := by intro j hj; omega
  exact lp2 (16 - 0 + 1) 0 go _ _ _ (by omega) (by omega) hd_go hi9_hfi10 hdy (lv_sub hl [0, 1, 2, 3] rfl)

set_option maxHeartbeats 4000000 in
set_option maxRecDepth 100000 in
/-- KeyMeetingModel.figures([II[I)V -/
theorem c_X_figures32 (l : Launch) (dC : Nat → ClassId) (dI : Nat → Nat → Nat) (cI cAA cB cL : ClassId) (o a : Nat) (go : Nat → Nat) (ga : Nat → Int32) (fr : Nat) (sz : Nat) (hd_go : ∀ j, go j < 65536) (hfr : fr + 7 < 32) : Met l zy_N_figures zw_N_figures { frames := 0, cells := 0, slots := 0, locals := 0 } (kz_Pc (dC, dI) vwCl [(cI, .int), (cAA, .array .int), (cB, .byte), (cL, .long)] [] [] [.ref a, .int (nI (fr)), .ref o] [(o, .inl (cI, 16, .inl (kz_dg go)))] [(a, .inl (cI, 32, .inl ga))] sz) (va_Qv (fun (u : (Nat → Nat)) => (∀ j, u j < 65536) ∧ (∀ j, j < 16 → u j = kv_fig ga fr j) ∧ True) (kz_B (dC, dI) vwCl (va_A [(o, .inl (cI, 16, .inl (kz_dg go)))] sz) (fun u : (Nat → Nat) => [(o, .inl (cI, 16, .inl (kz_dg u)))])) (va_A [(o, .inl (cI, 16, .inl (kz_dg go)))] sz)) 0 0 (va_A [(o, .inl (cI, 16, .inl (kz_dg go)))] sz) := by
  refine kz_met (y := zy_N_figures) (ws := zw_N_figures) (av := [.ref a, .int (nI (fr)), .ref o]) (sz := sz) (Qc := fun A => va_Qv (fun (u : (Nat → Nat)) => (∀ j, u j < 65536) ∧ (∀ j, j < 16 → u j = kv_fig ga fr j) ∧ True) (kz_B (dC, dI) vwCl A (fun u : (Nat → Nat) => [(o, .inl (cI, 16, .inl (kz_dg u)))])) A) (cc := zc_N_figures) (maxL := 5) (ret := none) (by decide) rfl (Nat.le_of_ble_eq_true rfl) ?_
  intro p e s m below meth c A ls F hA hdy hK hro hZ hN hl
  obtain ⟨hx, hb, hml, hr, hown, hlocks, hts, hnm⟩ := id F
  have hl : lv_has ls 5 [(0, .ref a), (1, .int (nI (fr))), (2, .ref o)] := hl
  refine lv_iconst (v := (nI (0))) hx hb zd_N_figures_0 (by decide) ?_
  refine lv_istore_n (lv' := [(3, .int (nI (0))), (0, .ref a), (1, .int (nI (fr))), (2, .ref o)]) hx hb zd_N_figures_1 rfl hl (by decide) rfl (fun ls hl => ?_)
  have lp2 : ∀ (n2 k2 : Nat) (d1 : Nat → Nat) (H : Heap) (locs : List Loc) (ls : Array Slot), k2 ≤ 16 → 16 - k2 < n2 → (∀ j, d1 j < 65536) → (∀ j, j < k2 → d1 j = kv_fig ga fr j) → kz_dy (dC, dI) vwCl A s.heap H locs [(o, .inl (cI, 16, .inl (kz_dg d1)))] → lv_has ls 5 [(3, .int (nI (k2))), (0, .ref a), (1, .int (nI (fr))), (2, .ref o)] → W p l e { frames := 0, cells := 0, slots := 0, locals := 0 } s m ([.ref a, .int (nI (fr)), .ref o] : List Value).toArray below meth c H locs 0 0 (MQ below (va_Qv (fun (u : (Nat → Nat)) => (∀ j, u j < 65536) ∧ (∀ j, j < 16 → u j = kv_fig ga fr j) ∧ True) (kz_B (dC, dI) vwCl A (fun u : (Nat → Nat) => [(o, .inl (cI, 16, .inl (kz_dg u)))])) A) ([.ref a, .int (nI (fr)), .ref o] : List Value).toArray s 0 0 A) (F0 m 2 ls []) := by
    intro n2
    induction n2 with
    | zero => intro k2; intros; omega
    | succ n2 ih2 =>
      intro k2 d1 H locs ls hi2 hn2 hd_d1 hfi hdy hl
      refine lv_iload_n hx hb zd_N_figures_2 rfl (lv_at hl 0 rfl) ?_
      refine lv_bipush (v := (nI (16))) hx hb zd_N_figures_3 (by decide) ?_
      refine lv_icmp_ge (tgt := 48) hx hb zd_N_figures_5 (by decide) (fun hc5 => ?_) (fun hc5 => ?_)
      · have hc5 : 16 ≤ k2 := (nI_leI (by omega) (by omega)).mp hc5
        exact kz_vret F (d1) hdy (⟨hd_d1, by exact fun j hj => hfi j (by omega), trivial⟩) zd_N_figures_48
      · have hc5 : ¬ 16 ≤ k2 := fun h9 => hc5 ((nI_leI (by omega) (by omega)).mpr h9)
        refine lv_aload_n hx hb zd_N_figures_8 rfl (lv_at hl 1 rfl) ?_
        refine lv_iload_n hx hb zd_N_figures_9 rfl (lv_at hl 2 rfl) ?_
        refine lv_bipush (v := (nI (7))) hx hb zd_N_figures_10 (by decide) ?_
        refine kz_iadd hx hb zd_N_figures_12 (nI_add _ _) ?_
        refine lv_iload_n hx hb zd_N_figures_13 rfl (lv_at hl 0 rfl) ?_
        refine lv_iconst (v := (nI (2))) hx hb zd_N_figures_14 (by decide) ?_
        refine kz_idiv hx hb zd_N_figures_15 (by decide) (pk_div (by omega) (by omega) (by omega)) ?_
        refine kz_isub hx hb zd_N_figures_16 (pk_sub (by omega)) ?_
        refine kz_riald hx hb hK hro hdy.2.2 0 0 rfl rfl (vp_in_nI (by omega) (by omega)) zd_N_figures_17 ?_
        refine lv_topi (fun x2 h9 => ?_)
        obtain rfl : x2 = ga (fr + 7 - (k2 / 2)) := h9.trans (by rw [nI_clamp (by omega)])
        refine lv_istore (lv' := [(4, .int (ga (fr + 7 - (k2 / 2)))), (3, .int (nI (k2))), (0, .ref a), (1, .int (nI (fr))), (2, .ref o)]) hx hb zd_N_figures_18 hl (by decide) rfl (fun ls hl => ?_)
        refine lv_aload_n hx hb zd_N_figures_20 rfl (lv_at hl 4 rfl) ?_
        refine lv_iload_n hx hb zd_N_figures_21 rfl (lv_at hl 1 rfl) ?_
        refine lv_iload_n hx hb zd_N_figures_22 rfl (lv_at hl 1 rfl) ?_
        refine lv_iconst (v := (nI (2))) hx hb zd_N_figures_23 (by decide) ?_
        refine kz_irem hx hb zd_N_figures_24 (by decide) (pk_rem (by omega) (by omega) (by omega)) ?_
        refine lv_if_ne (tgt := 36) hx hb zd_N_figures_25 (by decide) (fun hc25 => ?_) (fun hc25 => ?_)
        · have hc25 : ¬ (k2 % 2) = 0 := fun h9 => hc25 (by have h8 := (nI_eq (by omega) (by omega)).mpr h9; rw [nI_0] at h8; exact h8)
          refine lv_iload hx hb zd_N_figures_36 (lv_at hl 0 rfl) ?_
          refine lv_bipush (v := (nI (16))) hx hb zd_N_figures_38 (by decide) ?_
          refine lv_iushr hx hb zd_N_figures_40 (kz_ushr16i (ga (fr + 7 - (k2 / 2)))) ?_
          have hu3 := kz_ult (ga (fr + 7 - (k2 / 2)))
          refine va_iast hx hb hK hdy.1 hdy.2.1 hdy.2.2 0 0 rfl rfl (vp_in_nI (by omega) (by omega)) zd_N_figures_41 (fun H locs hP hD hS => ?_)
          have h9 := kz_dgu d1 (k := k2) ((ga (fr + 7 - (k2 / 2))).toUInt32.toNat / 65536) (by omega)
          rw [h9] at hP hD
          obtain ⟨f4, ef4, hd_f4, hdy⟩ : ∃ f4 : Nat → Nat, f4 = kv_up d1 k2 ((ga (fr + 7 - (k2 / 2))).toUInt32.toNat / 65536) ∧ (∀ j, f4 j < 65536) ∧ kz_dy (dC, dI) vwCl A s.heap H locs [(o, .inl (cI, 16, .inl (kz_dg f4)))] := ⟨_, rfl, kv_up_lt hd_d1 (by omega), hP, hD, hS⟩
          refine lv_iinc (v := (nI (k2 + 1))) (lv' := [(3, .int (nI (k2 + 1))), (4, .int (ga (fr + 7 - (k2 / 2)))), (0, .ref a), (1, .int (nI (fr))), (2, .ref o)]) hx hb zd_N_figures_42 hl (k := 1) rfl (nI_1 _) (by decide) rfl (fun ls hl => ?_)
          refine lv_goto (tgt := 2) hx hb zd_N_figures_45 (by decide) ?_
          have hi9_hfi5 : ∀ j, j < k2 + 1 → f4 j = kv_fig ga fr j := by rw [ef4]; exact kv_fill hfi (by unfold kv_fig; first | rw [if_pos (by omega)] | rw [if_neg (by omega)])
          exact ih2 (k2 + 1) f4 _ _ _ (by omega) (by omega) hd_f4 hi9_hfi5 hdy (lv_sub hl [0, 2, 3, 4] rfl)
        · have hc25 : (k2 % 2) = 0 := (nI_eq (by omega) (by omega)).mp (by rw [nI_0]; exact hc25)
          refine lv_iload hx hb zd_N_figures_28 (lv_at hl 0 rfl) ?_
          refine lv_ldc (v := (nI (65535))) hx hb hown (hts _ (kz_c mw_693)) zd_N_figures_30 ?_
          refine lv_iand hx hb zd_N_figures_32 ?_
          have hu6 := kz_ult (ga (fr + 7 - (k2 / 2)))
          refine lv_topi (fun x7 h9 => ?_)
          obtain rfl : x7 = nI ((ga (fr + 7 - (k2 / 2))).toUInt32.toNat % 65536) := h9.trans (kz_and16i _)
          refine lv_goto (tgt := 41) hx hb zd_N_figures_33 (by decide) ?_
          refine va_iast hx hb hK hdy.1 hdy.2.1 hdy.2.2 0 0 rfl rfl (vp_in_nI (by omega) (by omega)) zd_N_figures_41 (fun H locs hP hD hS => ?_)
          have h9 := kz_dgu d1 (k := k2) ((ga (fr + 7 - (k2 / 2))).toUInt32.toNat % 65536) (by omega)
          rw [h9] at hP hD
          obtain ⟨f8, ef8, hd_f8, hdy⟩ : ∃ f8 : Nat → Nat, f8 = kv_up d1 k2 ((ga (fr + 7 - (k2 / 2))).toUInt32.toNat % 65536) ∧ (∀ j, f8 j < 65536) ∧ kz_dy (dC, dI) vwCl A s.heap H locs [(o, .inl (cI, 16, .inl (kz_dg f8)))] := ⟨_, rfl, kv_up_lt hd_d1 (by omega), hP, hD, hS⟩
          refine lv_iinc (v := (nI (k2 + 1))) (lv' := [(3, .int (nI (k2 + 1))), (4, .int (ga (fr + 7 - (k2 / 2)))), (0, .ref a), (1, .int (nI (fr))), (2, .ref o)]) hx hb zd_N_figures_42 hl (k := 1) rfl (nI_1 _) (by decide) rfl (fun ls hl => ?_)
          refine lv_goto (tgt := 2) hx hb zd_N_figures_45 (by decide) ?_
          have hi9_hfi9 : ∀ j, j < k2 + 1 → f8 j = kv_fig ga fr j := by rw [ef8]; exact kv_fill hfi (by unfold kv_fig; first | rw [if_pos (by omega)] | rw [if_neg (by omega)])
          exact ih2 (k2 + 1) f8 _ _ _ (by omega) (by omega) hd_f8 hi9_hfi9 hdy (lv_sub hl [0, 2, 3, 4] rfl)
  have hi9_hfi10 : ∀ j, j < 0 → go j = kv_fig ga fr j := by intro j hj; omega
  exact lp2 (16 - 0 + 1) 0 go _ _ _ (by omega) (by omega) hd_go hi9_hfi10 hdy (lv_sub hl [0, 1, 2, 3] rfl)

set_option maxHeartbeats 4000000 in
set_option maxRecDepth 100000 in
/-- KeyMeetingModel.figures([II[I)V -/
theorem c_X_figures16 (l : Launch) (dC : Nat → ClassId) (dI : Nat → Nat → Nat) (cI cAA cB cL : ClassId) (o a : Nat) (go : Nat → Nat) (ga : Nat → Int32) (fr : Nat) (sz : Nat) (hd_go : ∀ j, go j < 65536) (hfr : fr + 7 < 16) : Met l zy_N_figures zw_N_figures { frames := 0, cells := 0, slots := 0, locals := 0 } (kz_Pc (dC, dI) vwCl [(cI, .int), (cAA, .array .int), (cB, .byte), (cL, .long)] [] [] [.ref a, .int (nI (fr)), .ref o] [(o, .inl (cI, 16, .inl (kz_dg go)))] [(a, .inl (cI, 16, .inl ga))] sz) (va_Qv (fun (u : (Nat → Nat)) => (∀ j, u j < 65536) ∧ (∀ j, j < 16 → u j = kv_fig ga fr j) ∧ True) (kz_B (dC, dI) vwCl (va_A [(o, .inl (cI, 16, .inl (kz_dg go)))] sz) (fun u : (Nat → Nat) => [(o, .inl (cI, 16, .inl (kz_dg u)))])) (va_A [(o, .inl (cI, 16, .inl (kz_dg go)))] sz)) 0 0 (va_A [(o, .inl (cI, 16, .inl (kz_dg go)))] sz) := by
  refine kz_met (y := zy_N_figures) (ws := zw_N_figures) (av := [.ref a, .int (nI (fr)), .ref o]) (sz := sz) (Qc := fun A => va_Qv (fun (u : (Nat → Nat)) => (∀ j, u j < 65536) ∧ (∀ j, j < 16 → u j = kv_fig ga fr j) ∧ True) (kz_B (dC, dI) vwCl A (fun u : (Nat → Nat) => [(o, .inl (cI, 16, .inl (kz_dg u)))])) A) (cc := zc_N_figures) (maxL := 5) (ret := none) (by decide) rfl (Nat.le_of_ble_eq_true rfl) ?_
  intro p e s m below meth c A ls F hA hdy hK hro hZ hN hl
  obtain ⟨hx, hb, hml, hr, hown, hlocks, hts, hnm⟩ := id F
  have hl : lv_has ls 5 [(0, .ref a), (1, .int (nI (fr))), (2, .ref o)] := hl
  refine lv_iconst (v := (nI (0))) hx hb zd_N_figures_0 (by decide) ?_
  refine lv_istore_n (lv' := [(3, .int (nI (0))), (0, .ref a), (1, .int (nI (fr))), (2, .ref o)]) hx hb zd_N_figures_1 rfl hl (by decide) rfl (fun ls hl => ?_)
  have lp2 : ∀ (n2 k2 : Nat) (d1 : Nat → Nat) (H : Heap) (locs : List Loc) (ls : Array Slot), k2 ≤ 16 → 16 - k2 < n2 → (∀ j, d1 j < 65536) → (∀ j, j < k2 → d1 j = kv_fig ga fr j) → kz_dy (dC, dI) vwCl A s.heap H locs [(o, .inl (cI, 16, .inl (kz_dg d1)))] → lv_has ls 5 [(3, .int (nI (k2))), (0, .ref a), (1, .int (nI (fr))), (2, .ref o)] → W p l e { frames := 0, cells := 0, slots := 0, locals := 0 } s m ([.ref a, .int (nI (fr)), .ref o] : List Value).toArray below meth c H locs 0 0 (MQ below (va_Qv (fun (u : (Nat → Nat)) => (∀ j, u j < 65536) ∧ (∀ j, j < 16 → u j = kv_fig ga fr j) ∧ True) (kz_B (dC, dI) vwCl A (fun u : (Nat → Nat) => [(o, .inl (cI, 16, .inl (kz_dg u)))])) A) ([.ref a, .int (nI (fr)), .ref o] : List Value).toArray s 0 0 A) (F0 m 2 ls []) := by
    intro n2
    induction n2 with
    | zero => intro k2; intros; omega
    | succ n2 ih2 =>
      intro k2 d1 H locs ls hi2 hn2 hd_d1 hfi hdy hl
      refine lv_iload_n hx hb zd_N_figures_2 rfl (lv_at hl 0 rfl) ?_
      refine lv_bipush (v := (nI (16))) hx hb zd_N_figures_3 (by decide) ?_
      refine lv_icmp_ge (tgt := 48) hx hb zd_N_figures_5 (by decide) (fun hc5 => ?_) (fun hc5 => ?_)
      · have hc5 : 16 ≤ k2 := (nI_leI (by omega) (by omega)).mp hc5
        exact kz_vret F (d1) hdy (⟨hd_d1, by exact fun j hj => hfi j (by omega), trivial⟩) zd_N_figures_48
      · have hc5 : ¬ 16 ≤ k2 := fun h9 => hc5 ((nI_leI (by omega) (by omega)).mpr h9)
        refine lv_aload_n hx hb zd_N_figures_8 rfl (lv_at hl 1 rfl) ?_
        refine lv_iload_n hx hb zd_N_figures_9 rfl (lv_at hl 2 rfl) ?_
        refine lv_bipush (v := (nI (7))) hx hb zd_N_figures_10 (by decide) ?_
        refine kz_iadd hx hb zd_N_figures_12 (nI_add _ _) ?_
        refine lv_iload_n hx hb zd_N_figures_13 rfl (lv_at hl 0 rfl) ?_
        refine lv_iconst (v := (nI (2))) hx hb zd_N_figures_14 (by decide) ?_
        refine kz_idiv hx hb zd_N_figures_15 (by decide) (pk_div (by omega) (by omega) (by omega)) ?_
        refine kz_isub hx hb zd_N_figures_16 (pk_sub (by omega)) ?_
        refine kz_riald hx hb hK hro hdy.2.2 0 0 rfl rfl (vp_in_nI (by omega) (by omega)) zd_N_figures_17 ?_
        refine lv_topi (fun x2 h9 => ?_)
        obtain rfl : x2 = ga (fr + 7 - (k2 / 2)) := h9.trans (by rw [nI_clamp (by omega)])
        refine lv_istore (lv' := [(4, .int (ga (fr + 7 - (k2 / 2)))), (3, .int (nI (k2))), (0, .ref a), (1, .int (nI (fr))), (2, .ref o)]) hx hb zd_N_figures_18 hl (by decide) rfl (fun ls hl => ?_)
        refine lv_aload_n hx hb zd_N_figures_20 rfl (lv_at hl 4 rfl) ?_
        refine lv_iload_n hx hb zd_N_figures_21 rfl (lv_at hl 1 rfl) ?_
        refine lv_iload_n hx hb zd_N_figures_22 rfl (lv_at hl 1 rfl) ?_
        refine lv_iconst (v := (nI (2))) hx hb zd_N_figures_23 (by decide) ?_
        refine kz_irem hx hb zd_N_figures_24 (by decide) (pk_rem (by omega) (by omega) (by omega)) ?_
        refine lv_if_ne (tgt := 36) hx hb zd_N_figures_25 (by decide) (fun hc25 => ?_) (fun hc25 => ?_)
        · have hc25 : ¬ (k2 % 2) = 0 := fun h9 => hc25 (by have h8 := (nI_eq (by omega) (by omega)).mpr h9; rw [nI_0] at h8; exact h8)
          refine lv_iload hx hb zd_N_figures_36 (lv_at hl 0 rfl) ?_
          refine lv_bipush (v := (nI (16))) hx hb zd_N_figures_38 (by decide) ?_
          refine lv_iushr hx hb zd_N_figures_40 (kz_ushr16i (ga (fr + 7 - (k2 / 2)))) ?_
          have hu3 := kz_ult (ga (fr + 7 - (k2 / 2)))
          refine va_iast hx hb hK hdy.1 hdy.2.1 hdy.2.2 0 0 rfl rfl (vp_in_nI (by omega) (by omega)) zd_N_figures_41 (fun H locs hP hD hS => ?_)
          have h9 := kz_dgu d1 (k := k2) ((ga (fr + 7 - (k2 / 2))).toUInt32.toNat / 65536) (by omega)
          rw [h9] at hP hD
          obtain ⟨f4, ef4, hd_f4, hdy⟩ : ∃ f4 : Nat → Nat, f4 = kv_up d1 k2 ((ga (fr + 7 - (k2 / 2))).toUInt32.toNat / 65536) ∧ (∀ j, f4 j < 65536) ∧ kz_dy (dC, dI) vwCl A s.heap H locs [(o, .inl (cI, 16, .inl (kz_dg f4)))] := ⟨_, rfl, kv_up_lt hd_d1 (by omega), hP, hD, hS⟩
          refine lv_iinc (v := (nI (k2 + 1))) (lv' := [(3, .int (nI (k2 + 1))), (4, .int (ga (fr + 7 - (k2 / 2)))), (0, .ref a), (1, .int (nI (fr))), (2, .ref o)]) hx hb zd_N_figures_42 hl (k := 1) rfl (nI_1 _) (by decide) rfl (fun ls hl => ?_)
          refine lv_goto (tgt := 2) hx hb zd_N_figures_45 (by decide) ?_
          have hi9_hfi5 : ∀ j, j < k2 + 1 → f4 j = kv_fig ga fr j := by rw [ef4]; exact kv_fill hfi (by unfold kv_fig; first | rw [if_pos (by omega)] | rw [if_neg (by omega)])
          exact ih2 (k2 + 1) f4 _ _ _ (by omega) (by omega) hd_f4 hi9_hfi5 hdy (lv_sub hl [0, 2, 3, 4] rfl)
        · have hc25 : (k2 % 2) = 0 := (nI_eq (by omega) (by omega)).mp (by rw [nI_0]; exact hc25)
          refine lv_iload hx hb zd_N_figures_28 (lv_at hl 0 rfl) ?_
          refine lv_ldc (v := (nI (65535))) hx hb hown (hts _ (kz_c mw_693)) zd_N_figures_30 ?_
          refine lv_iand hx hb zd_N_figures_32 ?_
          have hu6 := kz_ult (ga (fr + 7 - (k2 / 2)))
          refine lv_topi (fun x7 h9 => ?_)
          obtain rfl : x7 = nI ((ga (fr + 7 - (k2 / 2))).toUInt32.toNat % 65536) := h9.trans (kz_and16i _)
          refine lv_goto (tgt := 41) hx hb zd_N_figures_33 (by decide) ?_
          refine va_iast hx hb hK hdy.1 hdy.2.1 hdy.2.2 0 0 rfl rfl (vp_in_nI (by omega) (by omega)) zd_N_figures_41 (fun H locs hP hD hS => ?_)
          have h9 := kz_dgu d1 (k := k2) ((ga (fr + 7 - (k2 / 2))).toUInt32.toNat % 65536) (by omega)
          rw [h9] at hP hD
          obtain ⟨f8, ef8, hd_f8, hdy⟩ : ∃ f8 : Nat → Nat, f8 = kv_up d1 k2 ((ga (fr + 7 - (k2 / 2))).toUInt32.toNat % 65536) ∧ (∀ j, f8 j < 65536) ∧ kz_dy (dC, dI) vwCl A s.heap H locs [(o, .inl (cI, 16, .inl (kz_dg f8)))] := ⟨_, rfl, kv_up_lt hd_d1 (by omega), hP, hD, hS⟩
          refine lv_iinc (v := (nI (k2 + 1))) (lv' := [(3, .int (nI (k2 + 1))), (4, .int (ga (fr + 7 - (k2 / 2)))), (0, .ref a), (1, .int (nI (fr))), (2, .ref o)]) hx hb zd_N_figures_42 hl (k := 1) rfl (nI_1 _) (by decide) rfl (fun ls hl => ?_)
          refine lv_goto (tgt := 2) hx hb zd_N_figures_45 (by decide) ?_
          have hi9_hfi9 : ∀ j, j < k2 + 1 → f8 j = kv_fig ga fr j := by rw [ef8]; exact kv_fill hfi (by unfold kv_fig; first | rw [if_pos (by omega)] | rw [if_neg (by omega)])
          exact ih2 (k2 + 1) f8 _ _ _ (by omega) (by omega) hd_f8 hi9_hfi9 hdy (lv_sub hl [0, 2, 3, 4] rfl)
  have hi9_hfi10 : ∀ j, j < 0 → go j = kv_fig ga fr j := by intro j hj; omega
  exact lp2 (16 - 0 + 1) 0 go _ _ _ (by omega) (by omega) hd_go hi9_hfi10 hdy (lv_sub hl [0, 1, 2, 3] rfl)

set_option maxHeartbeats 4000000 in
set_option maxRecDepth 100000 in
/-- KeyMeetingModel.words([I[II)V -/
theorem c_X_words32 (l : Launch) (dC : Nat → ClassId) (dI : Nat → Nat → Nat) (cI cAA cB cL : ClassId) (o d : Nat) (go : Nat → Int32) (gd : Nat → Nat) (at_ : Nat) (sz : Nat) (hd_gd : ∀ j, gd j < 65536) (hat : at_ + 7 < 32) : Met l zy_N_words zw_N_words { frames := 0, cells := 0, slots := 0, locals := 0 } (kz_Pc (dC, dI) vwCl [(cI, .int), (cAA, .array .int), (cB, .byte), (cL, .long)] [] [] [.ref d, .ref o, .int (nI (at_))] [(o, .inl (cI, 32, .inl go))] [(d, .inl (cI, 16, .inl (kz_dg gd)))] sz) (va_Qv (fun (u : (Nat → Int32)) => (∀ i, i < 8 → u (at_ + i) = nI (gd (15 - 2 * i) * 65536 + gd (14 - 2 * i))) ∧ (∀ j, (j < at_ ∨ at_ + 8 ≤ j) → u j = go j) ∧ True) (kz_B (dC, dI) vwCl (va_A [(o, .inl (cI, 32, .inl go))] sz) (fun u : (Nat → Int32) => [(o, .inl (cI, 32, .inl u))])) (va_A [(o, .inl (cI, 32, .inl go))] sz)) 0 0 (va_A [(o, .inl (cI, 32, .inl go))] sz) := by
  refine kz_met (y := zy_N_words) (ws := zw_N_words) (av := [.ref d, .ref o, .int (nI (at_))]) (sz := sz) (Qc := fun A => va_Qv (fun (u : (Nat → Int32)) => (∀ i, i < 8 → u (at_ + i) = nI (gd (15 - 2 * i) * 65536 + gd (14 - 2 * i))) ∧ (∀ j, (j < at_ ∨ at_ + 8 ≤ j) → u j = go j) ∧ True) (kz_B (dC, dI) vwCl A (fun u : (Nat → Int32) => [(o, .inl (cI, 32, .inl u))])) A) (cc := zc_N_words) (maxL := 4) (ret := none) (by decide) rfl (Nat.le_of_ble_eq_true rfl) ?_
  intro p e s m below meth c A ls F hA hdy hK hro hZ hN hl
  obtain ⟨hx, hb, hml, hr, hown, hlocks, hts, hnm⟩ := id F
  have hl : lv_has ls 4 [(0, .ref d), (1, .ref o), (2, .int (nI (at_)))] := hl
  refine lv_iconst (v := (nI (0))) hx hb zd_N_words_0 (by decide) ?_
  refine lv_istore_n (lv' := [(3, .int (nI (0))), (0, .ref d), (1, .ref o), (2, .int (nI (at_)))]) hx hb zd_N_words_1 rfl hl (by decide) rfl (fun ls hl => ?_)
  have lp2 : ∀ (n2 k2 : Nat) (f1 : Nat → Int32) (H : Heap) (locs : List Loc) (ls : Array Slot), k2 ≤ 8 → 8 - k2 < n2 → (∀ i, i < k2 → f1 (at_ + i) = nI (gd (15 - 2 * i) * 65536 + gd (14 - 2 * i))) → (∀ j, (j < at_ ∨ at_ + 8 ≤ j) → f1 j = go j) → kz_dy (dC, dI) vwCl A s.heap H locs [(o, .inl (cI, 32, .inl f1))] → lv_has ls 4 [(3, .int (nI (k2))), (0, .ref d), (1, .ref o), (2, .int (nI (at_)))] → W p l e { frames := 0, cells := 0, slots := 0, locals := 0 } s m ([.ref d, .ref o, .int (nI (at_))] : List Value).toArray below meth c H locs 0 0 (MQ below (va_Qv (fun (u : (Nat → Int32)) => (∀ i, i < 8 → u (at_ + i) = nI (gd (15 - 2 * i) * 65536 + gd (14 - 2 * i))) ∧ (∀ j, (j < at_ ∨ at_ + 8 ≤ j) → u j = go j) ∧ True) (kz_B (dC, dI) vwCl A (fun u : (Nat → Int32) => [(o, .inl (cI, 32, .inl u))])) A) ([.ref d, .ref o, .int (nI (at_))] : List Value).toArray s 0 0 A) (F0 m 2 ls []) := by
    intro n2
    induction n2 with
    | zero => intro k2; intros; omega
    | succ n2 ih2 =>
      intro k2 f1 H locs ls hi2 hn2 hwi hwk hdy hl
      refine lv_iload_n hx hb zd_N_words_2 rfl (lv_at hl 0 rfl) ?_
      refine lv_bipush (v := (nI (8))) hx hb zd_N_words_3 (by decide) ?_
      refine lv_icmp_ge (tgt := 39) hx hb zd_N_words_5 (by decide) (fun hc5 => ?_) (fun hc5 => ?_)
      · have hc5 : 8 ≤ k2 := (nI_leI (by omega) (by omega)).mp hc5
        exact kz_vret F (f1) hdy (⟨by exact fun i hi => hwi i (by omega), by exact hwk, trivial⟩) zd_N_words_39
      · have hc5 : ¬ 8 ≤ k2 := fun h9 => hc5 ((nI_leI (by omega) (by omega)).mpr h9)
        refine lv_aload_n hx hb zd_N_words_8 rfl (lv_at hl 2 rfl) ?_
        refine lv_iload_n hx hb zd_N_words_9 rfl (lv_at hl 3 rfl) ?_
        refine lv_iload_n hx hb zd_N_words_10 rfl (lv_at hl 0 rfl) ?_
        refine kz_iadd hx hb zd_N_words_11 (nI_add _ _) ?_
        refine lv_aload_n hx hb zd_N_words_12 rfl (lv_at hl 1 rfl) ?_
        refine lv_bipush (v := (nI (15))) hx hb zd_N_words_13 (by decide) ?_
        refine lv_iconst (v := (nI (2))) hx hb zd_N_words_15 (by decide) ?_
        refine lv_iload_n hx hb zd_N_words_16 rfl (lv_at hl 0 rfl) ?_
        refine kz_imul hx hb zd_N_words_17 (pk_mul _ _) ?_
        refine kz_isub hx hb zd_N_words_18 (pk_sub (by omega)) ?_
        refine kz_riald hx hb hK hro hdy.2.2 0 0 rfl rfl (vp_in_nI (by omega) (by omega)) zd_N_words_19 ?_
        refine lv_topi (fun x2 h9 => ?_)
        obtain rfl : x2 = nI (gd (15 - (2 * k2))) := h9.trans (kz_dgl gd (by omega))
        have hbx2 := hd_gd (15 - (2 * k2))
        refine lv_bipush (v := (nI (16))) hx hb zd_N_words_20 (by decide) ?_
        refine lv_ishl hx hb zd_N_words_22 ?_
        refine lv_topi (fun x3 h9 => ?_)
        obtain rfl : x3 = nI ((gd (15 - (2 * k2))) * 65536) := h9.trans (kz_shl16 _)
        refine lv_aload_n hx hb zd_N_words_23 rfl (lv_at hl 1 rfl) ?_
        refine lv_bipush (v := (nI (14))) hx hb zd_N_words_24 (by decide) ?_
        refine lv_iconst (v := (nI (2))) hx hb zd_N_words_26 (by decide) ?_
        refine lv_iload_n hx hb zd_N_words_27 rfl (lv_at hl 0 rfl) ?_
        refine kz_imul hx hb zd_N_words_28 (pk_mul _ _) ?_
        refine kz_isub hx hb zd_N_words_29 (pk_sub (by omega)) ?_
        refine kz_riald hx hb hK hro hdy.2.2 0 0 rfl rfl (vp_in_nI (by omega) (by omega)) zd_N_words_30 ?_
        refine lv_topi (fun x4 h9 => ?_)
        obtain rfl : x4 = nI (gd (14 - (2 * k2))) := h9.trans (kz_dgl gd (by omega))
        have hbx4 := hd_gd (14 - (2 * k2))
        refine lv_ior hx hb zd_N_words_31 ?_
        refine lv_topi (fun x5 h9 => ?_)
        obtain rfl : x5 = nI ((gd (15 - (2 * k2))) * 65536 + (gd (14 - (2 * k2)))) := h9.trans (kz_or16 (by omega))
        refine va_iast hx hb hK hdy.1 hdy.2.1 hdy.2.2 0 0 rfl rfl (vp_in_nI (by omega) (by omega)) zd_N_words_32 (fun H locs hP hD hS => ?_)
        rw [nI_clamp (by omega)] at hP hD
        obtain ⟨f6, ef6, hdy⟩ : ∃ f6 : Nat → Int32, f6 = upd f1 (at_ + k2) ((nI ((gd (15 - (2 * k2))) * 65536 + (gd (14 - (2 * k2)))))) ∧ kz_dy (dC, dI) vwCl A s.heap H locs [(o, .inl (cI, 32, .inl f6))] := ⟨_, rfl, hP, hD, hS⟩
        refine lv_iinc (v := (nI (k2 + 1))) (lv' := [(3, .int (nI (k2 + 1))), (0, .ref d), (1, .ref o), (2, .int (nI (at_)))]) hx hb zd_N_words_33 hl (k := 0) rfl (nI_1 _) (by decide) rfl (fun ls hl => ?_)
        refine lv_goto (tgt := 2) hx hb zd_N_words_36 (by decide) ?_
        have hi9_hwi7 : ∀ i, i < k2 + 1 → f6 (at_ + i) = nI (gd (15 - 2 * i) * 65536 + gd (14 - 2 * i)) := by rw [ef6]; exact kz_fillw (F := fun i => nI (gd (15 - 2 * i) * 65536 + gd (14 - 2 * i))) hwi rfl
        have hi9_hwk8 : ∀ j, (j < at_ ∨ at_ + 8 ≤ j) → f6 j = go j := by rw [ef6]; exact kz_keepw (by omega) hwk
        exact ih2 (k2 + 1) f6 _ _ _ (by omega) (by omega) hi9_hwi7 hi9_hwk8 hdy (lv_sub hl [0, 1, 2, 3] rfl)
  have hi9_hwi9 : ∀ i, i < 0 → go (at_ + i) = nI (gd (15 - 2 * i) * 65536 + gd (14 - 2 * i)) := by intro j hj; omega
  have hi9_hwk10 : ∀ j, (j < at_ ∨ at_ + 8 ≤ j) → go j = go j := by exact fun _ _ => rfl
  exact lp2 (8 - 0 + 1) 0 go _ _ _ (by omega) (by omega) hi9_hwi9 hi9_hwk10 hdy (lv_sub hl [0, 1, 2, 3] rfl)

set_option maxHeartbeats 4000000 in
set_option maxRecDepth 100000 in
/-- KeyMeetingModel.words([I[II)V -/
theorem c_X_words16 (l : Launch) (dC : Nat → ClassId) (dI : Nat → Nat → Nat) (cI cAA cB cL : ClassId) (o d : Nat) (go : Nat → Int32) (gd : Nat → Nat) (at_ : Nat) (sz : Nat) (hd_gd : ∀ j, gd j < 65536) (hat : at_ + 7 < 16) : Met l zy_N_words zw_N_words { frames := 0, cells := 0, slots := 0, locals := 0 } (kz_Pc (dC, dI) vwCl [(cI, .int), (cAA, .array .int), (cB, .byte), (cL, .long)] [] [] [.ref d, .ref o, .int (nI (at_))] [(o, .inl (cI, 16, .inl go))] [(d, .inl (cI, 16, .inl (kz_dg gd)))] sz) (va_Qv (fun (u : (Nat → Int32)) => (∀ i, i < 8 → u (at_ + i) = nI (gd (15 - 2 * i) * 65536 + gd (14 - 2 * i))) ∧ (∀ j, (j < at_ ∨ at_ + 8 ≤ j) → u j = go j) ∧ True) (kz_B (dC, dI) vwCl (va_A [(o, .inl (cI, 16, .inl go))] sz) (fun u : (Nat → Int32) => [(o, .inl (cI, 16, .inl u))])) (va_A [(o, .inl (cI, 16, .inl go))] sz)) 0 0 (va_A [(o, .inl (cI, 16, .inl go))] sz) := by
  refine kz_met (y := zy_N_words) (ws := zw_N_words) (av := [.ref d, .ref o, .int (nI (at_))]) (sz := sz) (Qc := fun A => va_Qv (fun (u : (Nat → Int32)) => (∀ i, i < 8 → u (at_ + i) = nI (gd (15 - 2 * i) * 65536 + gd (14 - 2 * i))) ∧ (∀ j, (j < at_ ∨ at_ + 8 ≤ j) → u j = go j) ∧ True) (kz_B (dC, dI) vwCl A (fun u : (Nat → Int32) => [(o, .inl (cI, 16, .inl u))])) A) (cc := zc_N_words) (maxL := 4) (ret := none) (by decide) rfl (Nat.le_of_ble_eq_true rfl) ?_
  intro p e s m below meth c A ls F hA hdy hK hro hZ hN hl
  obtain ⟨hx, hb, hml, hr, hown, hlocks, hts, hnm⟩ := id F
  have hl : lv_has ls 4 [(0, .ref d), (1, .ref o), (2, .int (nI (at_)))] := hl
  refine lv_iconst (v := (nI (0))) hx hb zd_N_words_0 (by decide) ?_
  refine lv_istore_n (lv' := [(3, .int (nI (0))), (0, .ref d), (1, .ref o), (2, .int (nI (at_)))]) hx hb zd_N_words_1 rfl hl (by decide) rfl (fun ls hl => ?_)
  have lp2 : ∀ (n2 k2 : Nat) (f1 : Nat → Int32) (H : Heap) (locs : List Loc) (ls : Array Slot), k2 ≤ 8 → 8 - k2 < n2 → (∀ i, i < k2 → f1 (at_ + i) = nI (gd (15 - 2 * i) * 65536 + gd (14 - 2 * i))) → (∀ j, (j < at_ ∨ at_ + 8 ≤ j) → f1 j = go j) → kz_dy (dC, dI) vwCl A s.heap H locs [(o, .inl (cI, 16, .inl f1))] → lv_has ls 4 [(3, .int (nI (k2))), (0, .ref d), (1, .ref o), (2, .int (nI (at_)))] → W p l e { frames := 0, cells := 0, slots := 0, locals := 0 } s m ([.ref d, .ref o, .int (nI (at_))] : List Value).toArray below meth c H locs 0 0 (MQ below (va_Qv (fun (u : (Nat → Int32)) => (∀ i, i < 8 → u (at_ + i) = nI (gd (15 - 2 * i) * 65536 + gd (14 - 2 * i))) ∧ (∀ j, (j < at_ ∨ at_ + 8 ≤ j) → u j = go j) ∧ True) (kz_B (dC, dI) vwCl A (fun u : (Nat → Int32) => [(o, .inl (cI, 16, .inl u))])) A) ([.ref d, .ref o, .int (nI (at_))] : List Value).toArray s 0 0 A) (F0 m 2 ls []) := by
    intro n2
    induction n2 with
    | zero => intro k2; intros; omega
    | succ n2 ih2 =>
      intro k2 f1 H locs ls hi2 hn2 hwi hwk hdy hl
      refine lv_iload_n hx hb zd_N_words_2 rfl (lv_at hl 0 rfl) ?_
      refine lv_bipush (v := (nI (8))) hx hb zd_N_words_3 (by decide) ?_
      refine lv_icmp_ge (tgt := 39) hx hb zd_N_words_5 (by decide) (fun hc5 => ?_) (fun hc5 => ?_)
      · have hc5 : 8 ≤ k2 := (nI_leI (by omega) (by omega)).mp hc5
        exact kz_vret F (f1) hdy (⟨by exact fun i hi => hwi i (by omega), by exact hwk, trivial⟩) zd_N_words_39
      · have hc5 : ¬ 8 ≤ k2 := fun h9 => hc5 ((nI_leI (by omega) (by omega)).mpr h9)
        refine lv_aload_n hx hb zd_N_words_8 rfl (lv_at hl 2 rfl) ?_
        refine lv_iload_n hx hb zd_N_words_9 rfl (lv_at hl 3 rfl) ?_
        refine lv_iload_n hx hb zd_N_words_10 rfl (lv_at hl 0 rfl) ?_
        refine kz_iadd hx hb zd_N_words_11 (nI_add _ _) ?_
        refine lv_aload_n hx hb zd_N_words_12 rfl (lv_at hl 1 rfl) ?_
        refine lv_bipush (v := (nI (15))) hx hb zd_N_words_13 (by decide) ?_
        refine lv_iconst (v := (nI (2))) hx hb zd_N_words_15 (by decide) ?_
        refine lv_iload_n hx hb zd_N_words_16 rfl (lv_at hl 0 rfl) ?_
        refine kz_imul hx hb zd_N_words_17 (pk_mul _ _) ?_
        refine kz_isub hx hb zd_N_words_18 (pk_sub (by omega)) ?_
        refine kz_riald hx hb hK hro hdy.2.2 0 0 rfl rfl (vp_in_nI (by omega) (by omega)) zd_N_words_19 ?_
        refine lv_topi (fun x2 h9 => ?_)
        obtain rfl : x2 = nI (gd (15 - (2 * k2))) := h9.trans (kz_dgl gd (by omega))
        have hbx2 := hd_gd (15 - (2 * k2))
        refine lv_bipush (v := (nI (16))) hx hb zd_N_words_20 (by decide) ?_
        refine lv_ishl hx hb zd_N_words_22 ?_
        refine lv_topi (fun x3 h9 => ?_)
        obtain rfl : x3 = nI ((gd (15 - (2 * k2))) * 65536) := h9.trans (kz_shl16 _)
        refine lv_aload_n hx hb zd_N_words_23 rfl (lv_at hl 1 rfl) ?_
        refine lv_bipush (v := (nI (14))) hx hb zd_N_words_24 (by decide) ?_
        refine lv_iconst (v := (nI (2))) hx hb zd_N_words_26 (by decide) ?_
        refine lv_iload_n hx hb zd_N_words_27 rfl (lv_at hl 0 rfl) ?_
        refine kz_imul hx hb zd_N_words_28 (pk_mul _ _) ?_
        refine kz_isub hx hb zd_N_words_29 (pk_sub (by omega)) ?_
        refine kz_riald hx hb hK hro hdy.2.2 0 0 rfl rfl (vp_in_nI (by omega) (by omega)) zd_N_words_30 ?_
        refine lv_topi (fun x4 h9 => ?_)
        obtain rfl : x4 = nI (gd (14 - (2 * k2))) := h9.trans (kz_dgl gd (by omega))
        have hbx4 := hd_gd (14 - (2 * k2))
        refine lv_ior hx hb zd_N_words_31 ?_
        refine lv_topi (fun x5 h9 => ?_)
        obtain rfl : x5 = nI ((gd (15 - (2 * k2))) * 65536 + (gd (14 - (2 * k2)))) := h9.trans (kz_or16 (by omega))
        refine va_iast hx hb hK hdy.1 hdy.2.1 hdy.2.2 0 0 rfl rfl (vp_in_nI (by omega) (by omega)) zd_N_words_32 (fun H locs hP hD hS => ?_)
        rw [nI_clamp (by omega)] at hP hD
        obtain ⟨f6, ef6, hdy⟩ : ∃ f6 : Nat → Int32, f6 = upd f1 (at_ + k2) ((nI ((gd (15 - (2 * k2))) * 65536 + (gd (14 - (2 * k2)))))) ∧ kz_dy (dC, dI) vwCl A s.heap H locs [(o, .inl (cI, 16, .inl f6))] := ⟨_, rfl, hP, hD, hS⟩
        refine lv_iinc (v := (nI (k2 + 1))) (lv' := [(3, .int (nI (k2 + 1))), (0, .ref d), (1, .ref o), (2, .int (nI (at_)))]) hx hb zd_N_words_33 hl (k := 0) rfl (nI_1 _) (by decide) rfl (fun ls hl => ?_)
        refine lv_goto (tgt := 2) hx hb zd_N_words_36 (by decide) ?_
        have hi9_hwi7 : ∀ i, i < k2 + 1 → f6 (at_ + i) = nI (gd (15 - 2 * i) * 65536 + gd (14 - 2 * i)) := by rw [ef6]; exact kz_fillw (F := fun i => nI (gd (15 - 2 * i) * 65536 + gd (14 - 2 * i))) hwi rfl
        have hi9_hwk8 : ∀ j, (j < at_ ∨ at_ + 8 ≤ j) → f6 j = go j := by rw [ef6]; exact kz_keepw (by omega) hwk
        exact ih2 (k2 + 1) f6 _ _ _ (by omega) (by omega) hi9_hwi7 hi9_hwk8 hdy (lv_sub hl [0, 1, 2, 3] rfl)
  have hi9_hwi9 : ∀ i, i < 0 → go (at_ + i) = nI (gd (15 - 2 * i) * 65536 + gd (14 - 2 * i)) := by intro j hj; omega
  have hi9_hwk10 : ∀ j, (j < at_ ∨ at_ + 8 ≤ j) → go j = go j := by exact fun _ _ => rfl
  exact lp2 (8 - 0 + 1) 0 go _ _ _ (by omega) (by omega) hi9_hwi9 hi9_hwk10 hdy (lv_sub hl [0, 1, 2, 3] rfl)

set_option maxHeartbeats 4000000 in
set_option maxRecDepth 100000 in
/-- KeyMeetingModel.copy([I[I)V -/
theorem c_X_copy (l : Launch) (dC : Nat → ClassId) (dI : Nat → Nat → Nat) (cI cAA cB cL : ClassId) (o a : Nat) (go : Nat → Nat) (ga : Nat → Nat) (sz : Nat) (hd_go : ∀ j, go j < 65536) (hd_ga : ∀ j, ga j < 65536) : Met l zy_N_copy zw_N_copy { frames := 0, cells := 0, slots := 0, locals := 0 } (kz_Pc (dC, dI) vwCl [(cI, .int), (cAA, .array .int), (cB, .byte), (cL, .long)] [] [] [.ref a, .ref o] [(o, .inl (cI, 16, .inl (kz_dg go)))] [(a, .inl (cI, 16, .inl (kz_dg ga)))] sz) (va_Qv (fun (u : (Nat → Nat)) => (∀ j, u j < 65536) ∧ (∀ j, j < 16 → u j = ga j) ∧ True) (kz_B (dC, dI) vwCl (va_A [(o, .inl (cI, 16, .inl (kz_dg go)))] sz) (fun u : (Nat → Nat) => [(o, .inl (cI, 16, .inl (kz_dg u)))])) (va_A [(o, .inl (cI, 16, .inl (kz_dg go)))] sz)) 0 0 (va_A [(o, .inl (cI, 16, .inl (kz_dg go)))] sz) := by
  refine kz_met (y := zy_N_copy) (ws := zw_N_copy) (av := [.ref a, .ref o]) (sz := sz) (Qc := fun A => va_Qv (fun (u : (Nat → Nat)) => (∀ j, u j < 65536) ∧ (∀ j, j < 16 → u j = ga j) ∧ True) (kz_B (dC, dI) vwCl A (fun u : (Nat → Nat) => [(o, .inl (cI, 16, .inl (kz_dg u)))])) A) (cc := zc_N_copy) (maxL := 3) (ret := none) (by decide) rfl (Nat.le_of_ble_eq_true rfl) ?_
  intro p e s m below meth c A ls F hA hdy hK hro hZ hN hl
  obtain ⟨hx, hb, hml, hr, hown, hlocks, hts, hnm⟩ := id F
  have hl : lv_has ls 3 [(0, .ref a), (1, .ref o)] := hl
  refine lv_iconst (v := (nI (0))) hx hb zd_N_copy_0 (by decide) ?_
  refine lv_istore_n (lv' := [(2, .int (nI (0))), (0, .ref a), (1, .ref o)]) hx hb zd_N_copy_1 rfl hl (by decide) rfl (fun ls hl => ?_)
  have lp2 : ∀ (n2 k2 : Nat) (d1 : Nat → Nat) (H : Heap) (locs : List Loc) (ls : Array Slot), k2 ≤ 16 → 16 - k2 < n2 → (∀ j, d1 j < 65536) → (∀ j, j < k2 → d1 j = ga j) → kz_dy (dC, dI) vwCl A s.heap H locs [(o, .inl (cI, 16, .inl (kz_dg d1)))] → lv_has ls 3 [(2, .int (nI (k2))), (0, .ref a), (1, .ref o)] → W p l e { frames := 0, cells := 0, slots := 0, locals := 0 } s m ([.ref a, .ref o] : List Value).toArray below meth c H locs 0 0 (MQ below (va_Qv (fun (u : (Nat → Nat)) => (∀ j, u j < 65536) ∧ (∀ j, j < 16 → u j = ga j) ∧ True) (kz_B (dC, dI) vwCl A (fun u : (Nat → Nat) => [(o, .inl (cI, 16, .inl (kz_dg u)))])) A) ([.ref a, .ref o] : List Value).toArray s 0 0 A) (F0 m 2 ls []) := by
    intro n2
    induction n2 with
    | zero => intro k2; intros; omega
    | succ n2 ih2 =>
      intro k2 d1 H locs ls hi2 hn2 hd_d1 hfi hdy hl
      refine lv_iload_n hx hb zd_N_copy_2 rfl (lv_at hl 0 rfl) ?_
      refine lv_bipush (v := (nI (16))) hx hb zd_N_copy_3 (by decide) ?_
      refine lv_icmp_ge (tgt := 20) hx hb zd_N_copy_5 (by decide) (fun hc5 => ?_) (fun hc5 => ?_)
      · have hc5 : 16 ≤ k2 := (nI_leI (by omega) (by omega)).mp hc5
        exact kz_vret F (d1) hdy (⟨hd_d1, by exact fun j hj => hfi j (by omega), trivial⟩) zd_N_copy_20
      · have hc5 : ¬ 16 ≤ k2 := fun h9 => hc5 ((nI_leI (by omega) (by omega)).mpr h9)
        refine lv_aload_n hx hb zd_N_copy_8 rfl (lv_at hl 2 rfl) ?_
        refine lv_iload_n hx hb zd_N_copy_9 rfl (lv_at hl 0 rfl) ?_
        refine lv_aload_n hx hb zd_N_copy_10 rfl (lv_at hl 1 rfl) ?_
        refine lv_iload_n hx hb zd_N_copy_11 rfl (lv_at hl 0 rfl) ?_
        refine kz_riald hx hb hK hro hdy.2.2 0 0 rfl rfl (vp_in_nI (by omega) (by omega)) zd_N_copy_12 ?_
        refine lv_topi (fun x2 h9 => ?_)
        obtain rfl : x2 = nI (ga k2) := h9.trans (kz_dgl ga (by omega))
        have hbx2 := hd_ga k2
        refine va_iast hx hb hK hdy.1 hdy.2.1 hdy.2.2 0 0 rfl rfl (vp_in_nI (by omega) (by omega)) zd_N_copy_13 (fun H locs hP hD hS => ?_)
        have h9 := kz_dgu d1 (k := k2) (ga k2) (by omega)
        rw [h9] at hP hD
        obtain ⟨f3, ef3, hd_f3, hdy⟩ : ∃ f3 : Nat → Nat, f3 = kv_up d1 k2 (ga k2) ∧ (∀ j, f3 j < 65536) ∧ kz_dy (dC, dI) vwCl A s.heap H locs [(o, .inl (cI, 16, .inl (kz_dg f3)))] := ⟨_, rfl, kv_up_lt hd_d1 (by omega), hP, hD, hS⟩
        refine lv_iinc (v := (nI (k2 + 1))) (lv' := [(2, .int (nI (k2 + 1))), (0, .ref a), (1, .ref o)]) hx hb zd_N_copy_14 hl (k := 0) rfl (nI_1 _) (by decide) rfl (fun ls hl => ?_)
        refine lv_goto (tgt := 2) hx hb zd_N_copy_17 (by decide) ?_
        have hi9_hfi4 : ∀ j, j < k2 + 1 → f3 j = ga j := by rw [ef3]; exact kv_fill hfi rfl
        exact ih2 (k2 + 1) f3 _ _ _ (by omega) (by omega) hd_f3 hi9_hfi4 hdy (lv_sub hl [0, 1, 2] rfl)
  have hi9_hfi5 : ∀ j, j < 0 → go j = ga j := by intro j hj; omega
  exact lp2 (16 - 0 + 1) 0 go _ _ _ (by omega) (by omega) hd_go hi9_hfi5 hdy (lv_sub hl [0, 1, 2] rfl)

set_option maxHeartbeats 4000000 in
set_option maxRecDepth 100000 in
/-- KeyMeetingModel.multiply([I[I)V -/
theorem c_Y_multiply (l : Launch) (dC : Nat → ClassId) (dI : Nat → Nat → Nat) (cI cAA cB cL : ClassId) (mx o mt mn ml mc mh mk mp mm mb mw mr me mP mQ ms mo mW mD mB mR mS a b : Nat) (gmx : Nat → Nat) (th : Int32) (sta : Int32) (hs : Int32) (sz_ : Nat) (ga : Nat → Nat) (gb : Nat → Nat) (sz : Nat) (hd_gmx : ∀ j, gmx j < 65536) (hd_ga : ∀ j, ga j < 65536) (hd_gb : ∀ j, gb j < 65536) : Met l zy_N_multiply zw_N_multiply { frames := 0, cells := 0, slots := 0, locals := 0 } (kz_Pc (dC, dI) vwCl [(cI, .int), (cAA, .array .int), (cB, .byte), (cL, .long)] [] [] [.ref o, .ref a, .ref b] [(mx, .inl (cI, 32, .inl (kz_dg gmx)))] [(o, .inr (4, [.int th, .int sta, .ref mt, .ref mn, .ref ml, .ref mc, .ref mh, .ref mk, .ref mp, .ref mm, .ref mb, .ref mw, .ref mr, .ref mx, .ref me, .ref mP, .ref mQ, .ref ms, .int hs, .int (nI (sz_)), .ref mo, .ref mW, .ref mD, .ref mB, .ref mR, .ref mS])), (a, .inl (cI, 16, .inl (kz_dg ga))), (b, .inl (cI, 16, .inl (kz_dg gb)))] sz) (va_Qv (fun (u : (Nat → Nat)) => (∀ j, u j < 65536) ∧ (kv_val u 32 = kv_val ga 16 * kv_val gb 16) ∧ True) (kz_B (dC, dI) vwCl (va_A [(mx, .inl (cI, 32, .inl (kz_dg gmx)))] sz) (fun u : (Nat → Nat) => [(mx, .inl (cI, 32, .inl (kz_dg u)))])) (va_A [(mx, .inl (cI, 32, .inl (kz_dg gmx)))] sz)) 0 0 (va_A [(mx, .inl (cI, 32, .inl (kz_dg gmx)))] sz) := by
  refine kz_met (y := zy_N_multiply) (ws := zw_N_multiply) (av := [.ref o, .ref a, .ref b]) (sz := sz) (Qc := fun A => va_Qv (fun (u : (Nat → Nat)) => (∀ j, u j < 65536) ∧ (kv_val u 32 = kv_val ga 16 * kv_val gb 16) ∧ True) (kz_B (dC, dI) vwCl A (fun u : (Nat → Nat) => [(mx, .inl (cI, 32, .inl (kz_dg u)))])) A) (cc := zc_N_multiply) (maxL := 7) (ret := none) (by decide) rfl (Nat.le_of_ble_eq_true rfl) ?_
  intro p e s m below meth c A ls F hA hdy hK hro hZ hN hl
  obtain ⟨hx, hb, hml, hr, hown, hlocks, hts, hnm⟩ := id F
  have hl : lv_has ls 7 [(0, .ref o), (1, .ref a), (2, .ref b)] := hl
  refine lv_iconst (v := (nI (0))) hx hb zd_N_multiply_0 (by decide) ?_
  refine lv_istore_n (lv' := [(3, .int (nI (0))), (0, .ref o), (1, .ref a), (2, .ref b)]) hx hb zd_N_multiply_1 rfl hl (by decide) rfl (fun ls hl => ?_)
  have lp2 : ∀ (n2 k2 : Nat) (d1 : Nat → Nat) (H : Heap) (locs : List Loc) (ls : Array Slot), k2 ≤ 32 → 32 - k2 < n2 → (∀ j, d1 j < 65536) → (∀ j, j < k2 → d1 j = 0) → kz_dy (dC, dI) vwCl A s.heap H locs [(mx, .inl (cI, 32, .inl (kz_dg d1)))] → lv_has ls 7 [(3, .int (nI (k2))), (0, .ref o), (1, .ref a), (2, .ref b)] → W p l e { frames := 0, cells := 0, slots := 0, locals := 0 } s m ([.ref o, .ref a, .ref b] : List Value).toArray below meth c H locs 0 0 (MQ below (va_Qv (fun (u : (Nat → Nat)) => (∀ j, u j < 65536) ∧ (kv_val u 32 = kv_val ga 16 * kv_val gb 16) ∧ True) (kz_B (dC, dI) vwCl A (fun u : (Nat → Nat) => [(mx, .inl (cI, 32, .inl (kz_dg u)))])) A) ([.ref o, .ref a, .ref b] : List Value).toArray s 0 0 A) (F0 m 2 ls []) := by
    intro n2
    induction n2 with
    | zero => intro k2; intros; omega
    | succ n2 ih2 =>
      intro k2 d1 H locs ls hi2 hn2 hd_d1 hz0 hdy hl
      refine lv_iload_n hx hb zd_N_multiply_2 rfl (lv_at hl 0 rfl) ?_
      refine lv_bipush (v := (nI (32))) hx hb zd_N_multiply_3 (by decide) ?_
      refine lv_icmp_ge (tgt := 21) hx hb zd_N_multiply_5 (by decide) (fun hc5 => ?_) (fun hc5 => ?_)
      · have hc5 : 32 ≤ k2 := (nI_leI (by omega) (by omega)).mp hc5
        refine lv_iconst (v := (nI (0))) hx hb zd_N_multiply_21 (by decide) ?_
        refine lv_istore_n (lv' := [(3, .int (nI (0))), (0, .ref o), (1, .ref a), (2, .ref b)]) hx hb zd_N_multiply_22 rfl hl (by decide) rfl (fun ls hl => ?_)
        have lp23 : ∀ (n23 k23 : Nat) (d2 : Nat → Nat) (H : Heap) (locs : List Loc) (ls : Array Slot), k23 ≤ 16 → 16 - k23 < n23 → (∀ j, d2 j < 65536) → (kv_val d2 32 = kv_val ga (k23) * kv_val gb 16) → (∀ j, k23 + 16 ≤ j → j < 32 → d2 j = 0) → kz_dy (dC, dI) vwCl A s.heap H locs [(mx, .inl (cI, 32, .inl (kz_dg d2)))] → lv_has ls 7 [(3, .int (nI (k23))), (0, .ref o), (1, .ref a), (2, .ref b)] → W p l e { frames := 0, cells := 0, slots := 0, locals := 0 } s m ([.ref o, .ref a, .ref b] : List Value).toArray below meth c H locs 0 0 (MQ below (va_Qv (fun (u : (Nat → Nat)) => (∀ j, u j < 65536) ∧ (kv_val u 32 = kv_val ga 16 * kv_val gb 16) ∧ True) (kz_B (dC, dI) vwCl A (fun u : (Nat → Nat) => [(mx, .inl (cI, 32, .inl (kz_dg u)))])) A) ([.ref o, .ref a, .ref b] : List Value).toArray s 0 0 A) (F0 m 23 ls []) := by
          intro n23
          induction n23 with
          | zero => intro k23; intros; omega
          | succ n23 ih23 =>
            intro k23 d2 H locs ls hi23 hn23 hd_d2 hv hz hdy hl
            refine lv_iload_n hx hb zd_N_multiply_23 rfl (lv_at hl 0 rfl) ?_
            refine lv_bipush (v := (nI (16))) hx hb zd_N_multiply_24 (by decide) ?_
            refine lv_icmp_ge (tgt := 115) hx hb zd_N_multiply_26 (by decide) (fun hc26 => ?_) (fun hc26 => ?_)
            · have hc26 : 16 ≤ k23 := (nI_leI (by omega) (by omega)).mp hc26
              exact kz_vret F (d2) hdy (⟨hd_d2, by have h16 : k23 = 16 := (by omega); subst h16; exact hv, trivial⟩) zd_N_multiply_115
            · have hc26 : ¬ 16 ≤ k23 := fun h9 => hc26 ((nI_leI (by omega) (by omega)).mpr h9)
              refine lv_lconst (v := 0) hx hb zd_N_multiply_29 (by decide) ?_
              refine lv_topl (fun yl3 h9 => ?_)
              obtain rfl : yl3 = kz_lz (0) := h9.trans (kz_lz_c0)
              refine lv_topl (fun yl5 h9 => ?_)
              obtain ⟨z4, ez4, rfl⟩ : ∃ z : Int, z = 0 ∧ yl5 = kz_lz z := ⟨_, rfl, h9⟩
              refine lv_lstore (lv' := [(4, .long (kz_lz (z4))), (3, .int (nI (k23))), (0, .ref o), (1, .ref a), (2, .ref b)]) hx hb zd_N_multiply_30 hl (by decide) rfl (fun ls hl => ?_)
              refine lv_iconst (v := (nI (0))) hx hb zd_N_multiply_32 (by decide) ?_
              refine lv_istore (lv' := [(6, .int (nI (0))), (4, .long (kz_lz (z4))), (3, .int (nI (k23))), (0, .ref o), (1, .ref a), (2, .ref b)]) hx hb zd_N_multiply_33 hl (by decide) rfl (fun ls hl => ?_)
              have lp35 : ∀ (n35 k35 : Nat) (z6 : Int) (d7 : Nat → Nat) (H : Heap) (locs : List Loc) (ls : Array Slot), k35 ≤ 16 → 16 - k35 < n35 → (∀ j, d7 j < 65536) → (0 ≤ z6) → (z6 < 65536) → (kv_val d7 32 + z6.toNat * 65536 ^ (k23 + (k35)) = kv_val ga k23 * kv_val gb 16 + ga k23 * 65536 ^ k23 * kv_val gb (k35)) → (∀ j, k23 + 16 ≤ j → j < 32 → d7 j = 0) → kz_dy (dC, dI) vwCl A s.heap H locs [(mx, .inl (cI, 32, .inl (kz_dg d7)))] → lv_has ls 7 [(6, .int (nI (k35))), (4, .long (kz_lz (z6))), (3, .int (nI (k23))), (0, .ref o), (1, .ref a), (2, .ref b)] → W p l e { frames := 0, cells := 0, slots := 0, locals := 0 } s m ([.ref o, .ref a, .ref b] : List Value).toArray below meth c H locs 0 0 (MQ below (va_Qv (fun (u : (Nat → Nat)) => (∀ j, u j < 65536) ∧ (kv_val u 32 = kv_val ga 16 * kv_val gb 16) ∧ True) (kz_B (dC, dI) vwCl A (fun u : (Nat → Nat) => [(mx, .inl (cI, 32, .inl (kz_dg u)))])) A) ([.ref o, .ref a, .ref b] : List Value).toArray s 0 0 A) (F0 m 35 ls []) := by
                intro n35
                induction n35 with
                | zero => intro k35; intros; omega
                | succ n35 ih35 =>
                  intro k35 z6 d7 H locs ls hi35 hn35 hd_d7 hc0 hc1 hI hz hdy hl
                  refine lv_iload hx hb zd_N_multiply_35 (lv_at hl 0 rfl) ?_
                  refine lv_bipush (v := (nI (16))) hx hb zd_N_multiply_37 (by decide) ?_
                  refine lv_icmp_ge (tgt := 97) hx hb zd_N_multiply_39 (by decide) (fun hc39 => ?_) (fun hc39 => ?_)
                  · have hc39 : 16 ≤ k35 := (nI_leI (by omega) (by omega)).mp hc39
                    refine lv_aload_n hx hb zd_N_multiply_97 rfl (lv_at hl 3 rfl) ?_
                    refine va_get (D := (dC, dI)) (ci := 4) (v := .ref mx) (C := zR_N) (T := zT_N) (N := 26) hx hb hts (fun w h => kz_c (zi_N w h)) hown hK (hro.ob hdy.2.2 (k := 0) rfl) 0 rfl rfl 13 (by decide) (hts _ (kz_c mw_604)) (fun _ h9 => h9) rfl zd_N_multiply_98 ?_
                    refine lv_iload_n hx hb zd_N_multiply_101 rfl (lv_at hl 2 rfl) ?_
                    refine lv_bipush (v := (nI (16))) hx hb zd_N_multiply_102 (by decide) ?_
                    refine kz_iadd hx hb zd_N_multiply_104 (nI_add _ _) ?_
                    refine lv_lload hx hb zd_N_multiply_105 (lv_at hl 1 rfl) ?_
                    refine lv_l2i hx hb zd_N_multiply_107 (kz_lz_in (z := z6) (by omega)) ?_
                    refine va_iast hx hb hK hdy.1 hdy.2.1 hdy.2.2 0 0 rfl rfl (vp_in_nI (by omega) (by omega)) zd_N_multiply_108 (fun H locs hP hD hS => ?_)
                    have h9 := kz_dgu d7 (k := (k23 + 16)) ((z6).toNat) (by omega)
                    rw [h9] at hP hD
                    obtain ⟨f8, ef8, hd_f8, hdy⟩ : ∃ f8 : Nat → Nat, f8 = kv_up d7 (k23 + 16) ((z6).toNat) ∧ (∀ j, f8 j < 65536) ∧ kz_dy (dC, dI) vwCl A s.heap H locs [(mx, .inl (cI, 32, .inl (kz_dg f8)))] := ⟨_, rfl, kv_up_lt hd_d7 (by omega), hP, hD, hS⟩
                    refine lv_iinc (v := (nI (k23 + 1))) (lv' := [(3, .int (nI (k23 + 1))), (6, .int (nI (k35))), (4, .long (kz_lz (z6))), (0, .ref o), (1, .ref a), (2, .ref b)]) hx hb zd_N_multiply_109 hl (k := 2) rfl (nI_1 _) (by decide) rfl (fun ls hl => ?_)
                    refine lv_goto (tgt := 23) hx hb zd_N_multiply_112 (by decide) ?_
                    have hi9_hv9 : kv_val f8 32 = kv_val ga (k23 + 1) * kv_val gb 16 := by have h16 : k35 = 16 := (by omega); subst h16; rw [ef8]; exact kv_mulRow (by omega) (hz (k23 + 16) (by omega) (by omega)) hI
                    have hi9_hz10 : ∀ j, k23 + 1 + 16 ≤ j → j < 32 → f8 j = 0 := by intro j h1 h2; rw [ef8, kv_up_ne _ _ (by omega)]; exact hz j (by omega) h2
                    exact ih23 (k23 + 1) f8 _ _ _ (by omega) (by omega) hd_f8 hi9_hv9 hi9_hz10 hdy (lv_sub hl [0, 3, 4, 5] rfl)
                  · have hc39 : ¬ 16 ≤ k35 := fun h9 => hc39 ((nI_leI (by omega) (by omega)).mpr h9)
                    refine lv_lload hx hb zd_N_multiply_42 (lv_at hl 1 rfl) ?_
                    refine lv_aload_n hx hb zd_N_multiply_44 rfl (lv_at hl 3 rfl) ?_
                    refine va_get (D := (dC, dI)) (ci := 4) (v := .ref mx) (C := zR_N) (T := zT_N) (N := 26) hx hb hts (fun w h => kz_c (zi_N w h)) hown hK (hro.ob hdy.2.2 (k := 0) rfl) 0 rfl rfl 13 (by decide) (hts _ (kz_c mw_604)) (fun _ h9 => h9) rfl zd_N_multiply_45 ?_
                    refine lv_iload_n hx hb zd_N_multiply_48 rfl (lv_at hl 2 rfl) ?_
                    refine lv_iload hx hb zd_N_multiply_49 (lv_at hl 0 rfl) ?_
                    refine kz_iadd hx hb zd_N_multiply_51 (nI_add _ _) ?_
                    refine va_iald hx hb hK hdy.1 0 0 rfl rfl (vp_in_nI (by omega) (by omega)) zd_N_multiply_52 ?_
                    refine lv_topi (fun x11 h9 => ?_)
                    obtain rfl : x11 = nI (d7 (k23 + k35)) := h9.trans (kz_dgl d7 (by omega))
                    have hbx11 := hd_d7 (k23 + k35)
                    refine lv_i2l hx hb zd_N_multiply_53 (kz_lz_i (n := d7 (k23 + k35)) (by omega)) ?_
                    refine lv_ladd hx hb zd_N_multiply_54 ?_
                    refine lv_topl (fun yl12 h9 => ?_)
                    obtain rfl : yl12 = kz_lz (z6 + (((d7 (k23 + k35) : Nat) : Int))) := h9.trans (kz_lz_add _ _)
                    refine lv_aload_n hx hb zd_N_multiply_55 rfl (lv_at hl 4 rfl) ?_
                    refine lv_iload_n hx hb zd_N_multiply_56 rfl (lv_at hl 2 rfl) ?_
                    refine kz_riald hx hb hK hro hdy.2.2 1 0 rfl rfl (vp_in_nI (by omega) (by omega)) zd_N_multiply_57 ?_
                    refine lv_topi (fun x13 h9 => ?_)
                    obtain rfl : x13 = nI (ga k23) := h9.trans (kz_dgl ga (by omega))
                    have hbx13 := hd_ga k23
                    refine lv_i2l hx hb zd_N_multiply_58 (kz_lz_i (n := ga k23) (by omega)) ?_
                    refine lv_aload_n hx hb zd_N_multiply_59 rfl (lv_at hl 5 rfl) ?_
                    refine lv_iload hx hb zd_N_multiply_60 (lv_at hl 0 rfl) ?_
                    refine kz_riald hx hb hK hro hdy.2.2 2 0 rfl rfl (vp_in_nI (by omega) (by omega)) zd_N_multiply_62 ?_
                    refine lv_topi (fun x14 h9 => ?_)
                    obtain rfl : x14 = nI (gb k35) := h9.trans (kz_dgl gb (by omega))
                    have hbx14 := hd_gb k35
                    refine lv_i2l hx hb zd_N_multiply_63 (kz_lz_i (n := gb k35) (by omega)) ?_
                    refine lv_lmul hx hb zd_N_multiply_64 ?_
                    refine lv_topl (fun yl15 h9 => ?_)
                    obtain rfl : yl15 = kz_lz ((((ga k23 : Nat) : Int)) * (((gb k35 : Nat) : Int))) := h9.trans (kz_lz_mul _ _)
                    refine lv_ladd hx hb zd_N_multiply_65 ?_
                    refine lv_topl (fun yl16 h9 => ?_)
                    obtain rfl : yl16 = kz_lz ((z6 + (((d7 (k23 + k35) : Nat) : Int))) + ((((ga k23 : Nat) : Int)) * (((gb k35 : Nat) : Int)))) := h9.trans (kz_lz_add _ _)
                    refine lv_topl (fun yl18 h9 => ?_)
                    obtain ⟨z17, ez17, rfl⟩ : ∃ z : Int, z = (z6 + (((d7 (k23 + k35) : Nat) : Int))) + ((((ga k23 : Nat) : Int)) * (((gb k35 : Nat) : Int))) ∧ yl18 = kz_lz z := ⟨_, rfl, h9⟩
                    refine lv_lstore (lv' := [(4, .long (kz_lz (z17))), (6, .int (nI (k35))), (3, .int (nI (k23))), (0, .ref o), (1, .ref a), (2, .ref b)]) hx hb zd_N_multiply_66 hl (by decide) rfl (fun ls hl => ?_)
                    have hab := kv_ab (hd_ga k23) (hd_gb k35) (show z6.toNat < 65536 by omega) (hd_d7 (k23 + k35))
                    have hzt : z17 = ((z6.toNat + d7 (k23 + k35) + ga k23 * gb k35 : Nat) : Int) := by rw [ez17, Int.natCast_add, Int.natCast_add, Int.natCast_mul]; omega
                    obtain ⟨t9, ht9⟩ : ∃ t : Nat, t = z6.toNat + d7 (k23 + k35) + ga k23 * gb k35 := ⟨_, rfl⟩
                    rw [← ht9] at hzt hab
                    refine lv_aload_n hx hb zd_N_multiply_68 rfl (lv_at hl 3 rfl) ?_
                    refine va_get (D := (dC, dI)) (ci := 4) (v := .ref mx) (C := zR_N) (T := zT_N) (N := 26) hx hb hts (fun w h => kz_c (zi_N w h)) hown hK (hro.ob hdy.2.2 (k := 0) rfl) 0 rfl rfl 13 (by decide) (hts _ (kz_c mw_604)) (fun _ h9 => h9) rfl zd_N_multiply_69 ?_
                    refine lv_iload_n hx hb zd_N_multiply_72 rfl (lv_at hl 2 rfl) ?_
                    refine lv_iload hx hb zd_N_multiply_73 (lv_at hl 1 rfl) ?_
                    refine kz_iadd hx hb zd_N_multiply_75 (nI_add _ _) ?_
                    refine lv_lload hx hb zd_N_multiply_76 (lv_at hl 0 rfl) ?_
                    refine lv_ldc2 (v := (65535)) hx hb hown (hts _ (kz_c mw_708)) zd_N_multiply_78 ?_
                    refine lv_topl (fun yl19 h9 => ?_)
                    obtain rfl : yl19 = kz_lz (65535) := h9.trans (kz_lz_c65535)
                    refine lv_land hx hb zd_N_multiply_81 ?_
                    refine lv_topl (fun yl20 h9 => ?_)
                    obtain rfl : yl20 = kz_lz (z17 % 65536) := h9.trans (kz_lz_andz _)
                    refine lv_l2i hx hb zd_N_multiply_82 (kz_lz_i16 (z17)) ?_
                    refine va_iast hx hb hK hdy.1 hdy.2.1 hdy.2.2 0 0 rfl rfl (vp_in_nI (by omega) (by omega)) zd_N_multiply_83 (fun H locs hP hD hS => ?_)
                    have h9 := kz_dgu d7 (k := (k23 + k35)) ((z17 % 65536).toNat) (by omega)
                    rw [h9] at hP hD
                    obtain ⟨f21, ef21, hd_f21, hdy⟩ : ∃ f21 : Nat → Nat, f21 = kv_up d7 (k23 + k35) ((z17 % 65536).toNat) ∧ (∀ j, f21 j < 65536) ∧ kz_dy (dC, dI) vwCl A s.heap H locs [(mx, .inl (cI, 32, .inl (kz_dg f21)))] := ⟨_, rfl, kv_up_lt hd_d7 (by omega), hP, hD, hS⟩
                    refine lv_lload hx hb zd_N_multiply_84 (lv_at hl 0 rfl) ?_
                    refine lv_bipush (v := (nI (16))) hx hb zd_N_multiply_86 (by decide) ?_
                    refine lv_lshr hx hb zd_N_multiply_88 (kz_lz_shr (z := z17) (by omega) (by omega)) ?_
                    refine lv_topl (fun yl23 h9 => ?_)
                    obtain ⟨z22, ez22, rfl⟩ : ∃ z : Int, z = z17 / 65536 ∧ yl23 = kz_lz z := ⟨_, rfl, h9⟩
                    refine lv_lstore (lv' := [(4, .long (kz_lz (z22))), (6, .int (nI (k35))), (3, .int (nI (k23))), (0, .ref o), (1, .ref a), (2, .ref b)]) hx hb zd_N_multiply_89 hl (by decide) rfl (fun ls hl => ?_)
                    refine lv_iinc (v := (nI (k35 + 1))) (lv' := [(6, .int (nI (k35 + 1))), (4, .long (kz_lz (z22))), (3, .int (nI (k23))), (0, .ref o), (1, .ref a), (2, .ref b)]) hx hb zd_N_multiply_91 hl (k := 1) rfl (nI_1 _) (by decide) rfl (fun ls hl => ?_)
                    refine lv_goto (tgt := 35) hx hb zd_N_multiply_94 (by decide) ?_
                    have hi9_hc024 : 0 ≤ z22 := by omega
                    have hi9_hc125 : z22 < 65536 := by omega
                    have hi9_hI26 : kv_val f21 32 + z22.toNat * 65536 ^ (k23 + (k35 + 1)) = kv_val ga k23 * kv_val gb 16 + ga k23 * 65536 ^ k23 * kv_val gb (k35 + 1) := by rw [ef21]; have h8 := kv_mulStep (g := d7) (b := gb) (ai := ga k23) (c := z6.toNat) (by omega) hI; rw [← ht9] at h8; have h7 : (z17 % 65536).toNat = t9 % 65536 := (by omega); have h6 : z22.toNat = t9 / 65536 := (by omega); rw [h7, h6]; exact h8
                    have hi9_hz27 : ∀ j, k23 + 16 ≤ j → j < 32 → f21 j = 0 := by intro j h1 h2; rw [ef21, kv_up_ne _ _ (by omega)]; exact hz j h1 h2
                    exact ih35 (k35 + 1) (z22) f21 _ _ _ (by omega) (by omega) hd_f21 hi9_hc024 hi9_hc125 hi9_hI26 hi9_hz27 hdy (lv_sub hl [0, 1, 2, 3, 4, 5] rfl)
              have hi9_hc028 : 0 ≤ z4 := by omega
              have hi9_hc129 : z4 < 65536 := by omega
              have hi9_hI30 : kv_val d2 32 + z4.toNat * 65536 ^ (k23 + (0)) = kv_val ga k23 * kv_val gb 16 + ga k23 * 65536 ^ k23 * kv_val gb (0) := by have h0 : z4.toNat = 0 := (by omega); rw [h0, hv]; show _ + 0 * _ = _ + _ * 0; omega
              have hi9_hz31 : ∀ j, k23 + 16 ≤ j → j < 32 → d2 j = 0 := by exact hz
              exact lp35 (16 - 0 + 1) 0 (z4) d2 _ _ _ (by omega) (by omega) hd_d2 hi9_hc028 hi9_hc129 hi9_hI30 hi9_hz31 hdy (lv_sub hl [0, 1, 2, 3, 4, 5] rfl)
        have hi9_hv32 : kv_val d1 32 = kv_val ga (0) * kv_val gb 16 := by show kv_val d1 32 = 0 * kv_val gb 16; rw [Nat.zero_mul]; exact kv_trunc d1 0 32 (fun j _ h => hz0 j (by omega))
        have hi9_hz33 : ∀ j, 0 + 16 ≤ j → j < 32 → d1 j = 0 := by intro j h1 h2; exact hz0 j (by omega)
        exact lp23 (16 - 0 + 1) 0 d1 _ _ _ (by omega) (by omega) hd_d1 hi9_hv32 hi9_hz33 hdy (lv_sub hl [0, 1, 2, 3] rfl)
      · have hc5 : ¬ 32 ≤ k2 := fun h9 => hc5 ((nI_leI (by omega) (by omega)).mpr h9)
        refine lv_aload_n hx hb zd_N_multiply_8 rfl (lv_at hl 1 rfl) ?_
        refine va_get (D := (dC, dI)) (ci := 4) (v := .ref mx) (C := zR_N) (T := zT_N) (N := 26) hx hb hts (fun w h => kz_c (zi_N w h)) hown hK (hro.ob hdy.2.2 (k := 0) rfl) 0 rfl rfl 13 (by decide) (hts _ (kz_c mw_604)) (fun _ h9 => h9) rfl zd_N_multiply_9 ?_
        refine lv_iload_n hx hb zd_N_multiply_12 rfl (lv_at hl 0 rfl) ?_
        refine lv_iconst (v := (nI (0))) hx hb zd_N_multiply_13 (by decide) ?_
        refine va_iast hx hb hK hdy.1 hdy.2.1 hdy.2.2 0 0 rfl rfl (vp_in_nI (by omega) (by omega)) zd_N_multiply_14 (fun H locs hP hD hS => ?_)
        have h9 := kz_dgu d1 (k := k2) 0 (by omega)
        rw [h9] at hP hD
        obtain ⟨f34, ef34, hd_f34, hdy⟩ : ∃ f34 : Nat → Nat, f34 = kv_up d1 k2 0 ∧ (∀ j, f34 j < 65536) ∧ kz_dy (dC, dI) vwCl A s.heap H locs [(mx, .inl (cI, 32, .inl (kz_dg f34)))] := ⟨_, rfl, kv_up_lt hd_d1 (by omega), hP, hD, hS⟩
        refine lv_iinc (v := (nI (k2 + 1))) (lv' := [(3, .int (nI (k2 + 1))), (0, .ref o), (1, .ref a), (2, .ref b)]) hx hb zd_N_multiply_15 hl (k := 0) rfl (nI_1 _) (by decide) rfl (fun ls hl => ?_)
        refine lv_goto (tgt := 2) hx hb zd_N_multiply_18 (by decide) ?_
        have hi9_hz035 : ∀ j, j < k2 + 1 → f34 j = 0 := by rw [ef34]; exact kv_fill (F := fun _ => 0) hz0 rfl
        exact ih2 (k2 + 1) f34 _ _ _ (by omega) (by omega) hd_f34 hi9_hz035 hdy (lv_sub hl [0, 1, 2, 3] rfl)
  have hi9_hz036 : ∀ j, j < 0 → gmx j = 0 := by intro j hj; omega
  exact lp2 (32 - 0 + 1) 0 gmx _ _ _ (by omega) (by omega) hd_gmx hi9_hz036 hdy (lv_sub hl [0, 1, 2, 3] rfl)

set_option maxHeartbeats 4000000 in
set_option maxRecDepth 100000 in
/-- KeyMeetingModel.compare([I[I)I -/
theorem c_F_compare16 (l : Launch) (dC : Nat → ClassId) (dI : Nat → Nat → Nat) (cI cAA cB cL : ClassId) (a b : Nat) (ga : Nat → Nat) (gb : Nat → Nat) (sz : Nat) (hd_ga : ∀ j, ga j < 65536) (hd_gb : ∀ j, gb j < 65536) : Met l zy_N_compare zw_N_compare { frames := 0, cells := 0, slots := 0, locals := 0 } (kz_Pc (dC, dI) vwCl [(cI, .int), (cAA, .array .int), (cB, .byte), (cL, .long)] [] [] [.ref a, .ref b] [] [(a, .inl (cI, 16, .inl (kz_dg ga))), (b, .inl (cI, 16, .inl (kz_dg gb)))] sz) (va_Qi (fun (r : Int32) (u : Unit) => ((r = 0 ∧ kv_val ga 16 = kv_val gb 16) ∨ (r = 1 ∧ kv_val gb 16 < kv_val ga 16) ∨ (r = -1 ∧ kv_val ga 16 < kv_val gb 16)) ∧ True) (kz_B (dC, dI) vwCl (va_A [] sz) (fun u : Unit => [])) (va_A [] sz)) 0 0 (va_A [] sz) := by
  refine kz_met (y := zy_N_compare) (ws := zw_N_compare) (av := [.ref a, .ref b]) (sz := sz) (Qc := fun A => va_Qi (fun (r : Int32) (u : Unit) => ((r = 0 ∧ kv_val ga 16 = kv_val gb 16) ∨ (r = 1 ∧ kv_val gb 16 < kv_val ga 16) ∨ (r = -1 ∧ kv_val ga 16 < kv_val gb 16)) ∧ True) (kz_B (dC, dI) vwCl A (fun u : Unit => [])) A) (cc := zc_N_compare) (maxL := 3) (ret := some .int) (by decide) rfl (Nat.le_of_ble_eq_true rfl) ?_
  intro p e s m below meth c A ls F hA hdy hK hro hZ hN hl
  obtain ⟨hx, hb, hml, hr, hown, hlocks, hts, hnm⟩ := id F
  have hl : lv_has ls 3 [(0, .ref a), (1, .ref b)] := hl
  refine lv_bipush (v := (nI (15))) hx hb zd_N_compare_0 (by decide) ?_
  refine lv_istore_n (lv' := [(2, .int (nI (15))), (0, .ref a), (1, .ref b)]) hx hb zd_N_compare_2 rfl hl (by decide) rfl (fun ls hl => ?_)
  have lp3 : ∀ (k3 : Nat) (H : Heap) (locs : List Loc) (ls : Array Slot), k3 ≤ 16 → (∀ j, k3 ≤ j → j < 16 → ga j = gb j) → kz_dy (dC, dI) vwCl A s.heap H locs [] → lv_has ls 3 [(2, .int (nI k3 - 1)), (0, .ref a), (1, .ref b)] → W p l e { frames := 0, cells := 0, slots := 0, locals := 0 } s m ([.ref a, .ref b] : List Value).toArray below meth c H locs 0 0 (MQ below (va_Qi (fun (r : Int32) (u : Unit) => ((r = 0 ∧ kv_val ga 16 = kv_val gb 16) ∨ (r = 1 ∧ kv_val gb 16 < kv_val ga 16) ∨ (r = -1 ∧ kv_val ga 16 < kv_val gb 16)) ∧ True) (kz_B (dC, dI) vwCl A (fun u : Unit => [])) A) ([.ref a, .ref b] : List Value).toArray s 0 0 A) (F0 m 3 ls []) := by
    intro k3
    induction k3 with
    | zero =>
      intro H locs ls hi3 he hdy hl
      refine lv_iload_n hx hb zd_N_compare_3 rfl (lv_at hl 0 rfl) ?_
      refine lv_if_lt (tgt := 37) hx hb zd_N_compare_4 (by decide) (fun hc4 => ?_) (fun hc4 => ?_)
      · refine lv_iconst (v := (nI (0))) hx hb zd_N_compare_37 (by decide) ?_
        exact kz_iret F () hdy (⟨by first | exact Or.inl ⟨rfl, kv_ext 16 (fun j hj => he j (by omega) hj)⟩ | exact Or.inr (Or.inl ⟨rfl, kv_cmp hd_gb (k := k3) (by omega) 16 (by omega) (fun j a b => he j (by omega) b)⟩) | exact Or.inr (Or.inr ⟨rfl, kv_cmp hd_ga (k := k3) (by omega) 16 (by omega) (fun j a b => (he j (by omega) b).symm)⟩), trivial⟩) zd_N_compare_38
      · exact absurd (by decide) hc4
    | succ k3 ih3 =>
      intro H locs ls hi3 he hdy hl
      rw [nI_pred] at hl
      refine lv_iload_n hx hb zd_N_compare_3 rfl (lv_at hl 0 rfl) ?_
      refine lv_if_lt (tgt := 37) hx hb zd_N_compare_4 (by decide) (fun hc4 => ?_) (fun hc4 => ?_)
      · exact absurd hc4 (nI_pos (by omega))
      · refine lv_aload_n hx hb zd_N_compare_7 rfl (lv_at hl 1 rfl) ?_
        refine lv_iload_n hx hb zd_N_compare_8 rfl (lv_at hl 0 rfl) ?_
        refine kz_riald hx hb hK hro hdy.2.2 0 0 rfl rfl (vp_in_nI (by omega) (by omega)) zd_N_compare_9 ?_
        refine lv_topi (fun x1 h9 => ?_)
        obtain rfl : x1 = nI (ga k3) := h9.trans (kz_dgl ga (by omega))
        have hbx1 := hd_ga k3
        refine lv_aload_n hx hb zd_N_compare_10 rfl (lv_at hl 2 rfl) ?_
        refine lv_iload_n hx hb zd_N_compare_11 rfl (lv_at hl 0 rfl) ?_
        refine kz_riald hx hb hK hro hdy.2.2 1 0 rfl rfl (vp_in_nI (by omega) (by omega)) zd_N_compare_12 ?_
        refine lv_topi (fun x2 h9 => ?_)
        obtain rfl : x2 = nI (gb k3) := h9.trans (kz_dgl gb (by omega))
        have hbx2 := hd_gb k3
        refine lv_icmp_eq (tgt := 31) hx hb zd_N_compare_13 (by decide) (fun hc13 => ?_) (fun hc13 => ?_)
        · have hc13 : (ga k3) = (gb k3) := (nI_eq (by omega) (by omega)).mp hc13
          refine lv_iinc (v := (nI (k3) - 1)) (lv' := [(2, .int (nI (k3) - 1)), (0, .ref a), (1, .ref b)]) hx hb zd_N_compare_31 hl (k := 0) rfl (kz_m1 _) (by decide) rfl (fun ls hl => ?_)
          refine lv_goto (tgt := 3) hx hb zd_N_compare_34 (by decide) ?_
          have hi9_he3 : ∀ j, k3 ≤ j → j < 16 → ga j = gb j := by intro j a b; rcases Nat.lt_or_eq_of_le a with h8 | h8; exact he j h8 b; subst h8; omega
          exact ih3 _ _ _ (by omega) hi9_he3 hdy (lv_sub hl [0, 1, 2] rfl)
        · have hc13 : ¬ (ga k3) = (gb k3) := fun h9 => hc13 ((nI_eq (by omega) (by omega)).mpr h9)
          refine lv_aload_n hx hb zd_N_compare_16 rfl (lv_at hl 1 rfl) ?_
          refine lv_iload_n hx hb zd_N_compare_17 rfl (lv_at hl 0 rfl) ?_
          refine kz_riald hx hb hK hro hdy.2.2 0 0 rfl rfl (vp_in_nI (by omega) (by omega)) zd_N_compare_18 ?_
          refine lv_topi (fun x4 h9 => ?_)
          obtain rfl : x4 = nI (ga k3) := h9.trans (kz_dgl ga (by omega))
          have hbx4 := hd_ga k3
          refine lv_aload_n hx hb zd_N_compare_19 rfl (lv_at hl 2 rfl) ?_
          refine lv_iload_n hx hb zd_N_compare_20 rfl (lv_at hl 0 rfl) ?_
          refine kz_riald hx hb hK hro hdy.2.2 1 0 rfl rfl (vp_in_nI (by omega) (by omega)) zd_N_compare_21 ?_
          refine lv_topi (fun x5 h9 => ?_)
          obtain rfl : x5 = nI (gb k3) := h9.trans (kz_dgl gb (by omega))
          have hbx5 := hd_gb k3
          refine lv_icmp_ge (tgt := 29) hx hb zd_N_compare_22 (by decide) (fun hc22 => ?_) (fun hc22 => ?_)
          · have hc22 : (gb k3) ≤ (ga k3) := (nI_leI (by omega) (by omega)).mp hc22
            refine lv_iconst (v := (nI (1))) hx hb zd_N_compare_29 (by decide) ?_
            exact kz_iret F () hdy (⟨by first | exact Or.inl ⟨rfl, kv_ext 16 (fun j hj => he j (by omega) hj)⟩ | exact Or.inr (Or.inl ⟨rfl, kv_cmp hd_gb (k := k3) (by omega) 16 (by omega) (fun j a b => he j (by omega) b)⟩) | exact Or.inr (Or.inr ⟨rfl, kv_cmp hd_ga (k := k3) (by omega) 16 (by omega) (fun j a b => (he j (by omega) b).symm)⟩), trivial⟩) zd_N_compare_30
          · have hc22 : ¬ (gb k3) ≤ (ga k3) := fun h9 => hc22 ((nI_leI (by omega) (by omega)).mpr h9)
            refine lv_iconst (v := (-1)) hx hb zd_N_compare_25 (by decide) ?_
            refine lv_goto (tgt := 30) hx hb zd_N_compare_26 (by decide) ?_
            exact kz_iret F () hdy (⟨by first | exact Or.inl ⟨rfl, kv_ext 16 (fun j hj => he j (by omega) hj)⟩ | exact Or.inr (Or.inl ⟨rfl, kv_cmp hd_gb (k := k3) (by omega) 16 (by omega) (fun j a b => he j (by omega) b)⟩) | exact Or.inr (Or.inr ⟨rfl, kv_cmp hd_ga (k := k3) (by omega) 16 (by omega) (fun j a b => (he j (by omega) b).symm)⟩), trivial⟩) zd_N_compare_30
  have hi9_he6 : ∀ j, 16 ≤ j → j < 16 → ga j = gb j := by intro j a b; omega
  exact lp3 16 _ _ _ (by omega) hi9_he6 hdy (lv_sub hl [0, 1, 2] rfl)

set_option maxHeartbeats 4000000 in
set_option maxRecDepth 100000 in
/-- KeyMeetingModel.compare([I[I)I -/
theorem c_F_compare18 (l : Launch) (dC : Nat → ClassId) (dI : Nat → Nat → Nat) (cI cAA cB cL : ClassId) (a b : Nat) (ga : Nat → Nat) (gb : Nat → Nat) (sz : Nat) (hd_ga : ∀ j, ga j < 65536) (hd_gb : ∀ j, gb j < 65536) : Met l zy_N_compare zw_N_compare { frames := 0, cells := 0, slots := 0, locals := 0 } (kz_Pc (dC, dI) vwCl [(cI, .int), (cAA, .array .int), (cB, .byte), (cL, .long)] [] [] [.ref a, .ref b] [] [(a, .inl (cI, 18, .inl (kz_dg ga))), (b, .inl (cI, 16, .inl (kz_dg gb)))] sz) (va_Qi (fun (r : Int32) (u : Unit) => ((r = 0 ∧ kv_val ga 16 = kv_val gb 16) ∨ (r = 1 ∧ kv_val gb 16 < kv_val ga 16) ∨ (r = -1 ∧ kv_val ga 16 < kv_val gb 16)) ∧ True) (kz_B (dC, dI) vwCl (va_A [] sz) (fun u : Unit => [])) (va_A [] sz)) 0 0 (va_A [] sz) := by
  refine kz_met (y := zy_N_compare) (ws := zw_N_compare) (av := [.ref a, .ref b]) (sz := sz) (Qc := fun A => va_Qi (fun (r : Int32) (u : Unit) => ((r = 0 ∧ kv_val ga 16 = kv_val gb 16) ∨ (r = 1 ∧ kv_val gb 16 < kv_val ga 16) ∨ (r = -1 ∧ kv_val ga 16 < kv_val gb 16)) ∧ True) (kz_B (dC, dI) vwCl A (fun u : Unit => [])) A) (cc := zc_N_compare) (maxL := 3) (ret := some .int) (by decide) rfl (Nat.le_of_ble_eq_true rfl) ?_
  intro p e s m below meth c A ls F hA hdy hK hro hZ hN hl
  obtain ⟨hx, hb, hml, hr, hown, hlocks, hts, hnm⟩ := id F
  have hl : lv_has ls 3 [(0, .ref a), (1, .ref b)] := hl
  refine lv_bipush (v := (nI (15))) hx hb zd_N_compare_0 (by decide) ?_
  refine lv_istore_n (lv' := [(2, .int (nI (15))), (0, .ref a), (1, .ref b)]) hx hb zd_N_compare_2 rfl hl (by decide) rfl (fun ls hl => ?_)
  have lp3 : ∀ (k3 : Nat) (H : Heap) (locs : List Loc) (ls : Array Slot), k3 ≤ 16 → (∀ j, k3 ≤ j → j < 16 → ga j = gb j) → kz_dy (dC, dI) vwCl A s.heap H locs [] → lv_has ls 3 [(2, .int (nI k3 - 1)), (0, .ref a), (1, .ref b)] → W p l e { frames := 0, cells := 0, slots := 0, locals := 0 } s m ([.ref a, .ref b] : List Value).toArray below meth c H locs 0 0 (MQ below (va_Qi (fun (r : Int32) (u : Unit) => ((r = 0 ∧ kv_val ga 16 = kv_val gb 16) ∨ (r = 1 ∧ kv_val gb 16 < kv_val ga 16) ∨ (r = -1 ∧ kv_val ga 16 < kv_val gb 16)) ∧ True) (kz_B (dC, dI) vwCl A (fun u : Unit => [])) A) ([.ref a, .ref b] : List Value).toArray s 0 0 A) (F0 m 3 ls []) := by
    intro k3
    induction k3 with
    | zero =>
      intro H locs ls hi3 he hdy hl
      refine lv_iload_n hx hb zd_N_compare_3 rfl (lv_at hl 0 rfl) ?_
      refine lv_if_lt (tgt := 37) hx hb zd_N_compare_4 (by decide) (fun hc4 => ?_) (fun hc4 => ?_)
      · refine lv_iconst (v := (nI (0))) hx hb zd_N_compare_37 (by decide) ?_
        exact kz_iret F () hdy (⟨by first | exact Or.inl ⟨rfl, kv_ext 16 (fun j hj => he j (by omega) hj)⟩ | exact Or.inr (Or.inl ⟨rfl, kv_cmp hd_gb (k := k3) (by omega) 16 (by omega) (fun j a b => he j (by omega) b)⟩) | exact Or.inr (Or.inr ⟨rfl, kv_cmp hd_ga (k := k3) (by omega) 16 (by omega) (fun j a b => (he j (by omega) b).symm)⟩), trivial⟩) zd_N_compare_38
      · exact absurd (by decide) hc4
    | succ k3 ih3 =>
      intro H locs ls hi3 he hdy hl
      rw [nI_pred] at hl
      refine lv_iload_n hx hb zd_N_compare_3 rfl (lv_at hl 0 rfl) ?_
      refine lv_if_lt (tgt := 37) hx hb zd_N_compare_4 (by decide) (fun hc4 => ?_) (fun hc4 => ?_)
      · exact absurd hc4 (nI_pos (by omega))
      · refine lv_aload_n hx hb zd_N_compare_7 rfl (lv_at hl 1 rfl) ?_
        refine lv_iload_n hx hb zd_N_compare_8 rfl (lv_at hl 0 rfl) ?_
        refine kz_riald hx hb hK hro hdy.2.2 0 0 rfl rfl (vp_in_nI (by omega) (by omega)) zd_N_compare_9 ?_
        refine lv_topi (fun x1 h9 => ?_)
        obtain rfl : x1 = nI (ga k3) := h9.trans (kz_dgl ga (by omega))
        have hbx1 := hd_ga k3
        refine lv_aload_n hx hb zd_N_compare_10 rfl (lv_at hl 2 rfl) ?_
        refine lv_iload_n hx hb zd_N_compare_11 rfl (lv_at hl 0 rfl) ?_
        refine kz_riald hx hb hK hro hdy.2.2 1 0 rfl rfl (vp_in_nI (by omega) (by omega)) zd_N_compare_12 ?_
        refine lv_topi (fun x2 h9 => ?_)
        obtain rfl : x2 = nI (gb k3) := h9.trans (kz_dgl gb (by omega))
        have hbx2 := hd_gb k3
        refine lv_icmp_eq (tgt := 31) hx hb zd_N_compare_13 (by decide) (fun hc13 => ?_) (fun hc13 => ?_)
        · have hc13 : (ga k3) = (gb k3) := (nI_eq (by omega) (by omega)).mp hc13
          refine lv_iinc (v := (nI (k3) - 1)) (lv' := [(2, .int (nI (k3) - 1)), (0, .ref a), (1, .ref b)]) hx hb zd_N_compare_31 hl (k := 0) rfl (kz_m1 _) (by decide) rfl (fun ls hl => ?_)
          refine lv_goto (tgt := 3) hx hb zd_N_compare_34 (by decide) ?_
          have hi9_he3 : ∀ j, k3 ≤ j → j < 16 → ga j = gb j := by intro j a b; rcases Nat.lt_or_eq_of_le a with h8 | h8; exact he j h8 b; subst h8; omega
          exact ih3 _ _ _ (by omega) hi9_he3 hdy (lv_sub hl [0, 1, 2] rfl)
        · have hc13 : ¬ (ga k3) = (gb k3) := fun h9 => hc13 ((nI_eq (by omega) (by omega)).mpr h9)
          refine lv_aload_n hx hb zd_N_compare_16 rfl (lv_at hl 1 rfl) ?_
          refine lv_iload_n hx hb zd_N_compare_17 rfl (lv_at hl 0 rfl) ?_
          refine kz_riald hx hb hK hro hdy.2.2 0 0 rfl rfl (vp_in_nI (by omega) (by omega)) zd_N_compare_18 ?_
          refine lv_topi (fun x4 h9 => ?_)
          obtain rfl : x4 = nI (ga k3) := h9.trans (kz_dgl ga (by omega))
          have hbx4 := hd_ga k3
          refine lv_aload_n hx hb zd_N_compare_19 rfl (lv_at hl 2 rfl) ?_
          refine lv_iload_n hx hb zd_N_compare_20 rfl (lv_at hl 0 rfl) ?_
          refine kz_riald hx hb hK hro hdy.2.2 1 0 rfl rfl (vp_in_nI (by omega) (by omega)) zd_N_compare_21 ?_
          refine lv_topi (fun x5 h9 => ?_)
          obtain rfl : x5 = nI (gb k3) := h9.trans (kz_dgl gb (by omega))
          have hbx5 := hd_gb k3
          refine lv_icmp_ge (tgt := 29) hx hb zd_N_compare_22 (by decide) (fun hc22 => ?_) (fun hc22 => ?_)
          · have hc22 : (gb k3) ≤ (ga k3) := (nI_leI (by omega) (by omega)).mp hc22
            refine lv_iconst (v := (nI (1))) hx hb zd_N_compare_29 (by decide) ?_
            exact kz_iret F () hdy (⟨by first | exact Or.inl ⟨rfl, kv_ext 16 (fun j hj => he j (by omega) hj)⟩ | exact Or.inr (Or.inl ⟨rfl, kv_cmp hd_gb (k := k3) (by omega) 16 (by omega) (fun j a b => he j (by omega) b)⟩) | exact Or.inr (Or.inr ⟨rfl, kv_cmp hd_ga (k := k3) (by omega) 16 (by omega) (fun j a b => (he j (by omega) b).symm)⟩), trivial⟩) zd_N_compare_30
          · have hc22 : ¬ (gb k3) ≤ (ga k3) := fun h9 => hc22 ((nI_leI (by omega) (by omega)).mpr h9)
            refine lv_iconst (v := (-1)) hx hb zd_N_compare_25 (by decide) ?_
            refine lv_goto (tgt := 30) hx hb zd_N_compare_26 (by decide) ?_
            exact kz_iret F () hdy (⟨by first | exact Or.inl ⟨rfl, kv_ext 16 (fun j hj => he j (by omega) hj)⟩ | exact Or.inr (Or.inl ⟨rfl, kv_cmp hd_gb (k := k3) (by omega) 16 (by omega) (fun j a b => he j (by omega) b)⟩) | exact Or.inr (Or.inr ⟨rfl, kv_cmp hd_ga (k := k3) (by omega) 16 (by omega) (fun j a b => (he j (by omega) b).symm)⟩), trivial⟩) zd_N_compare_30
  have hi9_he6 : ∀ j, 16 ≤ j → j < 16 → ga j = gb j := by intro j a b; omega
  exact lp3 16 _ _ _ (by omega) hi9_he6 hdy (lv_sub hl [0, 1, 2] rfl)

