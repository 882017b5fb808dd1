set_option maxHeartbeats 4000000 in
set_option maxRecDepth 100000 in
/-- KeyMeetingModel.figures([II[I)V -/
theorem c_X_figures56 (l : Launch) (dC : Nat → ClassId) (dI : Nat → Nat → Nat) (cI cAA cB cL : ClassId) (o a : Nat) (go : Nat → Nat) (ga : Nat → Int32) (fr : Nat) (sz : Nat) (hd_go : ∀ j, go j < 65536) (hfr : fr + 7 < 56) : Met l zy_N_figures zw_N_figures { frames := 0, cells := 0, slots := 0, locals := 0 } (kz_Pc (dC, dI) vwCl [(cI, .int), (cAA, .array .int), (cB, .byte), (cL, .long)] [] [] [.ref a, .int (nI (fr)), .ref o] [(o, .inl (cI, 16, .inl (kz_dg go)))] [(a, .inl (cI, 56, .inl ga))] sz) (va_Qv (fun (u : (Nat → Nat)) => (∀ j, u j < 65536) ∧ (∀ j, j < 16 → u j = kv_fig ga fr j) ∧ True) (kz_B (dC, dI) vwCl (va_A [(o, .inl (cI, 16, .inl (kz_dg go)))] sz) (fun u : (Nat → Nat) => [(o, .inl (cI, 16, .inl (kz_dg u)))])) (va_A [(o, .inl (cI, 16, .inl (kz_dg go)))] sz)) 0 0 (va_A [(o, .inl (cI, 16, .inl (kz_dg go)))] sz) := by
  refine kz_met (y := zy_N_figures) (ws := zw_N_figures) (av := [.ref a, .int (nI (fr)), .ref o]) (sz := sz) (Qc := fun A => va_Qv (fun (u : (Nat → Nat)) => (∀ j, u j < 65536) ∧ (∀ j, j < 16 → u j = kv_fig ga fr j) ∧ True) (kz_B (dC, dI) vwCl A (fun u : (Nat → Nat) => [(o, .inl (cI, 16, .inl (kz_dg u)))])) A) (cc := zc_N_figures) (maxL := 5) (ret := none) (by decide) rfl (Nat.le_of_ble_eq_true rfl) ?_
  intro p e s m below meth c A ls F hA hdy hK hro hZ hN hl
  obtain ⟨hx, hb, hml, hr, hown, hlocks, hts, hnm⟩ := id F
  have hl : lv_has ls 5 [(0, .ref a), (1, .int (nI (fr))), (2, .ref o)] := hl
  refine lv_iconst (v := (nI (0))) hx hb zd_N_figures_0 (by decide) ?_
  refine lv_istore_n (lv' := [(3, .int (nI (0))), (0, .ref a), (1, .int (nI (fr))), (2, .ref o)]) hx hb zd_N_figures_1 rfl hl (by decide) rfl (fun ls hl => ?_)
  have lp2 : ∀ (n2 k2 : Nat) (d1 : Nat → Nat) (H : Heap) (locs : List Loc) (ls : Array Slot), k2 ≤ 16 → 16 - k2 < n2 → (∀ j, d1 j < 65536) → (∀ j, j < k2 → d1 j = kv_fig ga fr j) → kz_dy (dC, dI) vwCl A s.heap H locs [(o, .inl (cI, 16, .inl (kz_dg d1)))] → lv_has ls 5 [(3, .int (nI (k2))), (0, .ref a), (1, .int (nI (fr))), (2, .ref o)] → W p l e { frames := 0, cells := 0, slots := 0, locals := 0 } s m ([.ref a, .int (nI (fr)), .ref o] : List Value).toArray below meth c H locs 0 0 (MQ below (va_Qv (fun (u : (Nat → Nat)) => (∀ j, u j < 65536) ∧ (∀ j, j < 16 → u j = kv_fig ga fr j) ∧ True) (kz_B (dC, dI) vwCl A (fun u : (Nat → Nat) => [(o, .inl (cI, 16, .inl (kz_dg u)))])) A) ([.ref a, .int (nI (fr)), .ref o] : List Value).toArray s 0 0 A) (F0 m 2 ls []) := by
    intro n2
    induction n2 with
    | zero => intro k2; intros; omega
    | succ n2 ih2 =>
      intro k2 d1 H locs ls hi2 hn2 hd_d1 hfi hdy hl
      refine lv_iload_n hx hb zd_N_figures_2 rfl (lv_at hl 0 rfl) ?_
      refine lv_bipush (v := (nI (16))) hx hb zd_N_figures_3 (by decide) ?_
      refine lv_icmp_ge (tgt := 48) hx hb zd_N_figures_5 (by decide) (fun hc5 => ?_) (fun hc5 => ?_)
      · have hc5 : 16 ≤ k2 := (nI_leI (by omega) (by omega)).mp hc5
        exact kz_vret F (d1) hdy (⟨hd_d1, by exact fun j hj => hfi j (by omega), trivial⟩) zd_N_figures_48
      · have hc5 : ¬ 16 ≤ k2 := fun h9 => hc5 ((nI_leI (by omega) (by omega)).mpr h9)
        refine lv_aload_n hx hb zd_N_figures_8 rfl (lv_at hl 1 rfl) ?_
        refine lv_iload_n hx hb zd_N_figures_9 rfl (lv_at hl 2 rfl) ?_
        refine lv_bipush (v := (nI (7))) hx hb zd_N_figures_10 (by decide) ?_
        refine kz_iadd hx hb zd_N_figures_12 (nI_add _ _) ?_
        refine lv_iload_n hx hb zd_N_figures_13 rfl (lv_at hl 0 rfl) ?_
        refine lv_iconst (v := (nI (2))) hx hb zd_N_figures_14 (by decide) ?_
        refine kz_idiv hx hb zd_N_figures_15 (by decide) (pk_div (by omega) (by omega) (by omega)) ?_
        refine kz_isub hx hb zd_N_figures_16 (pk_sub (by omega)) ?_
        refine kz_riald hx hb hK hro hdy.2.2 0 0 rfl rfl (vp_in_nI (by omega) (by omega)) zd_N_figures_17 ?_
        refine lv_topi (fun x2 h9 => ?_)
        obtain rfl : x2 = ga (fr + 7 - (k2 / 2)) := h9.trans (by rw [nI_clamp (by omega)])
        refine lv_istore (lv' := [(4, .int (ga (fr + 7 - (k2 / 2)))), (3, .int (nI (k2))), (0, .ref a), (1, .int (nI (fr))), (2, .ref o)]) hx hb zd_N_figures_18 hl (by decide) rfl (fun ls hl => ?_)
        refine lv_aload_n hx hb zd_N_figures_20 rfl (lv_at hl 4 rfl) ?_
        refine lv_iload_n hx hb zd_N_figures_21 rfl (lv_at hl 1 rfl) ?_
        refine lv_iload_n hx hb zd_N_figures_22 rfl (lv_at hl 1 rfl) ?_
        refine lv_iconst (v := (nI (2))) hx hb zd_N_figures_23 (by decide) ?_
        refine kz_irem hx hb zd_N_figures_24 (by decide) (pk_rem (by omega) (by omega) (by omega)) ?_
        refine lv_if_ne (tgt := 36) hx hb zd_N_figures_25 (by decide) (fun hc25 => ?_) (fun hc25 => ?_)
        · have hc25 : ¬ (k2 % 2) = 0 := fun h9 => hc25 (by have h8 := (nI_eq (by omega) (by omega)).mpr h9; rw [nI_0] at h8; exact h8)
          refine lv_iload hx hb zd_N_figures_36 (lv_at hl 0 rfl) ?_
          refine lv_bipush (v := (nI (16))) hx hb zd_N_figures_38 (by decide) ?_
          refine lv_iushr hx hb zd_N_figures_40 (kz_ushr16i (ga (fr + 7 - (k2 / 2)))) ?_
          have hu3 := kz_ult (ga (fr + 7 - (k2 / 2)))
          refine va_iast hx hb hK hdy.1 hdy.2.1 hdy.2.2 0 0 rfl rfl (vp_in_nI (by omega) (by omega)) zd_N_figures_41 (fun H locs hP hD hS => ?_)
          have h9 := kz_dgu d1 (k := k2) ((ga (fr + 7 - (k2 / 2))).toUInt32.toNat / 65536) (by omega)
          rw [h9] at hP hD
          obtain ⟨f4, ef4, hd_f4, hdy⟩ : ∃ f4 : Nat → Nat, f4 = kv_up d1 k2 ((ga (fr + 7 - (k2 / 2))).toUInt32.toNat / 65536) ∧ (∀ j, f4 j < 65536) ∧ kz_dy (dC, dI) vwCl A s.heap H locs [(o, .inl (cI, 16, .inl (kz_dg f4)))] := ⟨_, rfl, kv_up_lt hd_d1 (by omega), hP, hD, hS⟩
          refine lv_iinc (v := (nI (k2 + 1))) (lv' := [(3, .int (nI (k2 + 1))), (4, .int (ga (fr + 7 - (k2 / 2)))), (0, .ref a), (1, .int (nI (fr))), (2, .ref o)]) hx hb zd_N_figures_42 hl (k := 1) rfl (nI_1 _) (by decide) rfl (fun ls hl => ?_)
          refine lv_goto (tgt := 2) hx hb zd_N_figures_45 (by decide) ?_
          have hi9_hfi5 : ∀ j, j < k2 + 1 → f4 j = kv_fig ga fr j := by rw [ef4]; exact kv_fill hfi (by unfold kv_fig; first | rw [if_pos (by omega)] | rw [if_neg (by omega)])
          exact ih2 (k2 + 1) f4 _ _ _ (by omega) (by omega) hd_f4 hi9_hfi5 hdy (lv_sub hl [0, 2, 3, 4] rfl)
        · have hc25 : (k2 % 2) = 0 := (nI_eq (by omega) (by omega)).mp (by rw [nI_0]; exact hc25)
          refine lv_iload hx hb zd_N_figures_28 (lv_at hl 0 rfl) ?_
          refine lv_ldc (v := (nI (65535))) hx hb hown (hts _ (kz_c mw_693)) zd_N_figures_30 ?_
          refine lv_iand hx hb zd_N_figures_32 ?_
          have hu6 := kz_ult (ga (fr + 7 - (k2 / 2)))
          refine lv_topi (fun x7 h9 => ?_)
          obtain rfl : x7 = nI ((ga (fr + 7 - (k2 / 2))).toUInt32.toNat % 65536) := h9.trans (kz_and16i _)
          refine lv_goto (tgt := 41) hx hb zd_N_figures_33 (by decide) ?_
          refine va_iast hx hb hK hdy.1 hdy.2.1 hdy.2.2 0 0 rfl rfl (vp_in_nI (by omega) (by omega)) zd_N_figures_41 (fun H locs hP hD hS => ?_)
          have h9 := kz_dgu d1 (k := k2) ((ga (fr + 7 - (k2 / 2))).toUInt32.toNat % 65536) (by omega)
          rw [h9] at hP hD
          obtain ⟨f8, ef8, hd_f8, hdy⟩ : ∃ f8 : Nat → Nat, f8 = kv_up d1 k2 ((ga (fr + 7 - (k2 / 2))).toUInt32.toNat % 65536) ∧ (∀ j, f8 j < 65536) ∧ kz_dy (dC, dI) vwCl A s.heap H locs [(o, .inl (cI, 16, .inl (kz_dg f8)))] := ⟨_, rfl, kv_up_lt hd_d1 (by omega), hP, hD, hS⟩
          refine lv_iinc (v := (nI (k2 + 1))) (lv' := [(3, .int (nI (k2 + 1))), (4, .int (ga (fr + 7 - (k2 / 2)))), (0, .ref a), (1, .int (nI (fr))), (2, .ref o)]) hx hb zd_N_figures_42 hl (k := 1) rfl (nI_1 _) (by decide) rfl (fun ls hl => ?_)
          refine lv_goto (tgt := 2) hx hb zd_N_figures_45 (by decide) ?_
          have hi9_hfi9 : ∀ j, j < k2 + 1 → f8 j = kv_fig ga fr j := by rw [ef8]; exact kv_fill hfi (by unfold kv_fig; first | rw [if_pos (by omega)] | rw [if_neg (by omega)])
          exact ih2 (k2 + 1) f8 _ _ _ (by omega) (by omega) hd_f8 hi9_hfi9 hdy (lv_sub hl [0, 2, 3, 4] rfl)
  have hi9_hfi10 : ∀ j, j < 0 → go j = kv_fig ga fr j := by intro j hj; omega
  exact lp2 (16 - 0 + 1) 0 go _ _ _ (by omega) (by omega) hd_go hi9_hfi10 hdy (lv_sub hl [0, 1, 2, 3] rfl)

set_option maxHeartbeats 4000000 in
set_option maxRecDepth 100000 in
/-- KeyMeetingModel.figures([II[I)V -/
theorem c_X_figures32 (l : Launch) (dC : Nat → ClassId) (dI : Nat → Nat → Nat) (cI cAA cB cL : ClassId) (o a : Nat) (go : Nat → Nat) (ga : Nat → Int32) (fr : Nat) (sz : Nat) (hd_go : ∀ j, go j < 65536) (hfr : fr + 7 < 32) : Met l zy_N_figures zw_N_figures { frames := 0, cells := 0, slots := 0, locals := 0 } (kz_Pc (dC, dI) vwCl [(cI, .int), (cAA, .array .int), (cB, .byte), (cL, .long)] [] [] [.ref a, .int (nI (fr)), .ref o] [(o, .inl (cI, 16, .inl (kz_dg go)))] [(a, .inl (cI, 32, .inl ga))] sz) (va_Qv (fun (u : (Nat → Nat)) => (∀ j, u j < 65536) ∧ (∀ j, j < 16 → u j = kv_fig ga fr j) ∧ True) (kz_B (dC, dI) vwCl (va_A [(o, .inl (cI, 16, .inl (kz_dg go)))] sz) (fun u : (Nat → Nat) => [(o, .inl (cI, 16, .inl (kz_dg u)))])) (va_A [(o, .inl (cI, 16, .inl (kz_dg go)))] sz)) 0 0 (va_A [(o, .inl (cI, 16, .inl (kz_dg go)))] sz) := by
  refine kz_met (y := zy_N_figures) (ws := zw_N_figures) (av := [.ref a, .int (nI (fr)), .ref o]) (sz := sz) (Qc := fun A => va_Qv (fun (u : (Nat → Nat)) => (∀ j, u j < 65536) ∧ (∀ j, j < 16 → u j = kv_fig ga fr j) ∧ True) (kz_B (dC, dI) vwCl A (fun u : (Nat → Nat) => [(o, .inl (cI, 16, .inl (kz_dg u)))])) A) (cc := zc_N_figures) (maxL := 5) (ret := none) (by decide) rfl (Nat.le_of_ble_eq_true rfl) ?_
  intro p e s m below meth c A ls F hA hdy hK hro hZ hN hl
  obtain ⟨hx, hb, hml, hr, hown, hlocks, hts, hnm⟩ := id F
  have hl : lv_has ls 5 [(0, .ref a), (1, .int (nI (fr))), (2, .ref o)] := hl
  refine lv_iconst (v := (nI (0))) hx hb zd_N_figures_0 (by decide) ?_
  refine lv_istore_n (lv' := [(3, .int (nI (0))), (0, .ref a), (1, .int (nI (fr))), (2, .ref o)]) hx hb zd_N_figures_1 rfl hl (by decide) rfl (fun ls hl => ?_)
  have lp2 : ∀ (n2 k2 : Nat) (d1 : Nat → Nat) (H : Heap) (locs : List Loc) (ls : Array Slot), k2 ≤ 16 → 16 - k2 < n2 → (∀ j, d1 j < 65536) → (∀ j, j < k2 → d1 j = kv_fig ga fr j) → kz_dy (dC, dI) vwCl A s.heap H locs [(o, .inl (cI, 16, .inl (kz_dg d1)))] → lv_has ls 5 [(3, .int (nI (k2))), (0, .ref a), (1, .int (nI (fr))), (2, .ref o)] → W p l e { frames := 0, cells := 0, slots := 0, locals := 0 } s m ([.ref a, .int (nI (fr)), .ref o] : List Value).toArray below meth c H locs 0 0 (MQ below (va_Qv (fun (u : (Nat → Nat)) => (∀ j, u j < 65536) ∧ (∀ j, j < 16 → u j = kv_fig ga fr j) ∧ True) (kz_B (dC, dI) vwCl A (fun u : (Nat → Nat) => [(o, .inl (cI, 16, .inl (kz_dg u)))])) A) ([.ref a, .int (nI (fr)), .ref o] : List Value).toArray s 0 0 A) (F0 m 2 ls []) := by
    intro n2
    induction n2 with
    | zero => intro k2; intros; omega
    | succ n2 ih2 =>
      intro k2 d1 H locs ls hi2 hn2 hd_d1 hfi hdy hl
      refine lv_iload_n hx hb zd_N_figures_2 rfl (lv_at hl 0 rfl) ?_
      refine lv_bipush (v := (nI (16))) hx hb zd_N_figures_3 (by decide) ?_
      refine lv_icmp_ge (tgt := 48) hx hb zd_N_figures_5 (by decide) (fun hc5 => ?_) (fun hc5 => ?_)
      · have hc5 : 16 ≤ k2 := (nI_leI (by omega) (by omega)).mp hc5
        exact kz_vret F (d1) hdy (⟨hd_d1, by exact fun j hj => hfi j (by omega), trivial⟩) zd_N_figures_48
      · have hc5 : ¬ 16 ≤ k2 := fun h9 => hc5 ((nI_leI (by omega) (by omega)).mpr h9)
        refine lv_aload_n hx hb zd_N_figures_8 rfl (lv_at hl 1 rfl) ?_
        refine lv_iload_n hx hb zd_N_figures_9 rfl (lv_at hl 2 rfl) ?_
        refine lv_bipush (v := (nI (7))) hx hb zd_N_figures_10 (by decide) ?_
        refine kz_iadd hx hb zd_N_figures_12 (nI_add _ _) ?_
        refine lv_iload_n hx hb zd_N_figures_13 rfl (lv_at hl 0 rfl) ?_
        refine lv_iconst (v := (nI (2))) hx hb zd_N_figures_14 (by decide) ?_
        refine kz_idiv hx hb zd_N_figures_15 (by decide) (pk_div (by omega) (by omega) (by omega)) ?_
        refine kz_isub hx hb zd_N_figures_16 (pk_sub (by omega)) ?_
        refine kz_riald hx hb hK hro hdy.2.2 0 0 rfl rfl (vp_in_nI (by omega) (by omega)) zd_N_figures_17 ?_
        refine lv_topi (fun x2 h9 => ?_)
        obtain rfl : x2 = ga (fr + 7 - (k2 / 2)) := h9.trans (by rw [nI_clamp (by omega)])
        refine lv_istore (lv' := [(4, .int (ga (fr + 7 - (k2 / 2)))), (3, .int (nI (k2))), (0, .ref a), (1, .int (nI (fr))), (2, .ref o)]) hx hb zd_N_figures_18 hl (by decide) rfl (fun ls hl => ?_)
        refine lv_aload_n hx hb zd_N_figures_20 rfl (lv_at hl 4 rfl) ?_
        refine lv_iload_n hx hb zd_N_figures_21 rfl (lv_at hl 1 rfl) ?_
        refine lv_iload_n hx hb zd_N_figures_22 rfl (lv_at hl 1 rfl) ?_
        refine lv_iconst (v := (nI (2))) hx hb zd_N_figures_23 (by decide) ?_
        refine kz_irem hx hb zd_N_figures_24 (by decide) (pk_rem (by omega) (by omega) (by omega)) ?_
        refine lv_if_ne (tgt := 36) hx hb zd_N_figures_25 (by decide) (fun hc25 => ?_) (fun hc25 => ?_)
        · have hc25 : ¬ (k2 % 2) = 0 := fun h9 => hc25 (by have h8 := (nI_eq (by omega) (by omega)).mpr h9; rw [nI_0] at h8; exact h8)
          refine lv_iload hx hb zd_N_figures_36 (lv_at hl 0 rfl) ?_
          refine lv_bipush (v := (nI (16))) hx hb zd_N_figures_38 (by decide) ?_
          refine lv_iushr hx hb zd_N_figures_40 (kz_ushr16i (ga (fr + 7 - (k2 / 2)))) ?_
          have hu3 := kz_ult (ga (fr + 7 - (k2 / 2)))
          refine va_iast hx hb hK hdy.1 hdy.2.1 hdy.2.2 0 0 rfl rfl (vp_in_nI (by omega) (by omega)) zd_N_figures_41 (fun H locs hP hD hS => ?_)
          have h9 := kz_dgu d1 (k := k2) ((ga (fr + 7 - (k2 / 2))).toUInt32.toNat / 65536) (by omega)
          rw [h9] at hP hD
          obtain ⟨f4, ef4, hd_f4, hdy⟩ : ∃ f4 : Nat → Nat, f4 = kv_up d1 k2 ((ga (fr + 7 - (k2 / 2))).toUInt32.toNat / 65536) ∧ (∀ j, f4 j < 65536) ∧ kz_dy (dC, dI) vwCl A s.heap H locs [(o, .inl (cI, 16, .inl (kz_dg f4)))] := ⟨_, rfl, kv_up_lt hd_d1 (by omega), hP, hD, hS⟩
          refine lv_iinc (v := (nI (k2 + 1))) (lv' := [(3, .int (nI (k2 + 1))), (4, .int (ga (fr + 7 - (k2 / 2)))), (0, .ref a), (1, .int (nI (fr))), (2, .ref o)]) hx hb zd_N_figures_42 hl (k := 1) rfl (nI_1 _) (by decide) rfl (fun ls hl => ?_)
          refine lv_goto (tgt := 2) hx hb zd_N_figures_45 (by decide) ?_
          have hi9_hfi5 : ∀ j, j < k2 + 1 → f4 j = kv_fig ga fr j := by rw [ef4]; exact kv_fill hfi (by unfold kv_fig; first | rw [if_pos (by omega)] | rw [if_neg (by omega)])
          exact ih2 (k2 + 1) f4 _ _ _ (by omega) (by omega) hd_f4 hi9_hfi5 hdy (lv_sub hl [0, 2, 3, 4] rfl)
        · have hc25 : (k2 % 2) = 0 := (nI_eq (by omega) (by omega)).mp (by rw [nI_0]; exact hc25)
          refine lv_iload hx hb zd_N_figures_28 (lv_at hl 0 rfl) ?_
          refine lv_ldc (v := (nI (65535))) hx hb hown (hts _ (kz_c mw_693)) zd_N_figures_30 ?_
          refine lv_iand hx hb zd_N_figures_32 ?_
          have hu6 := kz_ult (ga (fr + 7 - (k2 / 2)))
          refine lv_topi (fun x7 h9 => ?_)
          obtain rfl : x7 = nI ((ga (fr + 7 - (k2 / 2))).toUInt32.toNat % 65536) := h9.trans (kz_and16i _)
          refine lv_goto (tgt := 41) hx hb zd_N_figures_33 (by decide) ?_
          refine va_iast hx hb hK hdy.1 hdy.2.1 hdy.2.2 0 0 rfl rfl (vp_in_nI (by omega) (by omega)) zd_N_figures_41 (fun H locs hP hD hS => ?_)
          have h9 := kz_dgu d1 (k := k2) ((ga (fr + 7 - (k2 / 2))).toUInt32.toNat % 65536) (by omega)
          rw [h9] at hP hD
          obtain ⟨f8, ef8, hd_f8, hdy⟩ : ∃ f8 : Nat → Nat, f8 = kv_up d1 k2 ((ga (fr + 7 - (k2 / 2))).toUInt32.toNat % 65536) ∧ (∀ j, f8 j < 65536) ∧ kz_dy (dC, dI) vwCl A s.heap H locs [(o, .inl (cI, 16, .inl (kz_dg f8)))] := ⟨_, rfl, kv_up_lt hd_d1 (by omega), hP, hD, hS⟩
          refine lv_iinc (v := (nI (k2 + 1))) (lv' := [(3, .int (nI (k2 + 1))), (4, .int (ga (fr + 7 - (k2 / 2)))), (0, .ref a), (1, .int (nI (fr))), (2, .ref o)]) hx hb zd_N_figures_42 hl (k := 1) rfl (nI_1 _) (by decide) rfl (fun ls hl => ?_)
          refine lv_goto (tgt := 2) hx hb zd_N_figures_45 (by decide) ?_
          have hi9_hfi9 : ∀ j, j < k2 + 1 → f8 j = kv_fig ga fr j := by rw [ef8]; exact kv_fill hfi (by unfold kv_fig; first | rw [if_pos (by omega)] | rw [if_neg (by omega)])
          exact ih2 (k2 + 1) f8 _ _ _ (by omega) (by omega) hd_f8 hi9_hfi9 hdy (lv_sub hl [0, 2, 3, 4] rfl)
  have hi9_hfi10 : ∀ j, j < 0 → go j = kv_fig ga fr j := by intro j hj; omega
  exact lp2 (16 - 0 + 1) 0 go _ _ _ (by omega) (by omega) hd_go hi9_hfi10 hdy (lv_sub hl [0, 1, 2, 3] rfl)

set_option maxHeartbeats 4000000 in
set_option maxRecDepth 100000 in
/-- KeyMeetingModel.figures([II[I)V -/
theorem c_X_figures16 (l : Launch) (dC : Nat → ClassId) (dI : Nat → Nat → Nat) (cI cAA cB cL : ClassId) (o a : Nat) (go : Nat → Nat) (ga : Nat → Int32) (fr : Nat) (sz : Nat) (hd_go : ∀ j, go j < 65536) (hfr : fr + 7 < 16) : Met l zy_N_figures zw_N_figures { frames := 0, cells := 0, slots := 0, locals := 0 } (kz_Pc (dC, dI) vwCl [(cI, .int), (cAA, .array .int), (cB, .byte), (cL, .long)] [] [] [.ref a, .int (nI (fr)), .ref o] [(o, .inl (cI, 16, .inl (kz_dg go)))] [(a, .inl (cI, 16, .inl ga))] sz) (va_Qv (fun (u : (Nat → Nat)) => (∀ j, u j < 65536) ∧ (∀ j, j < 16 → u j = kv_fig ga fr j) ∧ True) (kz_B (dC, dI) vwCl (va_A [(o, .inl (cI, 16, .inl (kz_dg go)))] sz) (fun u : (Nat → Nat) => [(o, .inl (cI, 16, .inl (kz_dg u)))])) (va_A [(o, .inl (cI, 16, .inl (kz_dg go)))] sz)) 0 0 (va_A [(o, .inl (cI, 16, .inl (kz_dg go)))] sz) := by
  refine kz_met (y := zy_N_figures) (ws := zw_N_figures) (av := [.ref a, .int (nI (fr)), .ref o]) (sz := sz) (Qc := fun A => va_Qv (fun (u : (Nat → Nat)) => (∀ j, u j < 65536) ∧ (∀ j, j < 16 → u j = kv_fig ga fr j) ∧ True) (kz_B (dC, dI) vwCl A (fun u : (Nat → Nat) => [(o, .inl (cI, 16, .inl (kz_dg u)))])) A) (cc := zc_N_figures) (maxL := 5) (ret := none) (by decide) rfl (Nat.le_of_ble_eq_true rfl) ?_
  intro p e s m below meth c A ls F hA hdy hK hro hZ hN hl
  obtain ⟨hx, hb, hml, hr, hown, hlocks, hts, hnm⟩ := id F
  have hl : lv_has ls 5 [(0, .ref a), (1, .int (nI (fr))), (2, .ref o)] := hl
  refine lv_iconst (v := (nI (0))) hx hb zd_N_figures_0 (by decide) ?_
  refine lv_istore_n (lv' := [(3, .int (nI (0))), (0, .ref a), (1, .int (nI (fr))), (2, .ref o)]) hx hb zd_N_figures_1 rfl hl (by decide) rfl (fun ls hl => ?_)
  have lp2 : ∀ (n2 k2 : Nat) (d1 : Nat → Nat) (H : Heap) (locs : List Loc) (ls : Array Slot), k2 ≤ 16 → 16 - k2 < n2 → (∀ j, d1 j < 65536) → (∀ j, j < k2 → d1 j = kv_fig ga fr j) → kz_dy (dC, dI) vwCl A s.heap H locs [(o, .inl (cI, 16, .inl (kz_dg d1)))] → lv_has ls 5 [(3, .int (nI (k2))), (0, .ref a), (1, .int (nI (fr))), (2, .ref o)] → W p l e { frames := 0, cells := 0, slots := 0, locals := 0 } s m ([.ref a, .int (nI (fr)), .ref o] : List Value).toArray below meth c H locs 0 0 (MQ below (va_Qv (fun (u : (Nat → Nat)) => (∀ j, u j < 65536) ∧ (∀ j, j < 16 → u j = kv_fig ga fr j) ∧ True) (kz_B (dC, dI) vwCl A (fun u : (Nat → Nat) => [(o, .inl (cI, 16, .inl (kz_dg u)))])) A) ([.ref a, .int (nI (fr)), .ref o] : List Value).toArray s 0 0 A) (F0 m 2 ls []) := by
    intro n2
    induction n2 with
    | zero => intro k2; intros; omega
    | succ n2 ih2 =>
      intro k2 d1 H locs ls hi2 hn2 hd_d1 hfi hdy hl
      refine lv_iload_n hx hb zd_N_figures_2 rfl (lv_at hl 0 rfl) ?_
      refine lv_bipush (v := (nI (16))) hx hb zd_N_figures_3 (by decide) ?_
      refine lv_icmp_ge (tgt := 48) hx hb zd_N_figures_5 (by decide) (fun hc5 => ?_) (fun hc5 => ?_)
      · have hc5 : 16 ≤ k2 := (nI_leI (by omega) (by omega)).mp hc5
        exact kz_vret F (d1) hdy (⟨hd_d1, by exact fun j hj => hfi j (by omega), trivial⟩) zd_N_figures_48
      · have hc5 : ¬ 16 ≤ k2 := fun h9 => hc5 ((nI_leI (by omega) (by omega)).mpr h9)
        refine lv_aload_n hx hb zd_N_figures_8 rfl (lv_at hl 1 rfl) ?_
        refine lv_iload_n hx hb zd_N_figures_9 rfl (lv_at hl 2 rfl) ?_
        refine lv_bipush (v := (nI (7))) hx hb zd_N_figures_10 (by decide) ?_
        refine kz_iadd hx hb zd_N_figures_12 (nI_add _ _) ?_
        refine lv_iload_n hx hb zd_N_figures_13 rfl (lv_at hl 0 rfl) ?_
        refine lv_iconst (v := (nI (2))) hx hb zd_N_figures_14 (by decide) ?_
        refine kz_idiv hx hb zd_N_figures_15 (by decide) (pk_div (by omega) (by omega) (by omega)) ?_
        refine kz_isub hx hb zd_N_figures_16 (pk_sub (by omega)) ?_
        refine kz_riald hx hb hK hro hdy.2.2 0 0 rfl rfl (vp_in_nI (by omega) (by omega)) zd_N_figures_17 ?_
        refine lv_topi (fun x2 h9 => ?_)
        obtain rfl : x2 = ga (fr + 7 - (k2 / 2)) := h9.trans (by rw [nI_clamp (by omega)])
        refine lv_istore (lv' := [(4, .int (ga (fr + 7 - (k2 / 2)))), (3, .int (nI (k2))), (0, .ref a), (1, .int (nI (fr))), (2, .ref o)]) hx hb zd_N_figures_18 hl (by decide) rfl (fun ls hl => ?_)
        refine lv_aload_n hx hb zd_N_figures_20 rfl (lv_at hl 4 rfl) ?_
        refine lv_iload_n hx hb zd_N_figures_21 rfl (lv_at hl 1 rfl) ?_
        refine lv_iload_n hx hb zd_N_figures_22 rfl (lv_at hl 1 rfl) ?_
        refine lv_iconst (v := (nI (2))) hx hb zd_N_figures_23 (by decide) ?_
        refine kz_irem hx hb zd_N_figures_24 (by decide) (pk_rem (by omega) (by omega) (by omega)) ?_
        refine lv_if_ne (tgt := 36) hx hb zd_N_figures_25 (by decide) (fun hc25 => ?_) (fun hc25 => ?_)
        · have hc25 : ¬ (k2 % 2) = 0 := fun h9 => hc25 (by have h8 := (nI_eq (by omega) (by omega)).mpr h9; rw [nI_0] at h8; exact h8)
          refine lv_iload hx hb zd_N_figures_36 (lv_at hl 0 rfl) ?_
          refine lv_bipush (v := (nI (16))) hx hb zd_N_figures_38 (by decide) ?_
          refine lv_iushr hx hb zd_N_figures_40 (kz_ushr16i (ga (fr + 7 - (k2 / 2)))) ?_
          have hu3 := kz_ult (ga (fr + 7 - (k2 / 2)))
          refine va_iast hx hb hK hdy.1 hdy.2.1 hdy.2.2 0 0 rfl rfl (vp_in_nI (by omega) (by omega)) zd_N_figures_41 (fun H locs hP hD hS => ?_)
          have h9 := kz_dgu d1 (k := k2) ((ga (fr + 7 - (k2 / 2))).toUInt32.toNat / 65536) (by omega)
          rw [h9] at hP hD
          obtain ⟨f4, ef4, hd_f4, hdy⟩ : ∃ f4 : Nat → Nat, f4 = kv_up d1 k2 ((ga (fr + 7 - (k2 / 2))).toUInt32.toNat / 65536) ∧ (∀ j, f4 j < 65536) ∧ kz_dy (dC, dI) vwCl A s.heap H locs [(o, .inl (cI, 16, .inl (kz_dg f4)))] := ⟨_, rfl, kv_up_lt hd_d1 (by omega), hP, hD, hS⟩
          refine lv_iinc (v := (nI (k2 + 1))) (lv' := [(3, .int (nI (k2 + 1))), (4, .int (ga (fr + 7 - (k2 / 2)))), (0, .ref a), (1, .int (nI (fr))), (2, .ref o)]) hx hb zd_N_figures_42 hl (k := 1) rfl (nI_1 _) (by decide) rfl (fun ls hl => ?_)
          refine lv_goto (tgt := 2) hx hb zd_N_figures_45 (by decide) ?_
          have hi9_hfi5 : ∀ j, j < k2 + 1 → f4 j = kv_fig ga fr j := by rw [ef4]; exact kv_fill hfi (by unfold kv_fig; first | rw [if_pos (by omega)] | rw [if_neg (by omega)])
          exact ih2 (k2 + 1) f4 _ _ _ (by omega) (by omega) hd_f4 hi9_hfi5 hdy (lv_sub hl [0, 2, 3, 4] rfl)
        · have hc25 : (k2 % 2) = 0 := (nI_eq (by omega) (by omega)).mp (by rw [nI_0]; exact hc25)
          refine lv_iload hx hb zd_N_figures_28 (lv_at hl 0 rfl) ?_
          refine lv_ldc (v := (nI (65535))) hx hb hown (hts _ (kz_c mw_693)) zd_N_figures_30 ?_
          refine lv_iand hx hb zd_N_figures_32 ?_
          have hu6 := kz_ult (ga (fr + 7 - (k2 / 2)))
          refine lv_topi (fun x7 h9 => ?_)
          obtain rfl : x7 = nI ((ga (fr + 7 - (k2 / 2))).toUInt32.toNat % 65536) := h9.trans (kz_and16i _)
          refine lv_goto (tgt := 41) hx hb zd_N_figures_33 (by decide) ?_
          refine va_iast hx hb hK hdy.1 hdy.2.1 hdy.2.2 0 0 rfl rfl (vp_in_nI (by omega) (by omega)) zd_N_figures_41 (fun H locs hP hD hS => ?_)
          have h9 := kz_dgu d1 (k := k2) ((ga (fr + 7 - (k2 / 2))).toUInt32.toNat % 65536) (by omega)
          rw [h9] at hP hD
          obtain ⟨f8, ef8, hd_f8, hdy⟩ : ∃ f8 : Nat → Nat, f8 = kv_up d1 k2 ((ga (fr + 7 - (k2 / 2))).toUInt32.toNat % 65536) ∧ (∀ j, f8 j < 65536) ∧ kz_dy (dC, dI) vwCl A s.heap H locs [(o, .inl (cI, 16, .inl (kz_dg f8)))] := ⟨_, rfl, kv_up_lt hd_d1 (by omega), hP, hD, hS⟩
          refine lv_iinc (v := (nI (k2 + 1))) (lv' := [(3, .int (nI (k2 + 1))), (4, .int (ga (fr + 7 - (k2 / 2)))), (0, .ref a), (1, .int (nI (fr))), (2, .ref o)]) hx hb zd_N_figures_42 hl (k := 1) rfl (nI_1 _) (by decide) rfl (fun ls hl => ?_)
          refine lv_goto (tgt := 2) hx hb zd_N_figures_45 (by decide) ?_
          have hi9_hfi9 : ∀ j, j < k2 + 1 → f8 j = kv_fig ga fr j := by rw [ef8]; exact kv_fill hfi (by unfold kv_fig; first | rw [if_pos (by omega)] | rw [if_neg (by omega)])
          exact ih2 (k2 + 1) f8 _ _ _ (by omega) (by omega) hd_f8 hi9_hfi9 hdy (lv_sub hl [0, 2, 3, 4] rfl)
  have hi9_hfi10 : ∀ j, j < 0 → go j = kv_fig ga fr j := by intro j hj; omega
  exact lp2 (16 - 0 + 1) 0 go _ _ _ (by omega) (by omega) hd_go hi9_hfi10 hdy (lv_sub hl [0, 1, 2, 3] rfl)

set_option maxHeartbeats 4000000 in
set_option maxRecDepth 100000 in
/-- KeyMeetingModel.words([I[II)V -/
theorem c_X_words32 (l : Launch) (dC : Nat → ClassId) (dI : Nat → Nat → Nat) (cI cAA cB cL : ClassId) (o d : Nat) (go : Nat → Int32) (gd : Nat → Nat) (at_ : Nat) (sz : Nat) (hd_gd : ∀ j, gd j < 65536) (hat : at_ + 7 < 32) : Met l zy_N_words zw_N_words { frames := 0, cells := 0, slots := 0, locals := 0 } (kz_Pc (dC, dI) vwCl [(cI, .int), (cAA, .array .int), (cB, .byte), (cL, .long)] [] [] [.ref d, .ref o, .int (nI (at_))] [(o, .inl (cI, 32, .inl go))] [(d, .inl (cI, 16, .inl (kz_dg gd)))] sz) (va_Qv (fun (u : (Nat → Int32)) => (∀ i, i < 8 → u (at_ + i) = nI (gd (15 - 2 * i) * 65536 + gd (14 - 2 * i))) ∧ (∀ j, (j < at_ ∨ at_ + 8 ≤ j) → u j = go j) ∧ True) (kz_B (dC, dI) vwCl (va_A [(o, .inl (cI, 32, .inl go))] sz) (fun u : (Nat → Int32) => [(o, .inl (cI, 32, .inl u))])) (va_A [(o, .inl (cI, 32, .inl go))] sz)) 0 0 (va_A [(o, .inl (cI, 32, .inl go))] sz) := by
  refine kz_met (y := zy_N_words) (ws := zw_N_words) (av := [.ref d, .ref o, .int (nI (at_))]) (sz := sz) (Qc := fun A => va_Qv (fun (u : (Nat → Int32)) => (∀ i, i < 8 → u (at_ + i) = nI (gd (15 - 2 * i) * 65536 + gd (14 - 2 * i))) ∧ (∀ j, (j < at_ ∨ at_ + 8 ≤ j) → u j = go j) ∧ True) (kz_B (dC, dI) vwCl A (fun u : (Nat → Int32) => [(o, .inl (cI, 32, .inl u))])) A) (cc := zc_N_words) (maxL := 4) (ret := none) (by decide) rfl (Nat.le_of_ble_eq_true rfl) ?_
  intro p e s m below meth c A ls F hA hdy hK hro hZ hN hl
  obtain ⟨hx, hb, hml, hr, hown, hlocks, hts, hnm⟩ := id F
  have hl : lv_has ls 4 [(0, .ref d), (1, .ref o), (2, .int (nI (at_)))] := hl
  refine lv_iconst (v := (nI (0))) hx hb zd_N_words_0 (by decide) ?_
  refine lv_istore_n (lv' := [(3, .int (nI (0))), (0, .ref d), (1, .ref o), (2, .int (nI (at_)))]) hx hb zd_N_words_1 rfl hl (by decide) rfl (fun ls hl => ?_)
  have lp2 : ∀ (n2 k2 : Nat) (f1 : Nat → Int32) (H : Heap) (locs : List Loc) (ls : Array Slot), k2 ≤ 8 → 8 - k2 < n2 → (∀ i, i < k2 → f1 (at_ + i) = nI (gd (15 - 2 * i) * 65536 + gd (14 - 2 * i))) → (∀ j, (j < at_ ∨ at_ + 8 ≤ j) → f1 j = go j) → kz_dy (dC, dI) vwCl A s.heap H locs [(o, .inl (cI, 32, .inl f1))] → lv_has ls 4 [(3, .int (nI (k2))), (0, .ref d), (1, .ref o), (2, .int (nI (at_)))] → W p l e { frames := 0, cells := 0, slots := 0, locals := 0 } s m ([.ref d, .ref o, .int (nI (at_))] : List Value).toArray below meth c H locs 0 0 (MQ below (va_Qv (fun (u : (Nat → Int32)) => (∀ i, i < 8 → u (at_ + i) = nI (gd (15 - 2 * i) * 65536 + gd (14 - 2 * i))) ∧ (∀ j, (j < at_ ∨ at_ + 8 ≤ j) → u j = go j) ∧ True) (kz_B (dC, dI) vwCl A (fun u : (Nat → Int32) => [(o, .inl (cI, 32, .inl u))])) A) ([.ref d, .ref o, .int (nI (at_))] : List Value).toArray s 0 0 A) (F0 m 2 ls []) := by
    intro n2
    induction n2 with
    | zero => intro k2; intros; omega
    | succ n2 ih2 =>
      intro k2 f1 H locs ls hi2 hn2 hwi hwk hdy hl
      refine lv_iload_n hx hb zd_N_words_2 rfl (lv_at hl 0 rfl) ?_
      refine lv_bipush (v := (nI (8))) hx hb zd_N_words_3 (by decide) ?_
      refine lv_icmp_ge (tgt := 39) hx hb zd_N_words_5 (by decide) (fun hc5 => ?_) (fun hc5 => ?_)
      · have hc5 : 8 ≤ k2 := (nI_leI (by omega) (by omega)).mp hc5
        exact kz_vret F (f1) hdy (⟨by exact fun i hi => hwi i (by omega), by exact hwk, trivial⟩) zd_N_words_39
      · have hc5 : ¬ 8 ≤ k2 := fun h9 => hc5 ((nI_leI (by omega) (by omega)).mpr h9)
        refine lv_aload_n hx hb zd_N_words_8 rfl (lv_at hl 2 rfl) ?_
        refine lv_iload_n hx hb zd_N_words_9 rfl (lv_at hl 3 rfl) ?_
        refine lv_iload_n hx hb zd_N_words_10 rfl (lv_at hl 0 rfl) ?_
        refine kz_iadd hx hb zd_N_words_11 (nI_add _ _) ?_
        refine lv_aload_n hx hb zd_N_words_12 rfl (lv_at hl 1 rfl) ?_
        refine lv_bipush (v := (nI (15))) hx hb zd_N_words_13 (by decide) ?_
        refine lv_iconst (v := (nI (2))) hx hb zd_N_words_15 (by decide) ?_
        refine lv_iload_n hx hb zd_N_words_16 rfl (lv_at hl 0 rfl) ?_
        refine kz_imul hx hb zd_N_words_17 (pk_mul _ _) ?_
        refine kz_isub hx hb zd_N_words_18 (pk_sub (by omega)) ?_
        refine kz_riald hx hb hK hro hdy.2.2 0 0 rfl rfl (vp_in_nI (by omega) (by omega)) zd_N_words_19 ?_
        refine lv_topi (fun x2 h9 => ?_)
        obtain rfl : x2 = nI (gd (15 - (2 * k2))) := h9.trans (kz_dgl gd (by omega))
        have hbx2 := hd_gd (15 - (2 * k2))
        refine lv_bipush (v := (nI (16))) hx hb zd_N_words_20 (by decide) ?_
        refine lv_ishl hx hb zd_N_words_22 ?_
        refine lv_topi (fun x3 h9 => ?_)
        obtain rfl : x3 = nI ((gd (15 - (2 * k2))) * 65536) := h9.trans (kz_shl16 _)
        refine lv_aload_n hx hb zd_N_words_23 rfl (lv_at hl 1 rfl) ?_
        refine lv_bipush (v := (nI (14))) hx hb zd_N_words_24 (by decide) ?_
        refine lv_iconst (v := (nI (2))) hx hb zd_N_words_26 (by decide) ?_
        refine lv_iload_n hx hb zd_N_words_27 rfl (lv_at hl 0 rfl) ?_
        refine kz_imul hx hb zd_N_words_28 (pk_mul _ _) ?_
        refine kz_isub hx hb zd_N_words_29 (pk_sub (by omega)) ?_
        refine kz_riald hx hb hK hro hdy.2.2 0 0 rfl rfl (vp_in_nI (by omega) (by omega)) zd_N_words_30 ?_
        refine lv_topi (fun x4 h9 => ?_)
        obtain rfl : x4 = nI (gd (14 - (2 * k2))) := h9.trans (kz_dgl gd (by omega))
        have hbx4 := hd_gd (14 - (2 * k2))
        refine lv_ior hx hb zd_N_words_31 ?_
        refine lv_topi (fun x5 h9 => ?_)
        obtain rfl : x5 = nI ((gd (15 - (2 * k2))) * 65536 + (gd (14 - (2 * k2)))) := h9.trans (kz_or16 (by omega))
        refine va_iast hx hb hK hdy.1 hdy.2.1 hdy.2.2 0 0 rfl rfl (vp_in_nI (by omega) (by omega)) zd_N_words_32 (fun H locs hP hD hS => ?_)
        rw [nI_clamp (by omega)] at hP hD
        obtain ⟨f6, ef6, hdy⟩ : ∃ f6 : Nat → Int32, f6 = upd f1 (at_ + k2) ((nI ((gd (15 - (2 * k2))) * 65536 + (gd (14 - (2 * k2)))))) ∧ kz_dy (dC, dI) vwCl A s.heap H locs [(o, .inl (cI, 32, .inl f6))] := ⟨_, rfl, hP, hD, hS⟩
        refine lv_iinc (v := (nI (k2 + 1))) (lv' := [(3, .int (nI (k2 + 1))), (0, .ref d), (1, .ref o), (2, .int (nI (at_)))]) hx hb zd_N_words_33 hl (k := 0) rfl (nI_1 _) (by decide) rfl (fun ls hl => ?_)
        refine lv_goto (tgt := 2) hx hb zd_N_words_36 (by decide) ?_
        have hi9_hwi7 : ∀ i, i < k2 + 1 → f6 (at_ + i) = nI (gd (15 - 2 * i) * 65536 + gd (14 - 2 * i)) := by rw [ef6]; exact kz_fillw (F := fun i => nI (gd (15 - 2 * i) * 65536 + gd (14 - 2 * i))) hwi rfl
        have hi9_hwk8 : ∀ j, (j < at_ ∨ at_ + 8 ≤ j) → f6 j = go j := by rw [ef6]; exact kz_keepw (by omega) hwk
        exact ih2 (k2 + 1) f6 _ _ _ (by omega) (by omega) hi9_hwi7 hi9_hwk8 hdy (lv_sub hl [0, 1, 2, 3] rfl)
  have hi9_hwi9 : ∀ i, i < 0 → go (at_ + i) = nI (gd (15 - 2 * i) * 65536 + gd (14 - 2 * i)) := by intro j hj; omega
  have hi9_hwk10 : ∀ j, (j < at_ ∨ at_ + 8 ≤ j) → go j = go j := by exact fun _ _ => rfl
  exact lp2 (8 - 0 + 1) 0 go _ _ _ (by omega) (by omega) hi9_hwi9 hi9_hwk10 hdy (lv_sub hl [0, 1, 2, 3] rfl)

set_option maxHeartbeats 4000000 in
set_option maxRecDepth 100000 in
/-- KeyMeetingModel.words([I[II)V -/
theorem c_X_words16 (l : Launch) (dC : Nat → ClassId) (dI : Nat → Nat → Nat) (cI cAA cB cL : ClassId) (o d : Nat) (go : Nat → Int32) (gd : Nat → Nat) (at_ : Nat) (sz : Nat) (hd_gd : ∀ j, gd j < 65536) (hat : at_ + 7 < 16) : Met l zy_N_words zw_N_words { frames := 0, cells := 0, slots := 0, locals := 0 } (kz_Pc (dC, dI) vwCl [(cI, .int), (cAA, .array .int), (cB, .byte), (cL, .long)] [] [] [.ref d, .ref o, .int (nI (at_))] [(o, .inl (cI, 16, .inl go))] [(d, .inl (cI, 16, .inl (kz_dg gd)))] sz) (va_Qv (fun (u : (Nat → Int32)) => (∀ i, i < 8 → u (at_ + i) = nI (gd (15 - 2 * i) * 65536 + gd (14 - 2 * i))) ∧ (∀ j, (j < at_ ∨ at_ + 8 ≤ j) → u j = go j) ∧ True) (kz_B (dC, dI) vwCl (va_A [(o, .inl (cI, 16, .inl go))] sz) (fun u : (Nat → Int32) => [(o, .inl (cI, 16, .inl u))])) (va_A [(o, .inl (cI, 16, .inl go))] sz)) 0 0 (va_A [(o, .inl (cI, 16, .inl go))] sz) := by
  refine kz_met (y := zy_N_words) (ws := zw_N_words) (av := [.ref d, .ref o, .int (nI (at_))]) (sz := sz) (Qc := fun A => va_Qv (fun (u : (Nat → Int32)) => (∀ i, i < 8 → u (at_ + i) = nI (gd (15 - 2 * i) * 65536 + gd (14 - 2 * i))) ∧ (∀ j, (j < at_ ∨ at_ + 8 ≤ j) → u j = go j) ∧ True) (kz_B (dC, dI) vwCl A (fun u : (Nat → Int32) => [(o, .inl (cI, 16, .inl u))])) A) (cc := zc_N_words) (maxL := 4) (ret := none) (by decide) rfl (Nat.le_of_ble_eq_true rfl) ?_
  intro p e s m below meth c A ls F hA hdy hK hro hZ hN hl
  obtain ⟨hx, hb, hml, hr, hown, hlocks, hts, hnm⟩ := id F
  have hl : lv_has ls 4 [(0, .ref d), (1, .ref o), (2, .int (nI (at_)))] := hl
  refine lv_iconst (v := (nI (0))) hx hb zd_N_words_0 (by decide) ?_
  refine lv_istore_n (lv' := [(3, .int (nI (0))), (0, .ref d), (1, .ref o), (2, .int (nI (at_)))]) hx hb zd_N_words_1 rfl hl (by decide) rfl (fun ls hl => ?_)
  have lp2 : ∀ (n2 k2 : Nat) (f1 : Nat → Int32) (H : Heap) (locs : List Loc) (ls : Array Slot), k2 ≤ 8 → 8 - k2 < n2 → (∀ i, i < k2 → f1 (at_ + i) = nI (gd (15 - 2 * i) * 65536 + gd (14 - 2 * i))) → (∀ j, (j < at_ ∨ at_ + 8 ≤ j) → f1 j = go j) → kz_dy (dC, dI) vwCl A s.heap H locs [(o, .inl (cI, 16, .inl f1))] → lv_has ls 4 [(3, .int (nI (k2))), (0, .ref d), (1, .ref o), (2, .int (nI (at_)))] → W p l e { frames := 0, cells := 0, slots := 0, locals := 0 } s m ([.ref d, .ref o, .int (nI (at_))] : List Value).toArray below meth c H locs 0 0 (MQ below (va_Qv (fun (u : (Nat → Int32)) => (∀ i, i < 8 → u (at_ + i) = nI (gd (15 - 2 * i) * 65536 + gd (14 - 2 * i))) ∧ (∀ j, (j < at_ ∨ at_ + 8 ≤ j) → u j = go j) ∧ True) (kz_B (dC, dI) vwCl A (fun u : (Nat → Int32) => [(o, .inl (cI, 16, .inl u))])) A) ([.ref d, .ref o, .int (nI (at_))] : List Value).toArray s 0 0 A) (F0 m 2 ls []) := by
    intro n2
    induction n2 with
    | zero => intro k2; intros; omega
    | succ n2 ih2 =>
      intro k2 f1 H locs ls hi2 hn2 hwi hwk hdy hl
      refine lv_iload_n hx hb zd_N_words_2 rfl (lv_at hl 0 rfl) ?_
      refine lv_bipush (v := (nI (8))) hx hb zd_N_words_3 (by decide) ?_
      refine lv_icmp_ge (tgt := 39) hx hb zd_N_words_5 (by decide) (fun hc5 => ?_) (fun hc5 => ?_)
      · have hc5 : 8 ≤ k2 := (nI_leI (by omega) (by omega)).mp hc5
        exact kz_vret F (f1) hdy (⟨by exact fun i hi => hwi i (by omega), by exact hwk, trivial⟩) zd_N_words_39
      · have hc5 : ¬ 8 ≤ k2 := fun h9 => hc5 ((nI_leI (by omega) (by omega)).mpr h9)
        refine lv_aload_n hx hb zd_N_words_8 rfl (lv_at hl 2 rfl) ?_
        refine lv_iload_n hx hb zd_N_words_9 rfl (lv_at hl 3 rfl) ?_
        refine lv_iload_n hx hb zd_N_words_10 rfl (lv_at hl 0 rfl) ?_
        refine kz_iadd hx hb zd_N_words_11 (nI_add _ _) ?_
        refine lv_aload_n hx hb zd_N_words_12 rfl (lv_at hl 1 rfl) ?_
        refine lv_bipush (v := (nI (15))) hx hb zd_N_words_13 (by decide) ?_
        refine lv_iconst (v := (nI (2))) hx hb zd_N_words_15 (by decide) ?_
        refine lv_iload_n hx hb zd_N_words_16 rfl (lv_at hl 0 rfl) ?_
        refine kz_imul hx hb zd_N_words_17 (pk_mul _ _) ?_
        refine kz_isub hx hb zd_N_words_18 (pk_sub (by omega)) ?_
        refine kz_riald hx hb hK hro hdy.2.2 0 0 rfl rfl (vp_in_nI (by omega) (by omega)) zd_N_words_19 ?_
        refine lv_topi (fun x2 h9 => ?_)
        obtain rfl : x2 = nI (gd (15 - (2 * k2))) := h9.trans (kz_dgl gd (by omega))
        have hbx2 := hd_gd (15 - (2 * k2))
        refine lv_bipush (v := (nI (16))) hx hb zd_N_words_20 (by decide) ?_
        refine lv_ishl hx hb zd_N_words_22 ?_
        refine lv_topi (fun x3 h9 => ?_)
        obtain rfl : x3 = nI ((gd (15 - (2 * k2))) * 65536) := h9.trans (kz_shl16 _)
        refine lv_aload_n hx hb zd_N_words_23 rfl (lv_at hl 1 rfl) ?_
        refine lv_bipush (v := (nI (14))) hx hb zd_N_words_24 (by decide) ?_
        refine lv_iconst (v := (nI (2))) hx hb zd_N_words_26 (by decide) ?_
        refine lv_iload_n hx hb zd_N_words_27 rfl (lv_at hl 0 rfl) ?_
        refine kz_imul hx hb zd_N_words_28 (pk_mul _ _) ?_
        refine kz_isub hx hb zd_N_words_29 (pk_sub (by omega)) ?_
        refine kz_riald hx hb hK hro hdy.2.2 0 0 rfl rfl (vp_in_nI (by omega) (by omega)) zd_N_words_30 ?_
        refine lv_topi (fun x4 h9 => ?_)
        obtain rfl : x4 = nI (gd (14 - (2 * k2))) := h9.trans (kz_dgl gd (by omega))
        have hbx4 := hd_gd (14 - (2 * k2))
        refine lv_ior hx hb zd_N_words_31 ?_
        refine lv_topi (fun x5 h9 => ?_)
        obtain rfl : x5 = nI ((gd (15 - (2 * k2))) * 65536 + (gd (14 - (2 * k2)))) := h9.trans (kz_or16 (by omega))
        refine va_iast hx hb hK hdy.1 hdy.2.1 hdy.2.2 0 0 rfl rfl (vp_in_nI (by omega) (by omega)) zd_N_words_32 (fun H locs hP hD hS => ?_)
        rw [nI_clamp (by omega)] at hP hD
        obtain ⟨f6, ef6, hdy⟩ : ∃ f6 : Nat → Int32, f6 = upd f1 (at_ + k2) ((nI ((gd (15 - (2 * k2))) * 65536 + (gd (14 - (2 * k2)))))) ∧ kz_dy (dC, dI) vwCl A s.heap H locs [(o, .inl (cI, 16, .inl f6))] := ⟨_, rfl, hP, hD, hS⟩
        refine lv_iinc (v := (nI (k2 + 1))) (lv' := [(3, .int (nI (k2 + 1))), (0, .ref d), (1, .ref o), (2, .int (nI (at_)))]) hx hb zd_N_words_33 hl (k := 0) rfl (nI_1 _) (by decide) rfl (fun ls hl => ?_)
        refine lv_goto (tgt := 2) hx hb zd_N_words_36 (by decide) ?_
        have hi9_hwi7 : ∀ i, i < k2 + 1 → f6 (at_ + i) = nI (gd (15 - 2 * i) * 65536 + gd (14 - 2 * i)) := by rw [ef6]; exact kz_fillw (F := fun i => nI (gd (15 - 2 * i) * 65536 + gd (14 - 2 * i))) hwi rfl
        have hi9_hwk8 : ∀ j, (j < at_ ∨ at_ + 8 ≤ j) → f6 j = go j := by rw [ef6]; exact kz_keepw (by omega) hwk
        exact ih2 (k2 + 1) f6 _ _ _ (by omega) (by omega) hi9_hwi7 hi9_hwk8 hdy (lv_sub hl [0, 1, 2, 3] rfl)
  have hi9_hwi9 : ∀ i, i < 0 → go (at_ + i) = nI (gd (15 - 2 * i) * 65536 + gd (14 - 2 * i)) := by intro j hj; omega
  have hi9_hwk10 : ∀ j, (j < at_ ∨ at_ + 8 ≤ j) → go j = go j := by exact fun _ _ => rfl
  exact lp2 (8 - 0 + 1) 0 go _ _ _ (by omega) (by omega) hi9_hwi9 hi9_hwk10 hdy (lv_sub hl [0, 1, 2, 3] rfl)

set_option maxHeartbeats 4000000 in
set_option maxRecDepth 100000 in
/-- KeyMeetingModel.copy([I[I)V -/
theorem c_X_copy (l : Launch) (dC : Nat → ClassId) (dI : Nat → Nat → Nat) (cI cAA cB cL : ClassId) (o a : Nat) (go : Nat → Nat) (ga : Nat → Nat) (sz : Nat) (hd_go : ∀ j, go j < 65536) (hd_ga : ∀ j, ga j < 65536) : Met l zy_N_copy zw_N_copy { frames := 0, cells := 0, slots := 0, locals := 0 } (kz_Pc (dC, dI) vwCl [(cI, .int), (cAA, .array .int), (cB, .byte), (cL, .long)] [] [] [.ref a, .ref o] [(o, .inl (cI, 16, .inl (kz_dg go)))] [(a, .inl (cI, 16, .inl (kz_dg ga)))] sz) (va_Qv (fun (u : (Nat → Nat)) => (∀ j, u j < 65536) ∧ (∀ j, j < 16 → u j = ga j) ∧ True) (kz_B (dC, dI) vwCl (va_A [(o, .inl (cI, 16, .inl (kz_dg go)))] sz) (fun u : (Nat → Nat) => [(o, .inl (cI, 16, .inl (kz_dg u)))])) (va_A [(o, .inl (cI, 16, .inl (kz_dg go)))] sz)) 0 0 (va_A [(o, .inl (cI, 16, .inl (kz_dg go)))] sz) := by
  refine kz_met (y := zy_N_copy) (ws := zw_N_copy) (av := [.ref a, .ref o]) (sz := sz) (Qc := fun A => va_Qv (fun (u : (Nat → Nat)) => (∀ j, u j < 65536) ∧ (∀ j, j < 16 → u j = ga j) ∧ True) (kz_B (dC, dI) vwCl A (fun u : (Nat → Nat) => [(o, .inl (cI, 16, .inl (kz_dg u)))])) A) (cc := zc_N_copy) (maxL := 3) (ret := none) (by decide) rfl (Nat.le_of_ble_eq_true rfl) ?_
  intro p e s m below meth c A ls F hA hdy hK hro hZ hN hl
  obtain ⟨hx, hb, hml, hr, hown, hlocks, hts, hnm⟩ := id F
  have hl : lv_has ls 3 [(0, .ref a), (1, .ref o)] := hl
  refine lv_iconst (v := (nI (0))) hx hb zd_N_copy_0 (by decide) ?_
  refine lv_istore_n (lv' := [(2, .int (nI (0))), (0, .ref a), (1, .ref o)]) hx hb zd_N_copy_1 rfl hl (by decide) rfl (fun ls hl => ?_)
  have lp2 : ∀ (n2 k2 : Nat) (d1 : Nat → Nat) (H : Heap) (locs : List Loc) (ls : Array Slot), k2 ≤ 16 → 16 - k2 < n2 → (∀ j, d1 j < 65536) → (∀ j, j < k2 → d1 j = ga j) → kz_dy (dC, dI) vwCl A s.heap H locs [(o, .inl (cI, 16, .inl (kz_dg d1)))] → lv_has ls 3 [(2, .int (nI (k2))), (0, .ref a), (1, .ref o)] → W p l e { frames := 0, cells := 0, slots := 0, locals := 0 } s m ([.ref a, .ref o] : List Value).toArray below meth c H locs 0 0 (MQ below (va_Qv (fun (u : (Nat → Nat)) => (∀ j, u j < 65536) ∧ (∀ j, j < 16 → u j = ga j) ∧ True) (kz_B (dC, dI) vwCl A (fun u : (Nat → Nat) => [(o, .inl (cI, 16, .inl (kz_dg u)))])) A) ([.ref a, .ref o] : List Value).toArray s 0 0 A) (F0 m 2 ls []) := by
    intro n2
    induction n2 with
    | zero => intro k2; intros; omega
    | succ n2 ih2 =>
      intro k2 d1 H locs ls hi2 hn2 hd_d1 hfi hdy hl
      refine lv_iload_n hx hb zd_N_copy_2 rfl (lv_at hl 0 rfl) ?_
      refine lv_bipush (v := (nI (16))) hx hb zd_N_copy_3 (by decide) ?_
      refine lv_icmp_ge (tgt := 20) hx hb zd_N_copy_5 (by decide) (fun hc5 => ?_) (fun hc5 => ?_)
      · have hc5 : 16 ≤ k2 := (nI_leI (by omega) (by omega)).mp hc5
        exact kz_vret F (d1) hdy (⟨hd_d1, by exact fun j hj => hfi j (by omega), trivial⟩) zd_N_copy_20
      · have hc5 : ¬ 16 ≤ k2 := fun h9 => hc5 ((nI_leI (by omega) (by omega)).mpr h9)
        refine lv_aload_n hx hb zd_N_copy_8 rfl (lv_at hl 2 rfl) ?_
        refine lv_iload_n hx hb zd_N_copy_9 rfl (lv_at hl 0 rfl) ?_
        refine lv_aload_n hx hb zd_N_copy_10 rfl (lv_at hl 1 rfl) ?_
        refine lv_iload_n hx hb zd_N_copy_11 rfl (lv_at hl 0 rfl) ?_
        refine kz_riald hx hb hK hro hdy.2.2 0 0 rfl rfl (vp_in_nI (by omega) (by omega)) zd_N_copy_12 ?_
        refine lv_topi (fun x2 h9 => ?_)
        obtain rfl : x2 = nI (ga k2) := h9.trans (kz_dgl ga (by omega))
        have hbx2 := hd_ga k2
        refine va_iast hx hb hK hdy.1 hdy.2.1 hdy.2.2 0 0 rfl rfl (vp_in_nI (by omega) (by omega)) zd_N_copy_13 (fun H locs hP hD hS => ?_)
        have h9 := kz_dgu d1 (k := k2) (ga k2) (by omega)
        rw [h9] at hP hD
        obtain ⟨f3, ef3, hd_f3, hdy⟩ : ∃ f3 : Nat → Nat, f3 = kv_up d1 k2 (ga k2) ∧ (∀ j, f3 j < 65536) ∧ kz_dy (dC, dI) vwCl A s.heap H locs [(o, .inl (cI, 16, .inl (kz_dg f3)))] := ⟨_, rfl, kv_up_lt hd_d1 (by omega), hP, hD, hS⟩
        refine lv_iinc (v := (nI (k2 + 1))) (lv' := [(2, .int (nI (k2 + 1))), (0, .ref a), (1, .ref o)]) hx hb zd_N_copy_14 hl (k := 0) rfl (nI_1 _) (by decide) rfl (fun ls hl => ?_)
        refine lv_goto (tgt := 2) hx hb zd_N_copy_17 (by decide) ?_
        have hi9_hfi4 : ∀ j, j < k2 + 1 → f3 j = ga j := by rw [ef3]; exact kv_fill hfi rfl
        exact ih2 (k2 + 1) f3 _ _ _ (by omega) (by omega) hd_f3 hi9_hfi4 hdy (lv_sub hl [0, 1, 2] rfl)
  have hi9_hfi5 : ∀ j, j < 0 → go j = ga j := by intro j hj; omega
  exact lp2 (16 - 0 + 1) 0 go _ _ _ (by omega) (by omega) hd_go hi9_hfi5 hdy (lv_sub hl [0, 1, 2] rfl)

set_option maxHeartbeats 4000000 in
set_option maxRecDepth 100000 in
/-- KeyMeetingModel.copy([I[I)V -/
theorem c_X_copy18 (l : Launch) (dC : Nat → ClassId) (dI : Nat → Nat → Nat) (cI cAA cB cL : ClassId) (o a : Nat) (go : Nat → Int32) (ga : Nat → Int32) (sz : Nat) : Met l zy_N_copy zw_N_copy { frames := 0, cells := 0, slots := 0, locals := 0 } (kz_Pc (dC, dI) vwCl [(cI, .int), (cAA, .array .int), (cB, .byte), (cL, .long)] [] [] [.ref a, .ref o] [(o, .inl (cI, 16, .inl go))] [(a, .inl (cI, 18, .inl ga))] sz) (va_Qv (fun _ => True) (kz_B (dC, dI) vwCl (va_A [(o, .inl (cI, 16, .inl go))] sz) (fun u : (Nat → Int32) => [(o, .inl (cI, 16, .inl u))])) (va_A [(o, .inl (cI, 16, .inl go))] sz)) 0 0 (va_A [(o, .inl (cI, 16, .inl go))] sz) := by
  refine kz_met (y := zy_N_copy) (ws := zw_N_copy) (av := [.ref a, .ref o]) (sz := sz) (Qc := fun A => va_Qv (fun _ => True) (kz_B (dC, dI) vwCl A (fun u : (Nat → Int32) => [(o, .inl (cI, 16, .inl u))])) A) (cc := zc_N_copy) (maxL := 3) (ret := none) (by decide) rfl (Nat.le_of_ble_eq_true rfl) ?_
  intro p e s m below meth c A ls F hA hdy hK hro hZ hN hl
  obtain ⟨hx, hb, hml, hr, hown, hlocks, hts, hnm⟩ := id F
  have hl : lv_has ls 3 [(0, .ref a), (1, .ref o)] := hl
  refine lv_iconst (v := (nI (0))) hx hb zd_N_copy_0 (by decide) ?_
  refine lv_istore_n (lv' := [(2, .int (nI (0))), (0, .ref a), (1, .ref o)]) hx hb zd_N_copy_1 rfl hl (by decide) rfl (fun ls hl => ?_)
  have lp2 : ∀ (n2 k2 : Nat) (f1 : Nat → Int32) (H : Heap) (locs : List Loc) (ls : Array Slot), k2 ≤ 16 → 16 - k2 < n2 → kz_dy (dC, dI) vwCl A s.heap H locs [(o, .inl (cI, 16, .inl f1))] → lv_has ls 3 [(2, .int (nI (k2))), (0, .ref a), (1, .ref o)] → W p l e { frames := 0, cells := 0, slots := 0, locals := 0 } s m ([.ref a, .ref o] : List Value).toArray below meth c H locs 0 0 (MQ below (va_Qv (fun _ => True) (kz_B (dC, dI) vwCl A (fun u : (Nat → Int32) => [(o, .inl (cI, 16, .inl u))])) A) ([.ref a, .ref o] : List Value).toArray s 0 0 A) (F0 m 2 ls []) := by
    intro n2
    induction n2 with
    | zero => intro k2; intros; omega
    | succ n2 ih2 =>
      intro k2 f1 H locs ls hi2 hn2 hdy hl
      refine lv_iload_n hx hb zd_N_copy_2 rfl (lv_at hl 0 rfl) ?_
      refine lv_bipush (v := (nI (16))) hx hb zd_N_copy_3 (by decide) ?_
      refine lv_icmp_ge (tgt := 20) hx hb zd_N_copy_5 (by decide) (fun hc5 => ?_) (fun hc5 => ?_)
      · have hc5 : 16 ≤ k2 := (nI_leI (by omega) (by omega)).mp hc5
        exact kz_vret F (f1) hdy (trivial) zd_N_copy_20
      · have hc5 : ¬ 16 ≤ k2 := fun h9 => hc5 ((nI_leI (by omega) (by omega)).mpr h9)
        refine lv_aload_n hx hb zd_N_copy_8 rfl (lv_at hl 2 rfl) ?_
        refine lv_iload_n hx hb zd_N_copy_9 rfl (lv_at hl 0 rfl) ?_
        refine lv_aload_n hx hb zd_N_copy_10 rfl (lv_at hl 1 rfl) ?_
        refine lv_iload_n hx hb zd_N_copy_11 rfl (lv_at hl 0 rfl) ?_
        refine kz_riald hx hb hK hro hdy.2.2 0 0 rfl rfl (vp_in_nI (by omega) (by omega)) zd_N_copy_12 ?_
        refine lv_topi (fun x2 _ => ?_)
        refine va_iast hx hb hK hdy.1 hdy.2.1 hdy.2.2 0 0 rfl rfl (vp_in_nI (by omega) (by omega)) zd_N_copy_13 (fun H locs hP hD hS => ?_)
        obtain ⟨f3, hdy⟩ : ∃ f3 : Nat → Int32, kz_dy (dC, dI) vwCl A s.heap H locs [(o, .inl (cI, 16, .inl f3))] := ⟨_, hP, hD, hS⟩
        refine lv_iinc (v := (nI (k2 + 1))) (lv' := [(2, .int (nI (k2 + 1))), (0, .ref a), (1, .ref o)]) hx hb zd_N_copy_14 hl (k := 0) rfl (nI_1 _) (by decide) rfl (fun ls hl => ?_)
        refine lv_goto (tgt := 2) hx hb zd_N_copy_17 (by decide) ?_
        exact ih2 (k2 + 1) f3 _ _ _ (by omega) (by omega) hdy (lv_sub hl [0, 1, 2] rfl)
  exact lp2 (16 - 0 + 1) 0 go _ _ _ (by omega) (by omega) hdy (lv_sub hl [0, 1, 2] rfl)

set_option maxHeartbeats 4000000 in
set_option maxRecDepth 100000 in
/-- KeyMeetingModel.compare([I[I)I -/
theorem c_X_compare16 (l : Launch) (dC : Nat → ClassId) (dI : Nat → Nat → Nat) (cI cAA cB cL : ClassId) (a b : Nat) (ga : Nat → Nat) (gb : Nat → Nat) (sz : Nat) (hd_ga : ∀ j, ga j < 65536) (hd_gb : ∀ j, gb j < 65536) : Met l zy_N_compare zw_N_compare { frames := 0, cells := 0, slots := 0, locals := 0 } (kz_Pc (dC, dI) vwCl [(cI, .int), (cAA, .array .int), (cB, .byte), (cL, .long)] [] [] [.ref a, .ref b] [] [(a, .inl (cI, 16, .inl (kz_dg ga))), (b, .inl (cI, 16, .inl (kz_dg gb)))] sz) (va_Qi (fun (r : Int32) (u : Unit) => (r < 0 → kv_some gb 0 16) ∧ True) (kz_B (dC, dI) vwCl (va_A [] sz) (fun u : Unit => [])) (va_A [] sz)) 0 0 (va_A [] sz) := by
  refine kz_met (y := zy_N_compare) (ws := zw_N_compare) (av := [.ref a, .ref b]) (sz := sz) (Qc := fun A => va_Qi (fun (r : Int32) (u : Unit) => (r < 0 → kv_some gb 0 16) ∧ True) (kz_B (dC, dI) vwCl A (fun u : Unit => [])) A) (cc := zc_N_compare) (maxL := 3) (ret := some .int) (by decide) rfl (Nat.le_of_ble_eq_true rfl) ?_
  intro p e s m below meth c A ls F hA hdy hK hro hZ hN hl
  obtain ⟨hx, hb, hml, hr, hown, hlocks, hts, hnm⟩ := id F
  have hl : lv_has ls 3 [(0, .ref a), (1, .ref b)] := hl
  refine lv_bipush (v := (nI (15))) hx hb zd_N_compare_0 (by decide) ?_
  refine lv_istore_n (lv' := [(2, .int (nI (15))), (0, .ref a), (1, .ref b)]) hx hb zd_N_compare_2 rfl hl (by decide) rfl (fun ls hl => ?_)
  have lp3 : ∀ (k3 : Nat) (H : Heap) (locs : List Loc) (ls : Array Slot), k3 ≤ 16 → kz_dy (dC, dI) vwCl A s.heap H locs [] → lv_has ls 3 [(2, .int (nI k3 - 1)), (0, .ref a), (1, .ref b)] → W p l e { frames := 0, cells := 0, slots := 0, locals := 0 } s m ([.ref a, .ref b] : List Value).toArray below meth c H locs 0 0 (MQ below (va_Qi (fun (r : Int32) (u : Unit) => (r < 0 → kv_some gb 0 16) ∧ True) (kz_B (dC, dI) vwCl A (fun u : Unit => [])) A) ([.ref a, .ref b] : List Value).toArray s 0 0 A) (F0 m 3 ls []) := by
    intro k3
    induction k3 with
    | zero =>
      intro H locs ls hi3 hdy hl
      refine lv_iload_n hx hb zd_N_compare_3 rfl (lv_at hl 0 rfl) ?_
      refine lv_if_lt (tgt := 37) hx hb zd_N_compare_4 (by decide) (fun hc4 => ?_) (fun hc4 => ?_)
      · refine lv_iconst (v := (nI (0))) hx hb zd_N_compare_37 (by decide) ?_
        exact kz_iret F () hdy (⟨by first | (intro h9; exact absurd h9 (by decide)) | (intro h9; exact ⟨k3, by omega, by omega, by omega⟩), trivial⟩) zd_N_compare_38
      · exact absurd (by decide) hc4
    | succ k3 ih3 =>
      intro H locs ls hi3 hdy hl
      rw [nI_pred] at hl
      refine lv_iload_n hx hb zd_N_compare_3 rfl (lv_at hl 0 rfl) ?_
      refine lv_if_lt (tgt := 37) hx hb zd_N_compare_4 (by decide) (fun hc4 => ?_) (fun hc4 => ?_)
      · exact absurd hc4 (nI_pos (by omega))
      · refine lv_aload_n hx hb zd_N_compare_7 rfl (lv_at hl 1 rfl) ?_
        refine lv_iload_n hx hb zd_N_compare_8 rfl (lv_at hl 0 rfl) ?_
        refine kz_riald hx hb hK hro hdy.2.2 0 0 rfl rfl (vp_in_nI (by omega) (by omega)) zd_N_compare_9 ?_
        refine lv_topi (fun x1 h9 => ?_)
        obtain rfl : x1 = nI (ga k3) := h9.trans (kz_dgl ga (by omega))
        have hbx1 := hd_ga k3
        refine lv_aload_n hx hb zd_N_compare_10 rfl (lv_at hl 2 rfl) ?_
        refine lv_iload_n hx hb zd_N_compare_11 rfl (lv_at hl 0 rfl) ?_
        refine kz_riald hx hb hK hro hdy.2.2 1 0 rfl rfl (vp_in_nI (by omega) (by omega)) zd_N_compare_12 ?_
        refine lv_topi (fun x2 h9 => ?_)
        obtain rfl : x2 = nI (gb k3) := h9.trans (kz_dgl gb (by omega))
        have hbx2 := hd_gb k3
        refine lv_icmp_eq (tgt := 31) hx hb zd_N_compare_13 (by decide) (fun hc13 => ?_) (fun hc13 => ?_)
        · have hc13 : (ga k3) = (gb k3) := (nI_eq (by omega) (by omega)).mp hc13
          refine lv_iinc (v := (nI (k3) - 1)) (lv' := [(2, .int (nI (k3) - 1)), (0, .ref a), (1, .ref b)]) hx hb zd_N_compare_31 hl (k := 0) rfl (kz_m1 _) (by decide) rfl (fun ls hl => ?_)
          refine lv_goto (tgt := 3) hx hb zd_N_compare_34 (by decide) ?_
          exact ih3 _ _ _ (by omega) hdy (lv_sub hl [0, 1, 2] rfl)
        · have hc13 : ¬ (ga k3) = (gb k3) := fun h9 => hc13 ((nI_eq (by omega) (by omega)).mpr h9)
          refine lv_aload_n hx hb zd_N_compare_16 rfl (lv_at hl 1 rfl) ?_
          refine lv_iload_n hx hb zd_N_compare_17 rfl (lv_at hl 0 rfl) ?_
          refine kz_riald hx hb hK hro hdy.2.2 0 0 rfl rfl (vp_in_nI (by omega) (by omega)) zd_N_compare_18 ?_
          refine lv_topi (fun x3 h9 => ?_)
          obtain rfl : x3 = nI (ga k3) := h9.trans (kz_dgl ga (by omega))
          have hbx3 := hd_ga k3
          refine lv_aload_n hx hb zd_N_compare_19 rfl (lv_at hl 2 rfl) ?_
          refine lv_iload_n hx hb zd_N_compare_20 rfl (lv_at hl 0 rfl) ?_
          refine kz_riald hx hb hK hro hdy.2.2 1 0 rfl rfl (vp_in_nI (by omega) (by omega)) zd_N_compare_21 ?_
          refine lv_topi (fun x4 h9 => ?_)
          obtain rfl : x4 = nI (gb k3) := h9.trans (kz_dgl gb (by omega))
          have hbx4 := hd_gb k3
          refine lv_icmp_ge (tgt := 29) hx hb zd_N_compare_22 (by decide) (fun hc22 => ?_) (fun hc22 => ?_)
          · have hc22 : (gb k3) ≤ (ga k3) := (nI_leI (by omega) (by omega)).mp hc22
            refine lv_iconst (v := (nI (1))) hx hb zd_N_compare_29 (by decide) ?_
            exact kz_iret F () hdy (⟨by first | (intro h9; exact absurd h9 (by decide)) | (intro h9; exact ⟨k3, by omega, by omega, by omega⟩), trivial⟩) zd_N_compare_30
          · have hc22 : ¬ (gb k3) ≤ (ga k3) := fun h9 => hc22 ((nI_leI (by omega) (by omega)).mpr h9)
            refine lv_iconst (v := (-1)) hx hb zd_N_compare_25 (by decide) ?_
            refine lv_goto (tgt := 30) hx hb zd_N_compare_26 (by decide) ?_
            exact kz_iret F () hdy (⟨by first | (intro h9; exact absurd h9 (by decide)) | (intro h9; exact ⟨k3, by omega, by omega, by omega⟩), trivial⟩) zd_N_compare_30
  exact lp3 16 _ _ _ (by omega) hdy (lv_sub hl [0, 1, 2] rfl)

set_option maxHeartbeats 4000000 in
set_option maxRecDepth 100000 in
/-- KeyMeetingModel.compare([I[I)I -/
theorem c_X_compare18 (l : Launch) (dC : Nat → ClassId) (dI : Nat → Nat → Nat) (cI cAA cB cL : ClassId) (a b : Nat) (ga : Nat → Nat) (gb : Nat → Nat) (sz : Nat) (hd_ga : ∀ j, ga j < 65536) (hd_gb : ∀ j, gb j < 65536) : Met l zy_N_compare zw_N_compare { frames := 0, cells := 0, slots := 0, locals := 0 } (kz_Pc (dC, dI) vwCl [(cI, .int), (cAA, .array .int), (cB, .byte), (cL, .long)] [] [] [.ref a, .ref b] [] [(a, .inl (cI, 18, .inl (kz_dg ga))), (b, .inl (cI, 16, .inl (kz_dg gb)))] sz) (va_Qi (fun (r : Int32) (u : Unit) => (r < 0 → kv_some gb 0 16) ∧ True) (kz_B (dC, dI) vwCl (va_A [] sz) (fun u : Unit => [])) (va_A [] sz)) 0 0 (va_A [] sz) := by
  refine kz_met (y := zy_N_compare) (ws := zw_N_compare) (av := [.ref a, .ref b]) (sz := sz) (Qc := fun A => va_Qi (fun (r : Int32) (u : Unit) => (r < 0 → kv_some gb 0 16) ∧ True) (kz_B (dC, dI) vwCl A (fun u : Unit => [])) A) (cc := zc_N_compare) (maxL := 3) (ret := some .int) (by decide) rfl (Nat.le_of_ble_eq_true rfl) ?_
  intro p e s m below meth c A ls F hA hdy hK hro hZ hN hl
  obtain ⟨hx, hb, hml, hr, hown, hlocks, hts, hnm⟩ := id F
  have hl : lv_has ls 3 [(0, .ref a), (1, .ref b)] := hl
  refine lv_bipush (v := (nI (15))) hx hb zd_N_compare_0 (by decide) ?_
  refine lv_istore_n (lv' := [(2, .int (nI (15))), (0, .ref a), (1, .ref b)]) hx hb zd_N_compare_2 rfl hl (by decide) rfl (fun ls hl => ?_)
  have lp3 : ∀ (k3 : Nat) (H : Heap) (locs : List Loc) (ls : Array Slot), k3 ≤ 16 → kz_dy (dC, dI) vwCl A s.heap H locs [] → lv_has ls 3 [(2, .int (nI k3 - 1)), (0, .ref a), (1, .ref b)] → W p l e { frames := 0, cells := 0, slots := 0, locals := 0 } s m ([.ref a, .ref b] : List Value).toArray below meth c H locs 0 0 (MQ below (va_Qi (fun (r : Int32) (u : Unit) => (r < 0 → kv_some gb 0 16) ∧ True) (kz_B (dC, dI) vwCl A (fun u : Unit => [])) A) ([.ref a, .ref b] : List Value).toArray s 0 0 A) (F0 m 3 ls []) := by
    intro k3
    induction k3 with
    | zero =>
      intro H locs ls hi3 hdy hl
      refine lv_iload_n hx hb zd_N_compare_3 rfl (lv_at hl 0 rfl) ?_
      refine lv_if_lt (tgt := 37) hx hb zd_N_compare_4 (by decide) (fun hc4 => ?_) (fun hc4 => ?_)
      · refine lv_iconst (v := (nI (0))) hx hb zd_N_compare_37 (by decide) ?_
        exact kz_iret F () hdy (⟨by first | (intro h9; exact absurd h9 (by decide)) | (intro h9; exact ⟨k3, by omega, by omega, by omega⟩), trivial⟩) zd_N_compare_38
      · exact absurd (by decide) hc4
    | succ k3 ih3 =>
      intro H locs ls hi3 hdy hl
      rw [nI_pred] at hl
      refine lv_iload_n hx hb zd_N_compare_3 rfl (lv_at hl 0 rfl) ?_
      refine lv_if_lt (tgt := 37) hx hb zd_N_compare_4 (by decide) (fun hc4 => ?_) (fun hc4 => ?_)
      · exact absurd hc4 (nI_pos (by omega))
      · refine lv_aload_n hx hb zd_N_compare_7 rfl (lv_at hl 1 rfl) ?_
        refine lv_iload_n hx hb zd_N_compare_8 rfl (lv_at hl 0 rfl) ?_
        refine kz_riald hx hb hK hro hdy.2.2 0 0 rfl rfl (vp_in_nI (by omega) (by omega)) zd_N_compare_9 ?_
        refine lv_topi (fun x1 h9 => ?_)
        obtain rfl : x1 = nI (ga k3) := h9.trans (kz_dgl ga (by omega))
        have hbx1 := hd_ga k3
        refine lv_aload_n hx hb zd_N_compare_10 rfl (lv_at hl 2 rfl) ?_
        refine lv_iload_n hx hb zd_N_compare_11 rfl (lv_at hl 0 rfl) ?_
        refine kz_riald hx hb hK hro hdy.2.2 1 0 rfl rfl (vp_in_nI (by omega) (by omega)) zd_N_compare_12 ?_
        refine lv_topi (fun x2 h9 => ?_)
        obtain rfl : x2 = nI (gb k3) := h9.trans (kz_dgl gb (by omega))
        have hbx2 := hd_gb k3
        refine lv_icmp_eq (tgt := 31) hx hb zd_N_compare_13 (by decide) (fun hc13 => ?_) (fun hc13 => ?_)
        · have hc13 : (ga k3) = (gb k3) := (nI_eq (by omega) (by omega)).mp hc13
          refine lv_iinc (v := (nI (k3) - 1)) (lv' := [(2, .int (nI (k3) - 1)), (0, .ref a), (1, .ref b)]) hx hb zd_N_compare_31 hl (k := 0) rfl (kz_m1 _) (by decide) rfl (fun ls hl => ?_)
          refine lv_goto (tgt := 3) hx hb zd_N_compare_34 (by decide) ?_
          exact ih3 _ _ _ (by omega) hdy (lv_sub hl [0, 1, 2] rfl)
        · have hc13 : ¬ (ga k3) = (gb k3) := fun h9 => hc13 ((nI_eq (by omega) (by omega)).mpr h9)
          refine lv_aload_n hx hb zd_N_compare_16 rfl (lv_at hl 1 rfl) ?_
          refine lv_iload_n hx hb zd_N_compare_17 rfl (lv_at hl 0 rfl) ?_
          refine kz_riald hx hb hK hro hdy.2.2 0 0 rfl rfl (vp_in_nI (by omega) (by omega)) zd_N_compare_18 ?_
          refine lv_topi (fun x3 h9 => ?_)
          obtain rfl : x3 = nI (ga k3) := h9.trans (kz_dgl ga (by omega))
          have hbx3 := hd_ga k3
          refine lv_aload_n hx hb zd_N_compare_19 rfl (lv_at hl 2 rfl) ?_
          refine lv_iload_n hx hb zd_N_compare_20 rfl (lv_at hl 0 rfl) ?_
          refine kz_riald hx hb hK hro hdy.2.2 1 0 rfl rfl (vp_in_nI (by omega) (by omega)) zd_N_compare_21 ?_
          refine lv_topi (fun x4 h9 => ?_)
          obtain rfl : x4 = nI (gb k3) := h9.trans (kz_dgl gb (by omega))
          have hbx4 := hd_gb k3
          refine lv_icmp_ge (tgt := 29) hx hb zd_N_compare_22 (by decide) (fun hc22 => ?_) (fun hc22 => ?_)
          · have hc22 : (gb k3) ≤ (ga k3) := (nI_leI (by omega) (by omega)).mp hc22
            refine lv_iconst (v := (nI (1))) hx hb zd_N_compare_29 (by decide) ?_
            exact kz_iret F () hdy (⟨by first | (intro h9; exact absurd h9 (by decide)) | (intro h9; exact ⟨k3, by omega, by omega, by omega⟩), trivial⟩) zd_N_compare_30
          · have hc22 : ¬ (gb k3) ≤ (ga k3) := fun h9 => hc22 ((nI_leI (by omega) (by omega)).mpr h9)
            refine lv_iconst (v := (-1)) hx hb zd_N_compare_25 (by decide) ?_
            refine lv_goto (tgt := 30) hx hb zd_N_compare_26 (by decide) ?_
            exact kz_iret F () hdy (⟨by first | (intro h9; exact absurd h9 (by decide)) | (intro h9; exact ⟨k3, by omega, by omega, by omega⟩), trivial⟩) zd_N_compare_30
  exact lp3 16 _ _ _ (by omega) hdy (lv_sub hl [0, 1, 2] rfl)

set_option maxHeartbeats 4000000 in
set_option maxRecDepth 100000 in
/-- KeyMeetingModel.isSmall([I)Z -/
theorem c_X_isSmall (l : Launch) (dC : Nat → ClassId) (dI : Nat → Nat → Nat) (cI cAA cB cL : ClassId) (a : Nat) (ga : Nat → Nat) (sz : Nat) (hd_ga : ∀ j, ga j < 65536) : Met l zy_N_isSmall zw_N_isSmall { frames := 0, cells := 0, slots := 0, locals := 0 } (kz_Pc (dC, dI) vwCl [(cI, .int), (cAA, .array .int), (cB, .byte), (cL, .long)] [] [] [.ref a] [] [(a, .inl (cI, 16, .inl (kz_dg ga)))] sz) (va_Qi (fun (r : Int32) (u : Unit) => (r = 0 ∨ r = 1) ∧ (r = 0 → kv_some ga 0 16) ∧ True) (kz_B (dC, dI) vwCl (va_A [] sz) (fun u : Unit => [])) (va_A [] sz)) 0 0 (va_A [] sz) := by
  refine kz_met (y := zy_N_isSmall) (ws := zw_N_isSmall) (av := [.ref a]) (sz := sz) (Qc := fun A => va_Qi (fun (r : Int32) (u : Unit) => (r = 0 ∨ r = 1) ∧ (r = 0 → kv_some ga 0 16) ∧ True) (kz_B (dC, dI) vwCl A (fun u : Unit => [])) A) (cc := zc_N_isSmall) (maxL := 3) (ret := some .boolean) (by decide) rfl (Nat.le_of_ble_eq_true rfl) ?_
  intro p e s m below meth c A ls F hA hdy hK hro hZ hN hl
  obtain ⟨hx, hb, hml, hr, hown, hlocks, hts, hnm⟩ := id F
  have hl : lv_has ls 3 [(0, .ref a)] := hl
  refine lv_aload_n hx hb zd_N_isSmall_0 rfl (lv_at hl 0 rfl) ?_
  refine lv_iconst (v := (nI (0))) hx hb zd_N_isSmall_1 (by decide) ?_
  refine kz_riald hx hb hK hro hdy.2.2 0 0 rfl rfl (vp_in_nI (by omega) (by omega)) zd_N_isSmall_2 ?_
  refine lv_topi (fun x1 h9 => ?_)
  obtain rfl : x1 = nI (ga 0) := h9.trans (kz_dgl ga (by omega))
  have hbx1 := hd_ga 0
  refine lv_iconst (v := (nI (2))) hx hb zd_N_isSmall_3 (by decide) ?_
  refine lv_icmp_le (tgt := 11) hx hb zd_N_isSmall_4 (by decide) (fun hc4 => ?_) (fun hc4 => ?_)
  · have hc4 : (ga 0) ≤ 2 := (nI_leI (by omega) (by omega)).mp hc4
    refine lv_iconst (v := (nI (0))) hx hb zd_N_isSmall_11 (by decide) ?_
    refine lv_istore_n (lv' := [(1, .int (nI (0))), (0, .ref a)]) hx hb zd_N_isSmall_12 rfl hl (by decide) rfl (fun ls hl => ?_)
    refine lv_iconst (v := (nI (1))) hx hb zd_N_isSmall_13 (by decide) ?_
    refine lv_istore_n (lv' := [(2, .int (nI (1))), (1, .int (nI (0))), (0, .ref a)]) hx hb zd_N_isSmall_14 rfl hl (by decide) rfl (fun ls hl => ?_)
    have lp15 : ∀ (n15 k15 : Nat) (c2 : Nat) (H : Heap) (locs : List Loc) (ls : Array Slot), k15 ≤ 16 → 16 - k15 < n15 → (c2 ≤ 1) → (kv_flag (c2) (kv_some ga 0 16)) → kz_dy (dC, dI) vwCl A s.heap H locs [] → lv_has ls 3 [(2, .int (nI (k15))), (1, .int (nI (c2))), (0, .ref a)] → W p l e { frames := 0, cells := 0, slots := 0, locals := 0 } s m ([.ref a] : List Value).toArray below meth c H locs 0 0 (MQ below (va_Qi (fun (r : Int32) (u : Unit) => (r = 0 ∨ r = 1) ∧ (r = 0 → kv_some ga 0 16) ∧ True) (kz_B (dC, dI) vwCl A (fun u : Unit => [])) A) ([.ref a] : List Value).toArray s 0 0 A) (F0 m 15 ls []) := by
      intro n15
      induction n15 with
      | zero => intro k15; intros; omega
      | succ n15 ih15 =>
        intro k15 c2 H locs ls hi15 hn15 hg1 hgr hdy hl
        refine lv_iload_n hx hb zd_N_isSmall_15 rfl (lv_at hl 0 rfl) ?_
        refine lv_bipush (v := (nI (16))) hx hb zd_N_isSmall_16 (by decide) ?_
        refine lv_icmp_ge (tgt := 43) hx hb zd_N_isSmall_18 (by decide) (fun hc18 => ?_) (fun hc18 => ?_)
        · have hc18 : 16 ≤ k15 := (nI_leI (by omega) (by omega)).mp hc18
          refine lv_iload_n hx hb zd_N_isSmall_43 rfl (lv_at hl 1 rfl) ?_
          refine lv_if_ne (tgt := 51) hx hb zd_N_isSmall_44 (by decide) (fun hc44 => ?_) (fun hc44 => ?_)
          · have hc44 : ¬ c2 = 0 := fun h9 => hc44 (by have h8 := (nI_eq (by omega) (by omega)).mpr h9; rw [nI_0] at h8; exact h8)
            refine lv_iconst (v := (nI (0))) hx hb zd_N_isSmall_51 (by decide) ?_
            exact kz_zret F () hdy (by first | exact Or.inl rfl | exact Or.inr rfl | assumption) (⟨by first | exact Or.inl rfl | exact Or.inr rfl | assumption, by first | (intro h9; exact absurd h9 (by decide)) | (intro h9; exact kv_flag_of hgr (by omega)), trivial⟩) zd_N_isSmall_52
          · have hc44 : c2 = 0 := (nI_eq (by omega) (by omega)).mp (by rw [nI_0]; exact hc44)
            refine lv_iconst (v := (nI (1))) hx hb zd_N_isSmall_47 (by decide) ?_
            refine lv_goto (tgt := 52) hx hb zd_N_isSmall_48 (by decide) ?_
            exact kz_zret F () hdy (by first | exact Or.inl rfl | exact Or.inr rfl | assumption) (⟨by first | exact Or.inl rfl | exact Or.inr rfl | assumption, by first | (intro h9; exact absurd h9 (by decide)) | (intro h9; exact kv_flag_of hgr (by omega)), trivial⟩) zd_N_isSmall_52
        · have hc18 : ¬ 16 ≤ k15 := fun h9 => hc18 ((nI_leI (by omega) (by omega)).mpr h9)
          refine lv_iload_n hx hb zd_N_isSmall_21 rfl (lv_at hl 1 rfl) ?_
          refine lv_if_ne (tgt := 31) hx hb zd_N_isSmall_22 (by decide) (fun hc22 => ?_) (fun hc22 => ?_)
          · have hc22 : ¬ c2 = 0 := fun h9 => hc22 (by have h8 := (nI_eq (by omega) (by omega)).mpr h9; rw [nI_0] at h8; exact h8)
            refine lv_iconst (v := (nI (1))) hx hb zd_N_isSmall_31 (by decide) ?_
            refine lv_goto (tgt := 36) hx hb zd_N_isSmall_32 (by decide) ?_
            refine lv_istore_n (lv' := [(1, .int (nI (1))), (2, .int (nI (k15))), (0, .ref a)]) hx hb zd_N_isSmall_36 rfl hl (by decide) rfl (fun ls hl => ?_)
            refine lv_iinc (v := (nI (k15 + 1))) (lv' := [(2, .int (nI (k15 + 1))), (1, .int (nI (1))), (0, .ref a)]) hx hb zd_N_isSmall_37 hl (k := 1) rfl (nI_1 _) (by decide) rfl (fun ls hl => ?_)
            refine lv_goto (tgt := 15) hx hb zd_N_isSmall_40 (by decide) ?_
            have hi9_hg13 : 1 ≤ 1 := by omega
            have hi9_hgr4 : kv_flag (1) (kv_some ga 0 16) := by first | exact hgr | exact Or.inl rfl | exact Or.inr (kv_flag_of hgr (by omega)) | exact Or.inr ⟨k15, by omega, by omega, by omega⟩
            exact ih15 (k15 + 1) (1) _ _ _ (by omega) (by omega) hi9_hg13 hi9_hgr4 hdy (lv_sub hl [0, 1, 2] rfl)
          · have hc22 : c2 = 0 := (nI_eq (by omega) (by omega)).mp (by rw [nI_0]; exact hc22)
            refine lv_aload_n hx hb zd_N_isSmall_25 rfl (lv_at hl 2 rfl) ?_
            refine lv_iload_n hx hb zd_N_isSmall_26 rfl (lv_at hl 0 rfl) ?_
            refine kz_riald hx hb hK hro hdy.2.2 0 0 rfl rfl (vp_in_nI (by omega) (by omega)) zd_N_isSmall_27 ?_
            refine lv_topi (fun x5 h9 => ?_)
            obtain rfl : x5 = nI (ga k15) := h9.trans (kz_dgl ga (by omega))
            have hbx5 := hd_ga k15
            refine lv_if_le (tgt := 35) hx hb zd_N_isSmall_28 (by decide) (fun hc28 => ?_) (fun hc28 => ?_)
            · have hc28 : (ga k15) ≤ 0 := (nI_leI (by omega) (by omega)).mp (by rw [nI_0]; exact hc28)
              refine lv_iconst (v := (nI (0))) hx hb zd_N_isSmall_35 (by decide) ?_
              refine lv_istore_n (lv' := [(1, .int (nI (0))), (2, .int (nI (k15))), (0, .ref a)]) hx hb zd_N_isSmall_36 rfl hl (by decide) rfl (fun ls hl => ?_)
              refine lv_iinc (v := (nI (k15 + 1))) (lv' := [(2, .int (nI (k15 + 1))), (1, .int (nI (0))), (0, .ref a)]) hx hb zd_N_isSmall_37 hl (k := 1) rfl (nI_1 _) (by decide) rfl (fun ls hl => ?_)
              refine lv_goto (tgt := 15) hx hb zd_N_isSmall_40 (by decide) ?_
              have hi9_hg16 : 0 ≤ 1 := by omega
              have hi9_hgr7 : kv_flag (0) (kv_some ga 0 16) := by first | exact hgr | exact Or.inl rfl | exact Or.inr (kv_flag_of hgr (by omega)) | exact Or.inr ⟨k15, by omega, by omega, by omega⟩
              exact ih15 (k15 + 1) (0) _ _ _ (by omega) (by omega) hi9_hg16 hi9_hgr7 hdy (lv_sub hl [0, 1, 2] rfl)
            · have hc28 : ¬ (ga k15) ≤ 0 := fun h9 => hc28 (by have h8 := (nI_leI (by omega) (by omega)).mpr h9; rw [nI_0] at h8; exact h8)
              refine lv_iconst (v := (nI (1))) hx hb zd_N_isSmall_31 (by decide) ?_
              refine lv_goto (tgt := 36) hx hb zd_N_isSmall_32 (by decide) ?_
              refine lv_istore_n (lv' := [(1, .int (nI (1))), (2, .int (nI (k15))), (0, .ref a)]) hx hb zd_N_isSmall_36 rfl hl (by decide) rfl (fun ls hl => ?_)
              refine lv_iinc (v := (nI (k15 + 1))) (lv' := [(2, .int (nI (k15 + 1))), (1, .int (nI (1))), (0, .ref a)]) hx hb zd_N_isSmall_37 hl (k := 1) rfl (nI_1 _) (by decide) rfl (fun ls hl => ?_)
              refine lv_goto (tgt := 15) hx hb zd_N_isSmall_40 (by decide) ?_
              have hi9_hg18 : 1 ≤ 1 := by omega
              have hi9_hgr9 : kv_flag (1) (kv_some ga 0 16) := by first | exact hgr | exact Or.inl rfl | exact Or.inr (kv_flag_of hgr (by omega)) | exact Or.inr ⟨k15, by omega, by omega, by omega⟩
              exact ih15 (k15 + 1) (1) _ _ _ (by omega) (by omega) hi9_hg18 hi9_hgr9 hdy (lv_sub hl [0, 1, 2] rfl)
    have hi9_hg110 : 0 ≤ 1 := by omega
    have hi9_hgr11 : kv_flag (0) (kv_some ga 0 16) := by first | exact Or.inl rfl | exact Or.inr ⟨0, by omega, by omega, by omega⟩
    exact lp15 (16 - 1 + 1) 1 (0) _ _ _ (by omega) (by omega) hi9_hg110 hi9_hgr11 hdy (lv_sub hl [0, 1, 2] rfl)
  · have hc4 : ¬ (ga 0) ≤ 2 := fun h9 => hc4 ((nI_leI (by omega) (by omega)).mpr h9)
    refine lv_iconst (v := (nI (1))) hx hb zd_N_isSmall_7 (by decide) ?_
    refine lv_goto (tgt := 12) hx hb zd_N_isSmall_8 (by decide) ?_
    refine lv_istore_n (lv' := [(1, .int (nI (1))), (0, .ref a)]) hx hb zd_N_isSmall_12 rfl hl (by decide) rfl (fun ls hl => ?_)
    refine lv_iconst (v := (nI (1))) hx hb zd_N_isSmall_13 (by decide) ?_
    refine lv_istore_n (lv' := [(2, .int (nI (1))), (1, .int (nI (1))), (0, .ref a)]) hx hb zd_N_isSmall_14 rfl hl (by decide) rfl (fun ls hl => ?_)
    have lp15 : ∀ (n15 k15 : Nat) (c12 : Nat) (H : Heap) (locs : List Loc) (ls : Array Slot), k15 ≤ 16 → 16 - k15 < n15 → (c12 ≤ 1) → (kv_flag (c12) (kv_some ga 0 16)) → kz_dy (dC, dI) vwCl A s.heap H locs [] → lv_has ls 3 [(2, .int (nI (k15))), (1, .int (nI (c12))), (0, .ref a)] → W p l e { frames := 0, cells := 0, slots := 0, locals := 0 } s m ([.ref a] : List Value).toArray below meth c H locs 0 0 (MQ below (va_Qi (fun (r : Int32) (u : Unit) => (r = 0 ∨ r = 1) ∧ (r = 0 → kv_some ga 0 16) ∧ True) (kz_B (dC, dI) vwCl A (fun u : Unit => [])) A) ([.ref a] : List Value).toArray s 0 0 A) (F0 m 15 ls []) := by
      intro n15
      induction n15 with
      | zero => intro k15; intros; omega
      | succ n15 ih15 =>
        intro k15 c12 H locs ls hi15 hn15 hg1 hgr hdy hl
        refine lv_iload_n hx hb zd_N_isSmall_15 rfl (lv_at hl 0 rfl) ?_
        refine lv_bipush (v := (nI (16))) hx hb zd_N_isSmall_16 (by decide) ?_
        refine lv_icmp_ge (tgt := 43) hx hb zd_N_isSmall_18 (by decide) (fun hc18 => ?_) (fun hc18 => ?_)
        · have hc18 : 16 ≤ k15 := (nI_leI (by omega) (by omega)).mp hc18
          refine lv_iload_n hx hb zd_N_isSmall_43 rfl (lv_at hl 1 rfl) ?_
          refine lv_if_ne (tgt := 51) hx hb zd_N_isSmall_44 (by decide) (fun hc44 => ?_) (fun hc44 => ?_)
          · have hc44 : ¬ c12 = 0 := fun h9 => hc44 (by have h8 := (nI_eq (by omega) (by omega)).mpr h9; rw [nI_0] at h8; exact h8)
            refine lv_iconst (v := (nI (0))) hx hb zd_N_isSmall_51 (by decide) ?_
            exact kz_zret F () hdy (by first | exact Or.inl rfl | exact Or.inr rfl | assumption) (⟨by first | exact Or.inl rfl | exact Or.inr rfl | assumption, by first | (intro h9; exact absurd h9 (by decide)) | (intro h9; exact kv_flag_of hgr (by omega)), trivial⟩) zd_N_isSmall_52
          · have hc44 : c12 = 0 := (nI_eq (by omega) (by omega)).mp (by rw [nI_0]; exact hc44)
            refine lv_iconst (v := (nI (1))) hx hb zd_N_isSmall_47 (by decide) ?_
            refine lv_goto (tgt := 52) hx hb zd_N_isSmall_48 (by decide) ?_
            exact kz_zret F () hdy (by first | exact Or.inl rfl | exact Or.inr rfl | assumption) (⟨by first | exact Or.inl rfl | exact Or.inr rfl | assumption, by first | (intro h9; exact absurd h9 (by decide)) | (intro h9; exact kv_flag_of hgr (by omega)), trivial⟩) zd_N_isSmall_52
        · have hc18 : ¬ 16 ≤ k15 := fun h9 => hc18 ((nI_leI (by omega) (by omega)).mpr h9)
          refine lv_iload_n hx hb zd_N_isSmall_21 rfl (lv_at hl 1 rfl) ?_
          refine lv_if_ne (tgt := 31) hx hb zd_N_isSmall_22 (by decide) (fun hc22 => ?_) (fun hc22 => ?_)
          · have hc22 : ¬ c12 = 0 := fun h9 => hc22 (by have h8 := (nI_eq (by omega) (by omega)).mpr h9; rw [nI_0] at h8; exact h8)
            refine lv_iconst (v := (nI (1))) hx hb zd_N_isSmall_31 (by decide) ?_
            refine lv_goto (tgt := 36) hx hb zd_N_isSmall_32 (by decide) ?_
            refine lv_istore_n (lv' := [(1, .int (nI (1))), (2, .int (nI (k15))), (0, .ref a)]) hx hb zd_N_isSmall_36 rfl hl (by decide) rfl (fun ls hl => ?_)
            refine lv_iinc (v := (nI (k15 + 1))) (lv' := [(2, .int (nI (k15 + 1))), (1, .int (nI (1))), (0, .ref a)]) hx hb zd_N_isSmall_37 hl (k := 1) rfl (nI_1 _) (by decide) rfl (fun ls hl => ?_)
            refine lv_goto (tgt := 15) hx hb zd_N_isSmall_40 (by decide) ?_
            have hi9_hg113 : 1 ≤ 1 := by omega
            have hi9_hgr14 : kv_flag (1) (kv_some ga 0 16) := by first | exact hgr | exact Or.inl rfl | exact Or.inr (kv_flag_of hgr (by omega)) | exact Or.inr ⟨k15, by omega, by omega, by omega⟩
            exact ih15 (k15 + 1) (1) _ _ _ (by omega) (by omega) hi9_hg113 hi9_hgr14 hdy (lv_sub hl [0, 1, 2] rfl)
          · have hc22 : c12 = 0 := (nI_eq (by omega) (by omega)).mp (by rw [nI_0]; exact hc22)
            refine lv_aload_n hx hb zd_N_isSmall_25 rfl (lv_at hl 2 rfl) ?_
            refine lv_iload_n hx hb zd_N_isSmall_26 rfl (lv_at hl 0 rfl) ?_
            refine kz_riald hx hb hK hro hdy.2.2 0 0 rfl rfl (vp_in_nI (by omega) (by omega)) zd_N_isSmall_27 ?_
            refine lv_topi (fun x15 h9 => ?_)
            obtain rfl : x15 = nI (ga k15) := h9.trans (kz_dgl ga (by omega))
            have hbx15 := hd_ga k15
            refine lv_if_le (tgt := 35) hx hb zd_N_isSmall_28 (by decide) (fun hc28 => ?_) (fun hc28 => ?_)
            · have hc28 : (ga k15) ≤ 0 := (nI_leI (by omega) (by omega)).mp (by rw [nI_0]; exact hc28)
              refine lv_iconst (v := (nI (0))) hx hb zd_N_isSmall_35 (by decide) ?_
              refine lv_istore_n (lv' := [(1, .int (nI (0))), (2, .int (nI (k15))), (0, .ref a)]) hx hb zd_N_isSmall_36 rfl hl (by decide) rfl (fun ls hl => ?_)
              refine lv_iinc (v := (nI (k15 + 1))) (lv' := [(2, .int (nI (k15 + 1))), (1, .int (nI (0))), (0, .ref a)]) hx hb zd_N_isSmall_37 hl (k := 1) rfl (nI_1 _) (by decide) rfl (fun ls hl => ?_)
              refine lv_goto (tgt := 15) hx hb zd_N_isSmall_40 (by decide) ?_
              have hi9_hg116 : 0 ≤ 1 := by omega
              have hi9_hgr17 : kv_flag (0) (kv_some ga 0 16) := by first | exact hgr | exact Or.inl rfl | exact Or.inr (kv_flag_of hgr (by omega)) | exact Or.inr ⟨k15, by omega, by omega, by omega⟩
              exact ih15 (k15 + 1) (0) _ _ _ (by omega) (by omega) hi9_hg116 hi9_hgr17 hdy (lv_sub hl [0, 1, 2] rfl)
            · have hc28 : ¬ (ga k15) ≤ 0 := fun h9 => hc28 (by have h8 := (nI_leI (by omega) (by omega)).mpr h9; rw [nI_0] at h8; exact h8)
              refine lv_iconst (v := (nI (1))) hx hb zd_N_isSmall_31 (by decide) ?_
              refine lv_goto (tgt := 36) hx hb zd_N_isSmall_32 (by decide) ?_
              refine lv_istore_n (lv' := [(1, .int (nI (1))), (2, .int (nI (k15))), (0, .ref a)]) hx hb zd_N_isSmall_36 rfl hl (by decide) rfl (fun ls hl => ?_)
              refine lv_iinc (v := (nI (k15 + 1))) (lv' := [(2, .int (nI (k15 + 1))), (1, .int (nI (1))), (0, .ref a)]) hx hb zd_N_isSmall_37 hl (k := 1) rfl (nI_1 _) (by decide) rfl (fun ls hl => ?_)
              refine lv_goto (tgt := 15) hx hb zd_N_isSmall_40 (by decide) ?_
              have hi9_hg118 : 1 ≤ 1 := by omega
              have hi9_hgr19 : kv_flag (1) (kv_some ga 0 16) := by first | exact hgr | exact Or.inl rfl | exact Or.inr (kv_flag_of hgr (by omega)) | exact Or.inr ⟨k15, by omega, by omega, by omega⟩
              exact ih15 (k15 + 1) (1) _ _ _ (by omega) (by omega) hi9_hg118 hi9_hgr19 hdy (lv_sub hl [0, 1, 2] rfl)
    have hi9_hg120 : 1 ≤ 1 := by omega
    have hi9_hgr21 : kv_flag (1) (kv_some ga 0 16) := by first | exact Or.inl rfl | exact Or.inr ⟨0, by omega, by omega, by omega⟩
    exact lp15 (16 - 1 + 1) 1 (1) _ _ _ (by omega) (by omega) hi9_hg120 hi9_hgr21 hdy (lv_sub hl [0, 1, 2] rfl)

set_option maxHeartbeats 4000000 in
set_option maxRecDepth 100000 in
/-- KeyMeetingModel.lessOne([I)V -/
theorem c_X_lessOne (l : Launch) (dC : Nat → ClassId) (dI : Nat → Nat → Nat) (cI cAA cB cL : ClassId) (o : Nat) (go : Nat → Nat) (sz : Nat) (hd_go : ∀ j, go j < 65536) (hnz : kv_some go 0 16) : Met l zy_N_lessOne zw_N_lessOne { frames := 0, cells := 0, slots := 0, locals := 0 } (kz_Pc (dC, dI) vwCl [(cI, .int), (cAA, .array .int), (cB, .byte), (cL, .long)] [] [] [.ref o] [(o, .inl (cI, 16, .inl (kz_dg go)))] [] sz) (va_Qv (fun (u : (Nat → Nat)) => (∀ j, u j < 65536) ∧ True) (kz_B (dC, dI) vwCl (va_A [(o, .inl (cI, 16, .inl (kz_dg go)))] sz) (fun u : (Nat → Nat) => [(o, .inl (cI, 16, .inl (kz_dg u)))])) (va_A [(o, .inl (cI, 16, .inl (kz_dg go)))] sz)) 0 0 (va_A [(o, .inl (cI, 16, .inl (kz_dg go)))] sz) := by
  refine kz_met (y := zy_N_lessOne) (ws := zw_N_lessOne) (av := [.ref o]) (sz := sz) (Qc := fun A => va_Qv (fun (u : (Nat → Nat)) => (∀ j, u j < 65536) ∧ True) (kz_B (dC, dI) vwCl A (fun u : (Nat → Nat) => [(o, .inl (cI, 16, .inl (kz_dg u)))])) A) (cc := zc_N_lessOne) (maxL := 2) (ret := none) (by decide) rfl (Nat.le_of_ble_eq_true rfl) ?_
  intro p e s m below meth c A ls F hA hdy hK hro hZ hN hl
  obtain ⟨hx, hb, hml, hr, hown, hlocks, hts, hnm⟩ := id F
  have hl : lv_has ls 2 [(0, .ref o)] := hl
  refine lv_iconst (v := (nI (0))) hx hb zd_N_lessOne_0 (by decide) ?_
  refine lv_istore_n (lv' := [(1, .int (nI (0))), (0, .ref o)]) hx hb zd_N_lessOne_1 rfl hl (by decide) rfl (fun ls hl => ?_)
  have lp2 : ∀ (n2 k2 : Nat) (d1 : Nat → Nat) (H : Heap) (locs : List Loc) (ls : Array Slot), k2 ≤ 16 → 16 - k2 < n2 → (∀ j, d1 j < 65536) → (kv_some d1 (k2) 16) → kz_dy (dC, dI) vwCl A s.heap H locs [(o, .inl (cI, 16, .inl (kz_dg d1)))] → lv_has ls 2 [(1, .int (nI (k2))), (0, .ref o)] → W p l e { frames := 0, cells := 0, slots := 0, locals := 0 } s m ([.ref o] : List Value).toArray below meth c H locs 0 0 (MQ below (va_Qv (fun (u : (Nat → Nat)) => (∀ j, u j < 65536) ∧ True) (kz_B (dC, dI) vwCl A (fun u : (Nat → Nat) => [(o, .inl (cI, 16, .inl (kz_dg u)))])) A) ([.ref o] : List Value).toArray s 0 0 A) (F0 m 2 ls []) := by
    intro n2
    induction n2 with
    | zero => intro k2; intros; omega
    | succ n2 ih2 =>
      intro k2 d1 H locs ls hi2 hn2 hd_d1 hlo hdy hl
      obtain ⟨j9, h91, h92, h93⟩ := id hlo
      refine lv_aload_n hx hb zd_N_lessOne_2 rfl (lv_at hl 1 rfl) ?_
      refine lv_iload_n hx hb zd_N_lessOne_3 rfl (lv_at hl 0 rfl) ?_
      refine va_iald hx hb hK hdy.1 0 0 rfl rfl (vp_in_nI (by omega) (by omega)) zd_N_lessOne_4 ?_
      refine lv_topi (fun x2 h9 => ?_)
      obtain rfl : x2 = nI (d1 k2) := h9.trans (kz_dgl d1 (by omega))
      have hbx2 := hd_d1 k2
      refine lv_if_ne (tgt := 19) hx hb zd_N_lessOne_5 (by decide) (fun hc5 => ?_) (fun hc5 => ?_)
      · have hc5 : ¬ (d1 k2) = 0 := fun h9 => hc5 (by have h8 := (nI_eq (by omega) (by omega)).mpr h9; rw [nI_0] at h8; exact h8)
        refine lv_aload_n hx hb zd_N_lessOne_19 rfl (lv_at hl 1 rfl) ?_
        refine lv_iload_n hx hb zd_N_lessOne_20 rfl (lv_at hl 0 rfl) ?_
        refine lv_dup2_11 hx hb zd_N_lessOne_21 rfl rfl ?_
        refine va_iald hx hb hK hdy.1 0 0 rfl rfl (vp_in_nI (by omega) (by omega)) zd_N_lessOne_22 ?_
        refine lv_topi (fun x3 h9 => ?_)
        obtain rfl : x3 = nI (d1 k2) := h9.trans (kz_dgl d1 (by omega))
        have hbx3 := hd_d1 k2
        refine lv_iconst (v := (nI (1))) hx hb zd_N_lessOne_23 (by decide) ?_
        refine kz_isub hx hb zd_N_lessOne_24 (pk_sub (by omega)) ?_
        refine va_iast hx hb hK hdy.1 hdy.2.1 hdy.2.2 0 0 rfl rfl (vp_in_nI (by omega) (by omega)) zd_N_lessOne_25 (fun H locs hP hD hS => ?_)
        have h9 := kz_dgu d1 (k := k2) (d1 k2 - 1) (by omega)
        rw [h9] at hP hD
        obtain ⟨f4, ef4, hd_f4, hdy⟩ : ∃ f4 : Nat → Nat, f4 = kv_up d1 k2 (d1 k2 - 1) ∧ (∀ j, f4 j < 65536) ∧ kz_dy (dC, dI) vwCl A s.heap H locs [(o, .inl (cI, 16, .inl (kz_dg f4)))] := ⟨_, rfl, kv_up_lt hd_d1 (by omega), hP, hD, hS⟩
        exact kz_vret F (f4) hdy (⟨hd_f4, trivial⟩) zd_N_lessOne_26
      · have hc5 : (d1 k2) = 0 := (nI_eq (by omega) (by omega)).mp (by rw [nI_0]; exact hc5)
        refine lv_aload_n hx hb zd_N_lessOne_8 rfl (lv_at hl 1 rfl) ?_
        refine lv_iload_n hx hb zd_N_lessOne_9 rfl (lv_at hl 0 rfl) ?_
        refine lv_ldc (v := (nI (65535))) hx hb hown (hts _ (kz_c mw_693)) zd_N_lessOne_10 ?_
        refine va_iast hx hb hK hdy.1 hdy.2.1 hdy.2.2 0 0 rfl rfl (vp_in_nI (by omega) (by omega)) zd_N_lessOne_12 (fun H locs hP hD hS => ?_)
        have h9 := kz_dgu d1 (k := k2) 65535 (by omega)
        rw [h9] at hP hD
        obtain ⟨f5, ef5, hd_f5, hdy⟩ : ∃ f5 : Nat → Nat, f5 = kv_up d1 k2 65535 ∧ (∀ j, f5 j < 65536) ∧ kz_dy (dC, dI) vwCl A s.heap H locs [(o, .inl (cI, 16, .inl (kz_dg f5)))] := ⟨_, rfl, kv_up_lt hd_d1 (by omega), hP, hD, hS⟩
        refine lv_iinc (v := (nI (k2 + 1))) (lv' := [(1, .int (nI (k2 + 1))), (0, .ref o)]) hx hb zd_N_lessOne_13 hl (k := 0) rfl (nI_1 _) (by decide) rfl (fun ls hl => ?_)
        refine lv_goto (tgt := 2) hx hb zd_N_lessOne_16 (by decide) ?_
        have hi9_hlo6 : kv_some f5 (k2 + 1) 16 := by rw [ef5]; rcases Nat.lt_or_eq_of_le h91 with h8 | h8; exact ⟨j9, by omega, h92, by rw [kv_up_ne _ _ (by omega)]; exact h93⟩; exact absurd h93 (by rw [← h8]; omega)
        exact ih2 (k2 + 1) f5 _ _ _ (by omega) (by omega) hd_f5 hi9_hlo6 hdy (lv_sub hl [0, 1] rfl)
  have hi9_hlo7 : kv_some go (0) 16 := by exact hnz
  exact lp2 (16 - 0 + 1) 0 go _ _ _ (by omega) (by omega) hd_go hi9_hlo7 hdy (lv_sub hl [0, 1] rfl)

