set_option maxHeartbeats 4000000 in
set_option maxRecDepth 100000 in
/-- KeyMeetingModel.turn(II)I -/
theorem c_G_turn (l : Launch) (dC : Nat → ClassId) (dI : Nat → Nat → Nat) (cI cAA cB cL : ClassId) (v : Int32) (k : Int32) (sz : Nat) : Met l zy_N_turn zw_N_turn { frames := 0, cells := 0, slots := 0, locals := 0 } (kz_Pc (dC, dI) vwCl [(cI, .int), (cAA, .array .int), (cB, .byte), (cL, .long)] [] [] [.int v, .int k] [] [] sz) (va_Qi (fun (r : Int32) (u : Unit) => (r = kd_t v k) ∧ True) (kz_B (dC, dI) vwCl (va_A [] sz) (fun u : Unit => [])) (va_A [] sz)) 0 0 (va_A [] sz) := by
  refine kz_met (y := zy_N_turn) (ws := zw_N_turn) (av := [.int v, .int k]) (sz := sz) (Qc := fun A => va_Qi (fun (r : Int32) (u : Unit) => (r = kd_t v k) ∧ True) (kz_B (dC, dI) vwCl A (fun u : Unit => [])) A) (cc := zc_N_turn) (maxL := 2) (ret := some .int) (by decide) rfl (Nat.le_of_ble_eq_true rfl) ?_
  intro p e s m below meth c A ls F hA hdy hK hro hZ hN hl
  obtain ⟨hx, hb, hml, hr, hown, hlocks, hts, hnm⟩ := id F
  have hl : lv_has ls 2 [(0, .int v), (1, .int k)] := hl
  refine lv_iload_n hx hb zd_N_turn_0 rfl (lv_at hl 0 rfl) ?_
  refine lv_iload_n hx hb zd_N_turn_1 rfl (lv_at hl 1 rfl) ?_
  refine lv_iushr (v := kd_us v k) hx hb zd_N_turn_2 rfl ?_
  refine lv_iload_n hx hb zd_N_turn_3 rfl (lv_at hl 0 rfl) ?_
  refine lv_bipush (v := (nI (32))) hx hb zd_N_turn_4 (by decide) ?_
  refine lv_iload_n hx hb zd_N_turn_6 rfl (lv_at hl 1 rfl) ?_
  refine lv_isub hx hb zd_N_turn_7 ?_
  refine lv_ishl hx hb zd_N_turn_8 ?_
  refine lv_ior hx hb zd_N_turn_9 ?_
  exact kz_iret F () hdy (⟨by rfl, trivial⟩) zd_N_turn_10

set_option maxHeartbeats 4000000 in
set_option maxRecDepth 100000 in
/-- KeyMeetingModel.addWords([II)V -/
theorem c_G_addWords56 (l : Launch) (dC : Nat → ClassId) (dI : Nat → Nat → Nat) (cI cAA cB cL : ClassId) (o mt mn ml mc mh mk mp mm mb mw mr mx me mP mQ ms mo mW mD mB mR mS a : Nat) (th : Int32) (sta : Int32) (hs : Int32) (sz_ : Nat) (gmo : Nat → Int32) (ga : Nat → Int32) (fr : Nat) (sz : Nat) (hfr : fr + 7 < 56) (hsz : sz_ + 32 ≤ 320) : Met l zy_N_addWords zw_N_addWords { frames := 0, cells := 0, slots := 0, locals := 0 } (kz_Pc (dC, dI) vwCl [(cI, .int), (cAA, .array .int), (cB, .byte), (cL, .long)] [] [] [.ref o, .ref a, .int (nI (fr))] [(o, .inr (4, [.int th, .int sta, .ref mt, .ref mn, .ref ml, .ref mc, .ref mh, .ref mk, .ref mp, .ref mm, .ref mb, .ref mw, .ref mr, .ref mx, .ref me, .ref mP, .ref mQ, .ref ms, .int hs, .int (nI (sz_)), .ref mo, .ref mW, .ref mD, .ref mB, .ref mR, .ref mS])), (mo, .inl (cB, 320, .inl gmo))] [(a, .inl (cI, 56, .inl ga))] sz) (va_Qv (fun (u : Nat × (Nat → Int32)) => (u.1 = sz_ + 32) ∧ (kd_has u.2 sz_ (fun i => ga (fr + i))) ∧ (∀ j, j < sz_ → u.2 j = gmo j) ∧ True) (kz_B (dC, dI) vwCl (va_A [(o, .inr (4, [.int th, .int sta, .ref mt, .ref mn, .ref ml, .ref mc, .ref mh, .ref mk, .ref mp, .ref mm, .ref mb, .ref mw, .ref mr, .ref mx, .ref me, .ref mP, .ref mQ, .ref ms, .int hs, .int (nI (sz_)), .ref mo, .ref mW, .ref mD, .ref mB, .ref mR, .ref mS])), (mo, .inl (cB, 320, .inl gmo))] sz) (fun u : Nat × (Nat → Int32) => [(o, .inr (4, [.int th, .int sta, .ref mt, .ref mn, .ref ml, .ref mc, .ref mh, .ref mk, .ref mp, .ref mm, .ref mb, .ref mw, .ref mr, .ref mx, .ref me, .ref mP, .ref mQ, .ref ms, .int hs, .int (nI (u.1)), .ref mo, .ref mW, .ref mD, .ref mB, .ref mR, .ref mS])), (mo, .inl (cB, 320, .inl u.2))])) (va_A [(o, .inr (4, [.int th, .int sta, .ref mt, .ref mn, .ref ml, .ref mc, .ref mh, .ref mk, .ref mp, .ref mm, .ref mb, .ref mw, .ref mr, .ref mx, .ref me, .ref mP, .ref mQ, .ref ms, .int hs, .int (nI (sz_)), .ref mo, .ref mW, .ref mD, .ref mB, .ref mR, .ref mS])), (mo, .inl (cB, 320, .inl gmo))] sz)) 0 0 (va_A [(o, .inr (4, [.int th, .int sta, .ref mt, .ref mn, .ref ml, .ref mc, .ref mh, .ref mk, .ref mp, .ref mm, .ref mb, .ref mw, .ref mr, .ref mx, .ref me, .ref mP, .ref mQ, .ref ms, .int hs, .int (nI (sz_)), .ref mo, .ref mW, .ref mD, .ref mB, .ref mR, .ref mS])), (mo, .inl (cB, 320, .inl gmo))] sz) := by
  refine kz_met (y := zy_N_addWords) (ws := zw_N_addWords) (av := [.ref o, .ref a, .int (nI (fr))]) (sz := sz) (Qc := fun A => va_Qv (fun (u : Nat × (Nat → Int32)) => (u.1 = sz_ + 32) ∧ (kd_has u.2 sz_ (fun i => ga (fr + i))) ∧ (∀ j, j < sz_ → u.2 j = gmo j) ∧ True) (kz_B (dC, dI) vwCl A (fun u : Nat × (Nat → Int32) => [(o, .inr (4, [.int th, .int sta, .ref mt, .ref mn, .ref ml, .ref mc, .ref mh, .ref mk, .ref mp, .ref mm, .ref mb, .ref mw, .ref mr, .ref mx, .ref me, .ref mP, .ref mQ, .ref ms, .int hs, .int (nI (u.1)), .ref mo, .ref mW, .ref mD, .ref mB, .ref mR, .ref mS])), (mo, .inl (cB, 320, .inl u.2))])) A) (cc := zc_N_addWords) (maxL := 4) (ret := none) (by decide) rfl (Nat.le_of_ble_eq_true rfl) ?_
  intro p e s m below meth c A ls F hA hdy hK hro hZ hN hl
  obtain ⟨hx, hb, hml, hr, hown, hlocks, hts, hnm⟩ := id F
  have hl : lv_has ls 4 [(0, .ref o), (1, .ref a), (2, .int (nI (fr)))] := hl
  refine lv_iconst (v := (nI (0))) hx hb zd_N_addWords_0 (by decide) ?_
  refine lv_istore_n (lv' := [(3, .int (nI (0))), (0, .ref o), (1, .ref a), (2, .int (nI (fr)))]) hx hb zd_N_addWords_1 rfl hl (by decide) rfl (fun ls hl => ?_)
  have lp2 : ∀ (n2 k2 : Nat) (c1 : Nat) (f2 : Nat → Int32) (H : Heap) (locs : List Loc) (ls : Array Slot), k2 ≤ 32 → 32 - k2 < n2 → c1 = sz_ + k2 → (∀ j, j < k2 → f2 (sz_ + j) = kd_by (ga (fr + j / 4)) (j % 4)) → (∀ j, j < sz_ → f2 j = gmo j) → kz_dy (dC, dI) vwCl A s.heap H locs [(o, .inr (4, [.int th, .int sta, .ref mt, .ref mn, .ref ml, .ref mc, .ref mh, .ref mk, .ref mp, .ref mm, .ref mb, .ref mw, .ref mr, .ref mx, .ref me, .ref mP, .ref mQ, .ref ms, .int hs, .int (nI (c1)), .ref mo, .ref mW, .ref mD, .ref mB, .ref mR, .ref mS])), (mo, .inl (cB, 320, .inl f2))] → lv_has ls 4 [(3, .int (nI (k2))), (0, .ref o), (1, .ref a), (2, .int (nI (fr)))] → W p l e { frames := 0, cells := 0, slots := 0, locals := 0 } s m ([.ref o, .ref a, .int (nI (fr))] : List Value).toArray below meth c H locs 0 0 (MQ below (va_Qv (fun (u : Nat × (Nat → Int32)) => (u.1 = sz_ + 32) ∧ (kd_has u.2 sz_ (fun i => ga (fr + i))) ∧ (∀ j, j < sz_ → u.2 j = gmo j) ∧ True) (kz_B (dC, dI) vwCl A (fun u : Nat × (Nat → Int32) => [(o, .inr (4, [.int th, .int sta, .ref mt, .ref mn, .ref ml, .ref mc, .ref mh, .ref mk, .ref mp, .ref mm, .ref mb, .ref mw, .ref mr, .ref mx, .ref me, .ref mP, .ref mQ, .ref ms, .int hs, .int (nI (u.1)), .ref mo, .ref mW, .ref mD, .ref mB, .ref mR, .ref mS])), (mo, .inl (cB, 320, .inl u.2))])) A) ([.ref o, .ref a, .int (nI (fr))] : List Value).toArray s 0 0 A) (F0 m 2 ls []) := by
    intro n2
    induction n2 with
    | zero => intro k2; intros; omega
    | succ n2 ih2 =>
      intro k2 c1 f2 H locs ls hi2 hn2 hbc1 hb9 hp9 hdy hl
      refine lv_iload_n hx hb zd_N_addWords_2 rfl (lv_at hl 0 rfl) ?_
      refine lv_bipush (v := (nI (32))) hx hb zd_N_addWords_3 (by decide) ?_
      refine lv_icmp_ge (tgt := 51) hx hb zd_N_addWords_5 (by decide) (fun hc5 => ?_) (fun hc5 => ?_)
      · have hc5 : 32 ≤ k2 := (nI_leI (by omega) (by omega)).mp hc5
        exact kz_vret F (c1, f2) hdy (⟨by first | assumption | rfl | omega, by exact fun j hj => hb9 j (by omega), by exact hp9, trivial⟩) zd_N_addWords_51
      · have hc5 : ¬ 32 ≤ k2 := fun h9 => hc5 ((nI_leI (by omega) (by omega)).mpr h9)
        refine lv_aload_n hx hb zd_N_addWords_8 rfl (lv_at hl 1 rfl) ?_
        refine va_get (D := (dC, dI)) (ci := 4) (v := .ref mo) (C := zR_N) (T := zT_N) (N := 26) hx hb hts (fun w h => kz_c (zi_N w h)) hown hK hdy.1 0 rfl rfl 20 (by decide) (hts _ (kz_c mw_611)) (fun _ h9 => h9) rfl zd_N_addWords_9 ?_
        refine lv_aload_n hx hb zd_N_addWords_12 rfl (lv_at hl 1 rfl) ?_
        refine va_get (D := (dC, dI)) (ci := 4) (v := .int (nI (c1))) (C := zR_N) (T := zT_N) (N := 26) hx hb hts (fun w h => kz_c (zi_N w h)) hown hK hdy.1 0 rfl rfl 19 (by decide) (hts _ (kz_c mw_610)) (fun _ h9 => h9) rfl zd_N_addWords_13 ?_
        refine lv_aload_n hx hb zd_N_addWords_16 rfl (lv_at hl 2 rfl) ?_
        refine lv_iload_n hx hb zd_N_addWords_17 rfl (lv_at hl 3 rfl) ?_
        refine lv_iload_n hx hb zd_N_addWords_18 rfl (lv_at hl 0 rfl) ?_
        refine lv_iconst (v := (nI (4))) hx hb zd_N_addWords_19 (by decide) ?_
        refine kz_idiv hx hb zd_N_addWords_20 (by decide) (pk_div (by omega) (by omega) (by omega)) ?_
        refine kz_iadd hx hb zd_N_addWords_21 (nI_add _ _) ?_
        refine kz_riald hx hb hK hro hdy.2.2 0 0 rfl rfl (vp_in_nI (by omega) (by omega)) zd_N_addWords_22 ?_
        refine lv_topi (fun x3 h9 => ?_)
        obtain rfl : x3 = ga (fr + (k2 / 4)) := h9.trans (by rw [nI_clamp (by omega)])
        refine lv_bipush (v := (nI (24))) hx hb zd_N_addWords_23 (by decide) ?_
        refine lv_bipush (v := (nI (8))) hx hb zd_N_addWords_25 (by decide) ?_
        refine lv_iload_n hx hb zd_N_addWords_27 rfl (lv_at hl 0 rfl) ?_
        refine lv_iconst (v := (nI (4))) hx hb zd_N_addWords_28 (by decide) ?_
        refine kz_irem hx hb zd_N_addWords_29 (by decide) (pk_rem (by omega) (by omega) (by omega)) ?_
        refine kz_imul hx hb zd_N_addWords_30 (pk_mul _ _) ?_
        refine kz_isub hx hb zd_N_addWords_31 (pk_sub (by omega)) ?_
        refine lv_ishr hx hb zd_N_addWords_32 ?_
        refine lv_i2b (v := (((ga (fr + (k2 / 4))) >>> ((nI (24 - (8 * (k2 % 4)))) &&& 31))).toInt8.toInt32) hx hb zd_N_addWords_33 rfl ?_
        refine va_bast hx hb hK hdy.1 hdy.2.1 hdy.2.2 1 2 rfl rfl (vp_in_nI (by omega) (by omega)) zd_N_addWords_34 (fun H locs hP hD hS => ?_)
        rw [nI_clamp (by omega)] at hP hD
        obtain ⟨f4, ef4, hdy⟩ : ∃ f4 : Nat → Int32, f4 = upd f2 c1 (vp_nar .byte ((((ga (fr + (k2 / 4))) >>> ((nI (24 - (8 * (k2 % 4)))) &&& 31))).toInt8.toInt32)) ∧ kz_dy (dC, dI) vwCl A s.heap H locs [(o, .inr (4, [.int th, .int sta, .ref mt, .ref mn, .ref ml, .ref mc, .ref mh, .ref mk, .ref mp, .ref mm, .ref mb, .ref mw, .ref mr, .ref mx, .ref me, .ref mP, .ref mQ, .ref ms, .int hs, .int (nI (c1)), .ref mo, .ref mW, .ref mD, .ref mB, .ref mR, .ref mS])), (mo, .inl (cB, 320, .inl f4))] := ⟨_, rfl, hP, hD, hS⟩
        refine lv_aload_n hx hb zd_N_addWords_35 rfl (lv_at hl 1 rfl) ?_
        refine lv_dup hx hb zd_N_addWords_36 rfl ?_
        refine va_get (D := (dC, dI)) (ci := 4) (v := .int (nI (c1))) (C := zR_N) (T := zT_N) (N := 26) hx hb hts (fun w h => kz_c (zi_N w h)) hown hK hdy.1 0 rfl rfl 19 (by decide) (hts _ (kz_c mw_610)) (fun _ h9 => h9) rfl zd_N_addWords_37 ?_
        refine lv_iconst (v := (nI (1))) hx hb zd_N_addWords_40 (by decide) ?_
        refine kz_iadd hx hb zd_N_addWords_41 (nI_add _ _) ?_
        refine va_put (D := (dC, dI)) (ci := 4) (v := .int (nI (c1 + 1))) (ty := .int) (C := zR_N) (T := zT_N) (N := 26) hx hb hts (fun w h => kz_c (zi_N w h)) zt_N zo_N zn_N hown hK hdy.1 hdy.2.1 hdy.2.2 0 rfl rfl 19 (by decide) (hts _ (kz_c mw_610)) (fun _ h9 => h9) rfl (by decide +kernel) rfl rfl (Nat.le_of_ble_eq_true rfl) zd_N_addWords_42 (fun H locs hP hD hS => ?_)
        have hdy : kz_dy (dC, dI) vwCl A s.heap H locs [(o, .inr (4, [.int th, .int sta, .ref mt, .ref mn, .ref ml, .ref mc, .ref mh, .ref mk, .ref mp, .ref mm, .ref mb, .ref mw, .ref mr, .ref mx, .ref me, .ref mP, .ref mQ, .ref ms, .int hs, .int (nI (c1 + 1)), .ref mo, .ref mW, .ref mD, .ref mB, .ref mR, .ref mS])), (mo, .inl (cB, 320, .inl f4))] := ⟨hP, hD, hS⟩
        refine lv_iinc (v := (nI (k2 + 1))) (lv' := [(3, .int (nI (k2 + 1))), (0, .ref o), (1, .ref a), (2, .int (nI (fr)))]) hx hb zd_N_addWords_45 hl (k := 0) rfl (nI_1 _) (by decide) rfl (fun ls hl => ?_)
        refine lv_goto (tgt := 2) hx hb zd_N_addWords_48 (by decide) ?_
        have hi9_hb95 : ∀ j, j < k2 + 1 → f4 (sz_ + j) = kd_by (ga (fr + j / 4)) (j % 4) := by intro j hj; rw [ef4]; unfold upd; by_cases h9 : j = k2; (rw [if_pos (by omega), pk_vb, h9]; rfl); (rw [if_neg (by omega)]; exact hb9 j (by omega))
        have hi9_hp96 : ∀ j, j < sz_ → f4 j = gmo j := by intro j hj; rw [ef4]; unfold upd; rw [if_neg (by omega)]; exact hp9 j hj
        exact ih2 (k2 + 1) (c1 + 1) f4 _ _ _ (by omega) (by omega) (by omega) hi9_hb95 hi9_hp96 hdy (lv_sub hl [0, 1, 2, 3] rfl)
  have hi9_hb97 : ∀ j, j < 0 → gmo (sz_ + j) = kd_by (ga (fr + j / 4)) (j % 4) := by intro j hj; omega
  have hi9_hp98 : ∀ j, j < sz_ → gmo j = gmo j := by exact fun _ _ => rfl
  exact lp2 (32 - 0 + 1) 0 sz_ gmo _ _ _ (by omega) (by omega) (by omega) hi9_hb97 hi9_hp98 hdy (lv_sub hl [0, 1, 2, 3] rfl)

set_option maxHeartbeats 4000000 in
set_option maxRecDepth 100000 in
/-- KeyMeetingModel.addWords([II)V -/
theorem c_G_addWords32 (l : Launch) (dC : Nat → ClassId) (dI : Nat → Nat → Nat) (cI cAA cB cL : ClassId) (o mt mn ml mc mh mk mp mm mb mw mr mx me mP mQ ms mo mW mD mB mR mS a : Nat) (th : Int32) (sta : Int32) (hs : Int32) (sz_ : Nat) (gmo : Nat → Int32) (ga : Nat → Int32) (fr : Nat) (sz : Nat) (hfr : fr + 7 < 32) (hsz : sz_ + 32 ≤ 320) : Met l zy_N_addWords zw_N_addWords { frames := 0, cells := 0, slots := 0, locals := 0 } (kz_Pc (dC, dI) vwCl [(cI, .int), (cAA, .array .int), (cB, .byte), (cL, .long)] [] [] [.ref o, .ref a, .int (nI (fr))] [(o, .inr (4, [.int th, .int sta, .ref mt, .ref mn, .ref ml, .ref mc, .ref mh, .ref mk, .ref mp, .ref mm, .ref mb, .ref mw, .ref mr, .ref mx, .ref me, .ref mP, .ref mQ, .ref ms, .int hs, .int (nI (sz_)), .ref mo, .ref mW, .ref mD, .ref mB, .ref mR, .ref mS])), (mo, .inl (cB, 320, .inl gmo))] [(a, .inl (cI, 32, .inl ga))] sz) (va_Qv (fun (u : Nat × (Nat → Int32)) => (u.1 = sz_ + 32) ∧ (kd_has u.2 sz_ (fun i => ga (fr + i))) ∧ (∀ j, j < sz_ → u.2 j = gmo j) ∧ True) (kz_B (dC, dI) vwCl (va_A [(o, .inr (4, [.int th, .int sta, .ref mt, .ref mn, .ref ml, .ref mc, .ref mh, .ref mk, .ref mp, .ref mm, .ref mb, .ref mw, .ref mr, .ref mx, .ref me, .ref mP, .ref mQ, .ref ms, .int hs, .int (nI (sz_)), .ref mo, .ref mW, .ref mD, .ref mB, .ref mR, .ref mS])), (mo, .inl (cB, 320, .inl gmo))] sz) (fun u : Nat × (Nat → Int32) => [(o, .inr (4, [.int th, .int sta, .ref mt, .ref mn, .ref ml, .ref mc, .ref mh, .ref mk, .ref mp, .ref mm, .ref mb, .ref mw, .ref mr, .ref mx, .ref me, .ref mP, .ref mQ, .ref ms, .int hs, .int (nI (u.1)), .ref mo, .ref mW, .ref mD, .ref mB, .ref mR, .ref mS])), (mo, .inl (cB, 320, .inl u.2))])) (va_A [(o, .inr (4, [.int th, .int sta, .ref mt, .ref mn, .ref ml, .ref mc, .ref mh, .ref mk, .ref mp, .ref mm, .ref mb, .ref mw, .ref mr, .ref mx, .ref me, .ref mP, .ref mQ, .ref ms, .int hs, .int (nI (sz_)), .ref mo, .ref mW, .ref mD, .ref mB, .ref mR, .ref mS])), (mo, .inl (cB, 320, .inl gmo))] sz)) 0 0 (va_A [(o, .inr (4, [.int th, .int sta, .ref mt, .ref mn, .ref ml, .ref mc, .ref mh, .ref mk, .ref mp, .ref mm, .ref mb, .ref mw, .ref mr, .ref mx, .ref me, .ref mP, .ref mQ, .ref ms, .int hs, .int (nI (sz_)), .ref mo, .ref mW, .ref mD, .ref mB, .ref mR, .ref mS])), (mo, .inl (cB, 320, .inl gmo))] sz) := by
  refine kz_met (y := zy_N_addWords) (ws := zw_N_addWords) (av := [.ref o, .ref a, .int (nI (fr))]) (sz := sz) (Qc := fun A => va_Qv (fun (u : Nat × (Nat → Int32)) => (u.1 = sz_ + 32) ∧ (kd_has u.2 sz_ (fun i => ga (fr + i))) ∧ (∀ j, j < sz_ → u.2 j = gmo j) ∧ True) (kz_B (dC, dI) vwCl A (fun u : Nat × (Nat → Int32) => [(o, .inr (4, [.int th, .int sta, .ref mt, .ref mn, .ref ml, .ref mc, .ref mh, .ref mk, .ref mp, .ref mm, .ref mb, .ref mw, .ref mr, .ref mx, .ref me, .ref mP, .ref mQ, .ref ms, .int hs, .int (nI (u.1)), .ref mo, .ref mW, .ref mD, .ref mB, .ref mR, .ref mS])), (mo, .inl (cB, 320, .inl u.2))])) A) (cc := zc_N_addWords) (maxL := 4) (ret := none) (by decide) rfl (Nat.le_of_ble_eq_true rfl) ?_
  intro p e s m below meth c A ls F hA hdy hK hro hZ hN hl
  obtain ⟨hx, hb, hml, hr, hown, hlocks, hts, hnm⟩ := id F
  have hl : lv_has ls 4 [(0, .ref o), (1, .ref a), (2, .int (nI (fr)))] := hl
  refine lv_iconst (v := (nI (0))) hx hb zd_N_addWords_0 (by decide) ?_
  refine lv_istore_n (lv' := [(3, .int (nI (0))), (0, .ref o), (1, .ref a), (2, .int (nI (fr)))]) hx hb zd_N_addWords_1 rfl hl (by decide) rfl (fun ls hl => ?_)
  have lp2 : ∀ (n2 k2 : Nat) (c1 : Nat) (f2 : Nat → Int32) (H : Heap) (locs : List Loc) (ls : Array Slot), k2 ≤ 32 → 32 - k2 < n2 → c1 = sz_ + k2 → (∀ j, j < k2 → f2 (sz_ + j) = kd_by (ga (fr + j / 4)) (j % 4)) → (∀ j, j < sz_ → f2 j = gmo j) → kz_dy (dC, dI) vwCl A s.heap H locs [(o, .inr (4, [.int th, .int sta, .ref mt, .ref mn, .ref ml, .ref mc, .ref mh, .ref mk, .ref mp, .ref mm, .ref mb, .ref mw, .ref mr, .ref mx, .ref me, .ref mP, .ref mQ, .ref ms, .int hs, .int (nI (c1)), .ref mo, .ref mW, .ref mD, .ref mB, .ref mR, .ref mS])), (mo, .inl (cB, 320, .inl f2))] → lv_has ls 4 [(3, .int (nI (k2))), (0, .ref o), (1, .ref a), (2, .int (nI (fr)))] → W p l e { frames := 0, cells := 0, slots := 0, locals := 0 } s m ([.ref o, .ref a, .int (nI (fr))] : List Value).toArray below meth c H locs 0 0 (MQ below (va_Qv (fun (u : Nat × (Nat → Int32)) => (u.1 = sz_ + 32) ∧ (kd_has u.2 sz_ (fun i => ga (fr + i))) ∧ (∀ j, j < sz_ → u.2 j = gmo j) ∧ True) (kz_B (dC, dI) vwCl A (fun u : Nat × (Nat → Int32) => [(o, .inr (4, [.int th, .int sta, .ref mt, .ref mn, .ref ml, .ref mc, .ref mh, .ref mk, .ref mp, .ref mm, .ref mb, .ref mw, .ref mr, .ref mx, .ref me, .ref mP, .ref mQ, .ref ms, .int hs, .int (nI (u.1)), .ref mo, .ref mW, .ref mD, .ref mB, .ref mR, .ref mS])), (mo, .inl (cB, 320, .inl u.2))])) A) ([.ref o, .ref a, .int (nI (fr))] : List Value).toArray s 0 0 A) (F0 m 2 ls []) := by
    intro n2
    induction n2 with
    | zero => intro k2; intros; omega
    | succ n2 ih2 =>
      intro k2 c1 f2 H locs ls hi2 hn2 hbc1 hb9 hp9 hdy hl
      refine lv_iload_n hx hb zd_N_addWords_2 rfl (lv_at hl 0 rfl) ?_
      refine lv_bipush (v := (nI (32))) hx hb zd_N_addWords_3 (by decide) ?_
      refine lv_icmp_ge (tgt := 51) hx hb zd_N_addWords_5 (by decide) (fun hc5 => ?_) (fun hc5 => ?_)
      · have hc5 : 32 ≤ k2 := (nI_leI (by omega) (by omega)).mp hc5
        exact kz_vret F (c1, f2) hdy (⟨by first | assumption | rfl | omega, by exact fun j hj => hb9 j (by omega), by exact hp9, trivial⟩) zd_N_addWords_51
      · have hc5 : ¬ 32 ≤ k2 := fun h9 => hc5 ((nI_leI (by omega) (by omega)).mpr h9)
        refine lv_aload_n hx hb zd_N_addWords_8 rfl (lv_at hl 1 rfl) ?_
        refine va_get (D := (dC, dI)) (ci := 4) (v := .ref mo) (C := zR_N) (T := zT_N) (N := 26) hx hb hts (fun w h => kz_c (zi_N w h)) hown hK hdy.1 0 rfl rfl 20 (by decide) (hts _ (kz_c mw_611)) (fun _ h9 => h9) rfl zd_N_addWords_9 ?_
        refine lv_aload_n hx hb zd_N_addWords_12 rfl (lv_at hl 1 rfl) ?_
        refine va_get (D := (dC, dI)) (ci := 4) (v := .int (nI (c1))) (C := zR_N) (T := zT_N) (N := 26) hx hb hts (fun w h => kz_c (zi_N w h)) hown hK hdy.1 0 rfl rfl 19 (by decide) (hts _ (kz_c mw_610)) (fun _ h9 => h9) rfl zd_N_addWords_13 ?_
        refine lv_aload_n hx hb zd_N_addWords_16 rfl (lv_at hl 2 rfl) ?_
        refine lv_iload_n hx hb zd_N_addWords_17 rfl (lv_at hl 3 rfl) ?_
        refine lv_iload_n hx hb zd_N_addWords_18 rfl (lv_at hl 0 rfl) ?_
        refine lv_iconst (v := (nI (4))) hx hb zd_N_addWords_19 (by decide) ?_
        refine kz_idiv hx hb zd_N_addWords_20 (by decide) (pk_div (by omega) (by omega) (by omega)) ?_
        refine kz_iadd hx hb zd_N_addWords_21 (nI_add _ _) ?_
        refine kz_riald hx hb hK hro hdy.2.2 0 0 rfl rfl (vp_in_nI (by omega) (by omega)) zd_N_addWords_22 ?_
        refine lv_topi (fun x3 h9 => ?_)
        obtain rfl : x3 = ga (fr + (k2 / 4)) := h9.trans (by rw [nI_clamp (by omega)])
        refine lv_bipush (v := (nI (24))) hx hb zd_N_addWords_23 (by decide) ?_
        refine lv_bipush (v := (nI (8))) hx hb zd_N_addWords_25 (by decide) ?_
        refine lv_iload_n hx hb zd_N_addWords_27 rfl (lv_at hl 0 rfl) ?_
        refine lv_iconst (v := (nI (4))) hx hb zd_N_addWords_28 (by decide) ?_
        refine kz_irem hx hb zd_N_addWords_29 (by decide) (pk_rem (by omega) (by omega) (by omega)) ?_
        refine kz_imul hx hb zd_N_addWords_30 (pk_mul _ _) ?_
        refine kz_isub hx hb zd_N_addWords_31 (pk_sub (by omega)) ?_
        refine lv_ishr hx hb zd_N_addWords_32 ?_
        refine lv_i2b (v := (((ga (fr + (k2 / 4))) >>> ((nI (24 - (8 * (k2 % 4)))) &&& 31))).toInt8.toInt32) hx hb zd_N_addWords_33 rfl ?_
        refine va_bast hx hb hK hdy.1 hdy.2.1 hdy.2.2 1 2 rfl rfl (vp_in_nI (by omega) (by omega)) zd_N_addWords_34 (fun H locs hP hD hS => ?_)
        rw [nI_clamp (by omega)] at hP hD
        obtain ⟨f4, ef4, hdy⟩ : ∃ f4 : Nat → Int32, f4 = upd f2 c1 (vp_nar .byte ((((ga (fr + (k2 / 4))) >>> ((nI (24 - (8 * (k2 % 4)))) &&& 31))).toInt8.toInt32)) ∧ kz_dy (dC, dI) vwCl A s.heap H locs [(o, .inr (4, [.int th, .int sta, .ref mt, .ref mn, .ref ml, .ref mc, .ref mh, .ref mk, .ref mp, .ref mm, .ref mb, .ref mw, .ref mr, .ref mx, .ref me, .ref mP, .ref mQ, .ref ms, .int hs, .int (nI (c1)), .ref mo, .ref mW, .ref mD, .ref mB, .ref mR, .ref mS])), (mo, .inl (cB, 320, .inl f4))] := ⟨_, rfl, hP, hD, hS⟩
        refine lv_aload_n hx hb zd_N_addWords_35 rfl (lv_at hl 1 rfl) ?_
        refine lv_dup hx hb zd_N_addWords_36 rfl ?_
        refine va_get (D := (dC, dI)) (ci := 4) (v := .int (nI (c1))) (C := zR_N) (T := zT_N) (N := 26) hx hb hts (fun w h => kz_c (zi_N w h)) hown hK hdy.1 0 rfl rfl 19 (by decide) (hts _ (kz_c mw_610)) (fun _ h9 => h9) rfl zd_N_addWords_37 ?_
        refine lv_iconst (v := (nI (1))) hx hb zd_N_addWords_40 (by decide) ?_
        refine kz_iadd hx hb zd_N_addWords_41 (nI_add _ _) ?_
        refine va_put (D := (dC, dI)) (ci := 4) (v := .int (nI (c1 + 1))) (ty := .int) (C := zR_N) (T := zT_N) (N := 26) hx hb hts (fun w h => kz_c (zi_N w h)) zt_N zo_N zn_N hown hK hdy.1 hdy.2.1 hdy.2.2 0 rfl rfl 19 (by decide) (hts _ (kz_c mw_610)) (fun _ h9 => h9) rfl (by decide +kernel) rfl rfl (Nat.le_of_ble_eq_true rfl) zd_N_addWords_42 (fun H locs hP hD hS => ?_)
        have hdy : kz_dy (dC, dI) vwCl A s.heap H locs [(o, .inr (4, [.int th, .int sta, .ref mt, .ref mn, .ref ml, .ref mc, .ref mh, .ref mk, .ref mp, .ref mm, .ref mb, .ref mw, .ref mr, .ref mx, .ref me, .ref mP, .ref mQ, .ref ms, .int hs, .int (nI (c1 + 1)), .ref mo, .ref mW, .ref mD, .ref mB, .ref mR, .ref mS])), (mo, .inl (cB, 320, .inl f4))] := ⟨hP, hD, hS⟩
        refine lv_iinc (v := (nI (k2 + 1))) (lv' := [(3, .int (nI (k2 + 1))), (0, .ref o), (1, .ref a), (2, .int (nI (fr)))]) hx hb zd_N_addWords_45 hl (k := 0) rfl (nI_1 _) (by decide) rfl (fun ls hl => ?_)
        refine lv_goto (tgt := 2) hx hb zd_N_addWords_48 (by decide) ?_
        have hi9_hb95 : ∀ j, j < k2 + 1 → f4 (sz_ + j) = kd_by (ga (fr + j / 4)) (j % 4) := by intro j hj; rw [ef4]; unfold upd; by_cases h9 : j = k2; (rw [if_pos (by omega), pk_vb, h9]; rfl); (rw [if_neg (by omega)]; exact hb9 j (by omega))
        have hi9_hp96 : ∀ j, j < sz_ → f4 j = gmo j := by intro j hj; rw [ef4]; unfold upd; rw [if_neg (by omega)]; exact hp9 j hj
        exact ih2 (k2 + 1) (c1 + 1) f4 _ _ _ (by omega) (by omega) (by omega) hi9_hb95 hi9_hp96 hdy (lv_sub hl [0, 1, 2, 3] rfl)
  have hi9_hb97 : ∀ j, j < 0 → gmo (sz_ + j) = kd_by (ga (fr + j / 4)) (j % 4) := by intro j hj; omega
  have hi9_hp98 : ∀ j, j < sz_ → gmo j = gmo j := by exact fun _ _ => rfl
  exact lp2 (32 - 0 + 1) 0 sz_ gmo _ _ _ (by omega) (by omega) (by omega) hi9_hb97 hi9_hp98 hdy (lv_sub hl [0, 1, 2, 3] rfl)

set_option maxHeartbeats 4000000 in
set_option maxRecDepth 100000 in
/-- KeyMeetingModel.addWords([II)V -/
theorem c_G_addWords16 (l : Launch) (dC : Nat → ClassId) (dI : Nat → Nat → Nat) (cI cAA cB cL : ClassId) (o mt mn ml mc mh mk mp mm mb mw mr mx me mP mQ ms mo mW mD mB mR mS a : Nat) (th : Int32) (sta : Int32) (hs : Int32) (sz_ : Nat) (gmo : Nat → Int32) (ga : Nat → Int32) (fr : Nat) (sz : Nat) (hfr : fr + 7 < 16) (hsz : sz_ + 32 ≤ 320) : Met l zy_N_addWords zw_N_addWords { frames := 0, cells := 0, slots := 0, locals := 0 } (kz_Pc (dC, dI) vwCl [(cI, .int), (cAA, .array .int), (cB, .byte), (cL, .long)] [] [] [.ref o, .ref a, .int (nI (fr))] [(o, .inr (4, [.int th, .int sta, .ref mt, .ref mn, .ref ml, .ref mc, .ref mh, .ref mk, .ref mp, .ref mm, .ref mb, .ref mw, .ref mr, .ref mx, .ref me, .ref mP, .ref mQ, .ref ms, .int hs, .int (nI (sz_)), .ref mo, .ref mW, .ref mD, .ref mB, .ref mR, .ref mS])), (mo, .inl (cB, 320, .inl gmo))] [(a, .inl (cI, 16, .inl ga))] sz) (va_Qv (fun (u : Nat × (Nat → Int32)) => (u.1 = sz_ + 32) ∧ (kd_has u.2 sz_ (fun i => ga (fr + i))) ∧ (∀ j, j < sz_ → u.2 j = gmo j) ∧ True) (kz_B (dC, dI) vwCl (va_A [(o, .inr (4, [.int th, .int sta, .ref mt, .ref mn, .ref ml, .ref mc, .ref mh, .ref mk, .ref mp, .ref mm, .ref mb, .ref mw, .ref mr, .ref mx, .ref me, .ref mP, .ref mQ, .ref ms, .int hs, .int (nI (sz_)), .ref mo, .ref mW, .ref mD, .ref mB, .ref mR, .ref mS])), (mo, .inl (cB, 320, .inl gmo))] sz) (fun u : Nat × (Nat → Int32) => [(o, .inr (4, [.int th, .int sta, .ref mt, .ref mn, .ref ml, .ref mc, .ref mh, .ref mk, .ref mp, .ref mm, .ref mb, .ref mw, .ref mr, .ref mx, .ref me, .ref mP, .ref mQ, .ref ms, .int hs, .int (nI (u.1)), .ref mo, .ref mW, .ref mD, .ref mB, .ref mR, .ref mS])), (mo, .inl (cB, 320, .inl u.2))])) (va_A [(o, .inr (4, [.int th, .int sta, .ref mt, .ref mn, .ref ml, .ref mc, .ref mh, .ref mk, .ref mp, .ref mm, .ref mb, .ref mw, .ref mr, .ref mx, .ref me, .ref mP, .ref mQ, .ref ms, .int hs, .int (nI (sz_)), .ref mo, .ref mW, .ref mD, .ref mB, .ref mR, .ref mS])), (mo, .inl (cB, 320, .inl gmo))] sz)) 0 0 (va_A [(o, .inr (4, [.int th, .int sta, .ref mt, .ref mn, .ref ml, .ref mc, .ref mh, .ref mk, .ref mp, .ref mm, .ref mb, .ref mw, .ref mr, .ref mx, .ref me, .ref mP, .ref mQ, .ref ms, .int hs, .int (nI (sz_)), .ref mo, .ref mW, .ref mD, .ref mB, .ref mR, .ref mS])), (mo, .inl (cB, 320, .inl gmo))] sz) := by
  refine kz_met (y := zy_N_addWords) (ws := zw_N_addWords) (av := [.ref o, .ref a, .int (nI (fr))]) (sz := sz) (Qc := fun A => va_Qv (fun (u : Nat × (Nat → Int32)) => (u.1 = sz_ + 32) ∧ (kd_has u.2 sz_ (fun i => ga (fr + i))) ∧ (∀ j, j < sz_ → u.2 j = gmo j) ∧ True) (kz_B (dC, dI) vwCl A (fun u : Nat × (Nat → Int32) => [(o, .inr (4, [.int th, .int sta, .ref mt, .ref mn, .ref ml, .ref mc, .ref mh, .ref mk, .ref mp, .ref mm, .ref mb, .ref mw, .ref mr, .ref mx, .ref me, .ref mP, .ref mQ, .ref ms, .int hs, .int (nI (u.1)), .ref mo, .ref mW, .ref mD, .ref mB, .ref mR, .ref mS])), (mo, .inl (cB, 320, .inl u.2))])) A) (cc := zc_N_addWords) (maxL := 4) (ret := none) (by decide) rfl (Nat.le_of_ble_eq_true rfl) ?_
  intro p e s m below meth c A ls F hA hdy hK hro hZ hN hl
  obtain ⟨hx, hb, hml, hr, hown, hlocks, hts, hnm⟩ := id F
  have hl : lv_has ls 4 [(0, .ref o), (1, .ref a), (2, .int (nI (fr)))] := hl
  refine lv_iconst (v := (nI (0))) hx hb zd_N_addWords_0 (by decide) ?_
  refine lv_istore_n (lv' := [(3, .int (nI (0))), (0, .ref o), (1, .ref a), (2, .int (nI (fr)))]) hx hb zd_N_addWords_1 rfl hl (by decide) rfl (fun ls hl => ?_)
  have lp2 : ∀ (n2 k2 : Nat) (c1 : Nat) (f2 : Nat → Int32) (H : Heap) (locs : List Loc) (ls : Array Slot), k2 ≤ 32 → 32 - k2 < n2 → c1 = sz_ + k2 → (∀ j, j < k2 → f2 (sz_ + j) = kd_by (ga (fr + j / 4)) (j % 4)) → (∀ j, j < sz_ → f2 j = gmo j) → kz_dy (dC, dI) vwCl A s.heap H locs [(o, .inr (4, [.int th, .int sta, .ref mt, .ref mn, .ref ml, .ref mc, .ref mh, .ref mk, .ref mp, .ref mm, .ref mb, .ref mw, .ref mr, .ref mx, .ref me, .ref mP, .ref mQ, .ref ms, .int hs, .int (nI (c1)), .ref mo, .ref mW, .ref mD, .ref mB, .ref mR, .ref mS])), (mo, .inl (cB, 320, .inl f2))] → lv_has ls 4 [(3, .int (nI (k2))), (0, .ref o), (1, .ref a), (2, .int (nI (fr)))] → W p l e { frames := 0, cells := 0, slots := 0, locals := 0 } s m ([.ref o, .ref a, .int (nI (fr))] : List Value).toArray below meth c H locs 0 0 (MQ below (va_Qv (fun (u : Nat × (Nat → Int32)) => (u.1 = sz_ + 32) ∧ (kd_has u.2 sz_ (fun i => ga (fr + i))) ∧ (∀ j, j < sz_ → u.2 j = gmo j) ∧ True) (kz_B (dC, dI) vwCl A (fun u : Nat × (Nat → Int32) => [(o, .inr (4, [.int th, .int sta, .ref mt, .ref mn, .ref ml, .ref mc, .ref mh, .ref mk, .ref mp, .ref mm, .ref mb, .ref mw, .ref mr, .ref mx, .ref me, .ref mP, .ref mQ, .ref ms, .int hs, .int (nI (u.1)), .ref mo, .ref mW, .ref mD, .ref mB, .ref mR, .ref mS])), (mo, .inl (cB, 320, .inl u.2))])) A) ([.ref o, .ref a, .int (nI (fr))] : List Value).toArray s 0 0 A) (F0 m 2 ls []) := by
    intro n2
    induction n2 with
    | zero => intro k2; intros; omega
    | succ n2 ih2 =>
      intro k2 c1 f2 H locs ls hi2 hn2 hbc1 hb9 hp9 hdy hl
      refine lv_iload_n hx hb zd_N_addWords_2 rfl (lv_at hl 0 rfl) ?_
      refine lv_bipush (v := (nI (32))) hx hb zd_N_addWords_3 (by decide) ?_
      refine lv_icmp_ge (tgt := 51) hx hb zd_N_addWords_5 (by decide) (fun hc5 => ?_) (fun hc5 => ?_)
      · have hc5 : 32 ≤ k2 := (nI_leI (by omega) (by omega)).mp hc5
        exact kz_vret F (c1, f2) hdy (⟨by first | assumption | rfl | omega, by exact fun j hj => hb9 j (by omega), by exact hp9, trivial⟩) zd_N_addWords_51
      · have hc5 : ¬ 32 ≤ k2 := fun h9 => hc5 ((nI_leI (by omega) (by omega)).mpr h9)
        refine lv_aload_n hx hb zd_N_addWords_8 rfl (lv_at hl 1 rfl) ?_
        refine va_get (D := (dC, dI)) (ci := 4) (v := .ref mo) (C := zR_N) (T := zT_N) (N := 26) hx hb hts (fun w h => kz_c (zi_N w h)) hown hK hdy.1 0 rfl rfl 20 (by decide) (hts _ (kz_c mw_611)) (fun _ h9 => h9) rfl zd_N_addWords_9 ?_
        refine lv_aload_n hx hb zd_N_addWords_12 rfl (lv_at hl 1 rfl) ?_
        refine va_get (D := (dC, dI)) (ci := 4) (v := .int (nI (c1))) (C := zR_N) (T := zT_N) (N := 26) hx hb hts (fun w h => kz_c (zi_N w h)) hown hK hdy.1 0 rfl rfl 19 (by decide) (hts _ (kz_c mw_610)) (fun _ h9 => h9) rfl zd_N_addWords_13 ?_
        refine lv_aload_n hx hb zd_N_addWords_16 rfl (lv_at hl 2 rfl) ?_
        refine lv_iload_n hx hb zd_N_addWords_17 rfl (lv_at hl 3 rfl) ?_
        refine lv_iload_n hx hb zd_N_addWords_18 rfl (lv_at hl 0 rfl) ?_
        refine lv_iconst (v := (nI (4))) hx hb zd_N_addWords_19 (by decide) ?_
        refine kz_idiv hx hb zd_N_addWords_20 (by decide) (pk_div (by omega) (by omega) (by omega)) ?_
        refine kz_iadd hx hb zd_N_addWords_21 (nI_add _ _) ?_
        refine kz_riald hx hb hK hro hdy.2.2 0 0 rfl rfl (vp_in_nI (by omega) (by omega)) zd_N_addWords_22 ?_
        refine lv_topi (fun x3 h9 => ?_)
        obtain rfl : x3 = ga (fr + (k2 / 4)) := h9.trans (by rw [nI_clamp (by omega)])
        refine lv_bipush (v := (nI (24))) hx hb zd_N_addWords_23 (by decide) ?_
        refine lv_bipush (v := (nI (8))) hx hb zd_N_addWords_25 (by decide) ?_
        refine lv_iload_n hx hb zd_N_addWords_27 rfl (lv_at hl 0 rfl) ?_
        refine lv_iconst (v := (nI (4))) hx hb zd_N_addWords_28 (by decide) ?_
        refine kz_irem hx hb zd_N_addWords_29 (by decide) (pk_rem (by omega) (by omega) (by omega)) ?_
        refine kz_imul hx hb zd_N_addWords_30 (pk_mul _ _) ?_
        refine kz_isub hx hb zd_N_addWords_31 (pk_sub (by omega)) ?_
        refine lv_ishr hx hb zd_N_addWords_32 ?_
        refine lv_i2b (v := (((ga (fr + (k2 / 4))) >>> ((nI (24 - (8 * (k2 % 4)))) &&& 31))).toInt8.toInt32) hx hb zd_N_addWords_33 rfl ?_
        refine va_bast hx hb hK hdy.1 hdy.2.1 hdy.2.2 1 2 rfl rfl (vp_in_nI (by omega) (by omega)) zd_N_addWords_34 (fun H locs hP hD hS => ?_)
        rw [nI_clamp (by omega)] at hP hD
        obtain ⟨f4, ef4, hdy⟩ : ∃ f4 : Nat → Int32, f4 = upd f2 c1 (vp_nar .byte ((((ga (fr + (k2 / 4))) >>> ((nI (24 - (8 * (k2 % 4)))) &&& 31))).toInt8.toInt32)) ∧ kz_dy (dC, dI) vwCl A s.heap H locs [(o, .inr (4, [.int th, .int sta, .ref mt, .ref mn, .ref ml, .ref mc, .ref mh, .ref mk, .ref mp, .ref mm, .ref mb, .ref mw, .ref mr, .ref mx, .ref me, .ref mP, .ref mQ, .ref ms, .int hs, .int (nI (c1)), .ref mo, .ref mW, .ref mD, .ref mB, .ref mR, .ref mS])), (mo, .inl (cB, 320, .inl f4))] := ⟨_, rfl, hP, hD, hS⟩
        refine lv_aload_n hx hb zd_N_addWords_35 rfl (lv_at hl 1 rfl) ?_
        refine lv_dup hx hb zd_N_addWords_36 rfl ?_
        refine va_get (D := (dC, dI)) (ci := 4) (v := .int (nI (c1))) (C := zR_N) (T := zT_N) (N := 26) hx hb hts (fun w h => kz_c (zi_N w h)) hown hK hdy.1 0 rfl rfl 19 (by decide) (hts _ (kz_c mw_610)) (fun _ h9 => h9) rfl zd_N_addWords_37 ?_
        refine lv_iconst (v := (nI (1))) hx hb zd_N_addWords_40 (by decide) ?_
        refine kz_iadd hx hb zd_N_addWords_41 (nI_add _ _) ?_
        refine va_put (D := (dC, dI)) (ci := 4) (v := .int (nI (c1 + 1))) (ty := .int) (C := zR_N) (T := zT_N) (N := 26) hx hb hts (fun w h => kz_c (zi_N w h)) zt_N zo_N zn_N hown hK hdy.1 hdy.2.1 hdy.2.2 0 rfl rfl 19 (by decide) (hts _ (kz_c mw_610)) (fun _ h9 => h9) rfl (by decide +kernel) rfl rfl (Nat.le_of_ble_eq_true rfl) zd_N_addWords_42 (fun H locs hP hD hS => ?_)
        have hdy : kz_dy (dC, dI) vwCl A s.heap H locs [(o, .inr (4, [.int th, .int sta, .ref mt, .ref mn, .ref ml, .ref mc, .ref mh, .ref mk, .ref mp, .ref mm, .ref mb, .ref mw, .ref mr, .ref mx, .ref me, .ref mP, .ref mQ, .ref ms, .int hs, .int (nI (c1 + 1)), .ref mo, .ref mW, .ref mD, .ref mB, .ref mR, .ref mS])), (mo, .inl (cB, 320, .inl f4))] := ⟨hP, hD, hS⟩
        refine lv_iinc (v := (nI (k2 + 1))) (lv' := [(3, .int (nI (k2 + 1))), (0, .ref o), (1, .ref a), (2, .int (nI (fr)))]) hx hb zd_N_addWords_45 hl (k := 0) rfl (nI_1 _) (by decide) rfl (fun ls hl => ?_)
        refine lv_goto (tgt := 2) hx hb zd_N_addWords_48 (by decide) ?_
        have hi9_hb95 : ∀ j, j < k2 + 1 → f4 (sz_ + j) = kd_by (ga (fr + j / 4)) (j % 4) := by intro j hj; rw [ef4]; unfold upd; by_cases h9 : j = k2; (rw [if_pos (by omega), pk_vb, h9]; rfl); (rw [if_neg (by omega)]; exact hb9 j (by omega))
        have hi9_hp96 : ∀ j, j < sz_ → f4 j = gmo j := by intro j hj; rw [ef4]; unfold upd; rw [if_neg (by omega)]; exact hp9 j hj
        exact ih2 (k2 + 1) (c1 + 1) f4 _ _ _ (by omega) (by omega) (by omega) hi9_hb95 hi9_hp96 hdy (lv_sub hl [0, 1, 2, 3] rfl)
  have hi9_hb97 : ∀ j, j < 0 → gmo (sz_ + j) = kd_by (ga (fr + j / 4)) (j % 4) := by intro j hj; omega
  have hi9_hp98 : ∀ j, j < sz_ → gmo j = gmo j := by exact fun _ _ => rfl
  exact lp2 (32 - 0 + 1) 0 sz_ gmo _ _ _ (by omega) (by omega) (by omega) hi9_hb97 hi9_hp98 hdy (lv_sub hl [0, 1, 2, 3] rfl)

set_option maxHeartbeats 4000000 in
set_option maxRecDepth 100000 in
/-- KeyMeetingModel.addWords([II)V -/
theorem c_G_addWords8 (l : Launch) (dC : Nat → ClassId) (dI : Nat → Nat → Nat) (cI cAA cB cL : ClassId) (o mt mn ml mc mh mk mp mm mb mw mr mx me mP mQ ms mo mW mD mB mR mS a : Nat) (th : Int32) (sta : Int32) (hs : Int32) (sz_ : Nat) (gmo : Nat → Int32) (ga : Nat → Int32) (fr : Nat) (sz : Nat) (hfr : fr + 7 < 8) (hsz : sz_ + 32 ≤ 320) : Met l zy_N_addWords zw_N_addWords { frames := 0, cells := 0, slots := 0, locals := 0 } (kz_Pc (dC, dI) vwCl [(cI, .int), (cAA, .array .int), (cB, .byte), (cL, .long)] [] [] [.ref o, .ref a, .int (nI (fr))] [(o, .inr (4, [.int th, .int sta, .ref mt, .ref mn, .ref ml, .ref mc, .ref mh, .ref mk, .ref mp, .ref mm, .ref mb, .ref mw, .ref mr, .ref mx, .ref me, .ref mP, .ref mQ, .ref ms, .int hs, .int (nI (sz_)), .ref mo, .ref mW, .ref mD, .ref mB, .ref mR, .ref mS])), (mo, .inl (cB, 320, .inl gmo))] [(a, .inl (cI, 8, .inl ga))] sz) (va_Qv (fun (u : Nat × (Nat → Int32)) => (u.1 = sz_ + 32) ∧ (kd_has u.2 sz_ (fun i => ga (fr + i))) ∧ (∀ j, j < sz_ → u.2 j = gmo j) ∧ True) (kz_B (dC, dI) vwCl (va_A [(o, .inr (4, [.int th, .int sta, .ref mt, .ref mn, .ref ml, .ref mc, .ref mh, .ref mk, .ref mp, .ref mm, .ref mb, .ref mw, .ref mr, .ref mx, .ref me, .ref mP, .ref mQ, .ref ms, .int hs, .int (nI (sz_)), .ref mo, .ref mW, .ref mD, .ref mB, .ref mR, .ref mS])), (mo, .inl (cB, 320, .inl gmo))] sz) (fun u : Nat × (Nat → Int32) => [(o, .inr (4, [.int th, .int sta, .ref mt, .ref mn, .ref ml, .ref mc, .ref mh, .ref mk, .ref mp, .ref mm, .ref mb, .ref mw, .ref mr, .ref mx, .ref me, .ref mP, .ref mQ, .ref ms, .int hs, .int (nI (u.1)), .ref mo, .ref mW, .ref mD, .ref mB, .ref mR, .ref mS])), (mo, .inl (cB, 320, .inl u.2))])) (va_A [(o, .inr (4, [.int th, .int sta, .ref mt, .ref mn, .ref ml, .ref mc, .ref mh, .ref mk, .ref mp, .ref mm, .ref mb, .ref mw, .ref mr, .ref mx, .ref me, .ref mP, .ref mQ, .ref ms, .int hs, .int (nI (sz_)), .ref mo, .ref mW, .ref mD, .ref mB, .ref mR, .ref mS])), (mo, .inl (cB, 320, .inl gmo))] sz)) 0 0 (va_A [(o, .inr (4, [.int th, .int sta, .ref mt, .ref mn, .ref ml, .ref mc, .ref mh, .ref mk, .ref mp, .ref mm, .ref mb, .ref mw, .ref mr, .ref mx, .ref me, .ref mP, .ref mQ, .ref ms, .int hs, .int (nI (sz_)), .ref mo, .ref mW, .ref mD, .ref mB, .ref mR, .ref mS])), (mo, .inl (cB, 320, .inl gmo))] sz) := by
  refine kz_met (y := zy_N_addWords) (ws := zw_N_addWords) (av := [.ref o, .ref a, .int (nI (fr))]) (sz := sz) (Qc := fun A => va_Qv (fun (u : Nat × (Nat → Int32)) => (u.1 = sz_ + 32) ∧ (kd_has u.2 sz_ (fun i => ga (fr + i))) ∧ (∀ j, j < sz_ → u.2 j = gmo j) ∧ True) (kz_B (dC, dI) vwCl A (fun u : Nat × (Nat → Int32) => [(o, .inr (4, [.int th, .int sta, .ref mt, .ref mn, .ref ml, .ref mc, .ref mh, .ref mk, .ref mp, .ref mm, .ref mb, .ref mw, .ref mr, .ref mx, .ref me, .ref mP, .ref mQ, .ref ms, .int hs, .int (nI (u.1)), .ref mo, .ref mW, .ref mD, .ref mB, .ref mR, .ref mS])), (mo, .inl (cB, 320, .inl u.2))])) A) (cc := zc_N_addWords) (maxL := 4) (ret := none) (by decide) rfl (Nat.le_of_ble_eq_true rfl) ?_
  intro p e s m below meth c A ls F hA hdy hK hro hZ hN hl
  obtain ⟨hx, hb, hml, hr, hown, hlocks, hts, hnm⟩ := id F
  have hl : lv_has ls 4 [(0, .ref o), (1, .ref a), (2, .int (nI (fr)))] := hl
  refine lv_iconst (v := (nI (0))) hx hb zd_N_addWords_0 (by decide) ?_
  refine lv_istore_n (lv' := [(3, .int (nI (0))), (0, .ref o), (1, .ref a), (2, .int (nI (fr)))]) hx hb zd_N_addWords_1 rfl hl (by decide) rfl (fun ls hl => ?_)
  have lp2 : ∀ (n2 k2 : Nat) (c1 : Nat) (f2 : Nat → Int32) (H : Heap) (locs : List Loc) (ls : Array Slot), k2 ≤ 32 → 32 - k2 < n2 → c1 = sz_ + k2 → (∀ j, j < k2 → f2 (sz_ + j) = kd_by (ga (fr + j / 4)) (j % 4)) → (∀ j, j < sz_ → f2 j = gmo j) → kz_dy (dC, dI) vwCl A s.heap H locs [(o, .inr (4, [.int th, .int sta, .ref mt, .ref mn, .ref ml, .ref mc, .ref mh, .ref mk, .ref mp, .ref mm, .ref mb, .ref mw, .ref mr, .ref mx, .ref me, .ref mP, .ref mQ, .ref ms, .int hs, .int (nI (c1)), .ref mo, .ref mW, .ref mD, .ref mB, .ref mR, .ref mS])), (mo, .inl (cB, 320, .inl f2))] → lv_has ls 4 [(3, .int (nI (k2))), (0, .ref o), (1, .ref a), (2, .int (nI (fr)))] → W p l e { frames := 0, cells := 0, slots := 0, locals := 0 } s m ([.ref o, .ref a, .int (nI (fr))] : List Value).toArray below meth c H locs 0 0 (MQ below (va_Qv (fun (u : Nat × (Nat → Int32)) => (u.1 = sz_ + 32) ∧ (kd_has u.2 sz_ (fun i => ga (fr + i))) ∧ (∀ j, j < sz_ → u.2 j = gmo j) ∧ True) (kz_B (dC, dI) vwCl A (fun u : Nat × (Nat → Int32) => [(o, .inr (4, [.int th, .int sta, .ref mt, .ref mn, .ref ml, .ref mc, .ref mh, .ref mk, .ref mp, .ref mm, .ref mb, .ref mw, .ref mr, .ref mx, .ref me, .ref mP, .ref mQ, .ref ms, .int hs, .int (nI (u.1)), .ref mo, .ref mW, .ref mD, .ref mB, .ref mR, .ref mS])), (mo, .inl (cB, 320, .inl u.2))])) A) ([.ref o, .ref a, .int (nI (fr))] : List Value).toArray s 0 0 A) (F0 m 2 ls []) := by
    intro n2
    induction n2 with
    | zero => intro k2; intros; omega
    | succ n2 ih2 =>
      intro k2 c1 f2 H locs ls hi2 hn2 hbc1 hb9 hp9 hdy hl
      refine lv_iload_n hx hb zd_N_addWords_2 rfl (lv_at hl 0 rfl) ?_
      refine lv_bipush (v := (nI (32))) hx hb zd_N_addWords_3 (by decide) ?_
      refine lv_icmp_ge (tgt := 51) hx hb zd_N_addWords_5 (by decide) (fun hc5 => ?_) (fun hc5 => ?_)
      · have hc5 : 32 ≤ k2 := (nI_leI (by omega) (by omega)).mp hc5
        exact kz_vret F (c1, f2) hdy (⟨by first | assumption | rfl | omega, by exact fun j hj => hb9 j (by omega), by exact hp9, trivial⟩) zd_N_addWords_51
      · have hc5 : ¬ 32 ≤ k2 := fun h9 => hc5 ((nI_leI (by omega) (by omega)).mpr h9)
        refine lv_aload_n hx hb zd_N_addWords_8 rfl (lv_at hl 1 rfl) ?_
        refine va_get (D := (dC, dI)) (ci := 4) (v := .ref mo) (C := zR_N) (T := zT_N) (N := 26) hx hb hts (fun w h => kz_c (zi_N w h)) hown hK hdy.1 0 rfl rfl 20 (by decide) (hts _ (kz_c mw_611)) (fun _ h9 => h9) rfl zd_N_addWords_9 ?_
        refine lv_aload_n hx hb zd_N_addWords_12 rfl (lv_at hl 1 rfl) ?_
        refine va_get (D := (dC, dI)) (ci := 4) (v := .int (nI (c1))) (C := zR_N) (T := zT_N) (N := 26) hx hb hts (fun w h => kz_c (zi_N w h)) hown hK hdy.1 0 rfl rfl 19 (by decide) (hts _ (kz_c mw_610)) (fun _ h9 => h9) rfl zd_N_addWords_13 ?_
        refine lv_aload_n hx hb zd_N_addWords_16 rfl (lv_at hl 2 rfl) ?_
        refine lv_iload_n hx hb zd_N_addWords_17 rfl (lv_at hl 3 rfl) ?_
        refine lv_iload_n hx hb zd_N_addWords_18 rfl (lv_at hl 0 rfl) ?_
        refine lv_iconst (v := (nI (4))) hx hb zd_N_addWords_19 (by decide) ?_
        refine kz_idiv hx hb zd_N_addWords_20 (by decide) (pk_div (by omega) (by omega) (by omega)) ?_
        refine kz_iadd hx hb zd_N_addWords_21 (nI_add _ _) ?_
        refine kz_riald hx hb hK hro hdy.2.2 0 0 rfl rfl (vp_in_nI (by omega) (by omega)) zd_N_addWords_22 ?_
        refine lv_topi (fun x3 h9 => ?_)
        obtain rfl : x3 = ga (fr + (k2 / 4)) := h9.trans (by rw [nI_clamp (by omega)])
        refine lv_bipush (v := (nI (24))) hx hb zd_N_addWords_23 (by decide) ?_
        refine lv_bipush (v := (nI (8))) hx hb zd_N_addWords_25 (by decide) ?_
        refine lv_iload_n hx hb zd_N_addWords_27 rfl (lv_at hl 0 rfl) ?_
        refine lv_iconst (v := (nI (4))) hx hb zd_N_addWords_28 (by decide) ?_
        refine kz_irem hx hb zd_N_addWords_29 (by decide) (pk_rem (by omega) (by omega) (by omega)) ?_
        refine kz_imul hx hb zd_N_addWords_30 (pk_mul _ _) ?_
        refine kz_isub hx hb zd_N_addWords_31 (pk_sub (by omega)) ?_
        refine lv_ishr hx hb zd_N_addWords_32 ?_
        refine lv_i2b (v := (((ga (fr + (k2 / 4))) >>> ((nI (24 - (8 * (k2 % 4)))) &&& 31))).toInt8.toInt32) hx hb zd_N_addWords_33 rfl ?_
        refine va_bast hx hb hK hdy.1 hdy.2.1 hdy.2.2 1 2 rfl rfl (vp_in_nI (by omega) (by omega)) zd_N_addWords_34 (fun H locs hP hD hS => ?_)
        rw [nI_clamp (by omega)] at hP hD
        obtain ⟨f4, ef4, hdy⟩ : ∃ f4 : Nat → Int32, f4 = upd f2 c1 (vp_nar .byte ((((ga (fr + (k2 / 4))) >>> ((nI (24 - (8 * (k2 % 4)))) &&& 31))).toInt8.toInt32)) ∧ kz_dy (dC, dI) vwCl A s.heap H locs [(o, .inr (4, [.int th, .int sta, .ref mt, .ref mn, .ref ml, .ref mc, .ref mh, .ref mk, .ref mp, .ref mm, .ref mb, .ref mw, .ref mr, .ref mx, .ref me, .ref mP, .ref mQ, .ref ms, .int hs, .int (nI (c1)), .ref mo, .ref mW, .ref mD, .ref mB, .ref mR, .ref mS])), (mo, .inl (cB, 320, .inl f4))] := ⟨_, rfl, hP, hD, hS⟩
        refine lv_aload_n hx hb zd_N_addWords_35 rfl (lv_at hl 1 rfl) ?_
        refine lv_dup hx hb zd_N_addWords_36 rfl ?_
        refine va_get (D := (dC, dI)) (ci := 4) (v := .int (nI (c1))) (C := zR_N) (T := zT_N) (N := 26) hx hb hts (fun w h => kz_c (zi_N w h)) hown hK hdy.1 0 rfl rfl 19 (by decide) (hts _ (kz_c mw_610)) (fun _ h9 => h9) rfl zd_N_addWords_37 ?_
        refine lv_iconst (v := (nI (1))) hx hb zd_N_addWords_40 (by decide) ?_
        refine kz_iadd hx hb zd_N_addWords_41 (nI_add _ _) ?_
        refine va_put (D := (dC, dI)) (ci := 4) (v := .int (nI (c1 + 1))) (ty := .int) (C := zR_N) (T := zT_N) (N := 26) hx hb hts (fun w h => kz_c (zi_N w h)) zt_N zo_N zn_N hown hK hdy.1 hdy.2.1 hdy.2.2 0 rfl rfl 19 (by decide) (hts _ (kz_c mw_610)) (fun _ h9 => h9) rfl (by decide +kernel) rfl rfl (Nat.le_of_ble_eq_true rfl) zd_N_addWords_42 (fun H locs hP hD hS => ?_)
        have hdy : kz_dy (dC, dI) vwCl A s.heap H locs [(o, .inr (4, [.int th, .int sta, .ref mt, .ref mn, .ref ml, .ref mc, .ref mh, .ref mk, .ref mp, .ref mm, .ref mb, .ref mw, .ref mr, .ref mx, .ref me, .ref mP, .ref mQ, .ref ms, .int hs, .int (nI (c1 + 1)), .ref mo, .ref mW, .ref mD, .ref mB, .ref mR, .ref mS])), (mo, .inl (cB, 320, .inl f4))] := ⟨hP, hD, hS⟩
        refine lv_iinc (v := (nI (k2 + 1))) (lv' := [(3, .int (nI (k2 + 1))), (0, .ref o), (1, .ref a), (2, .int (nI (fr)))]) hx hb zd_N_addWords_45 hl (k := 0) rfl (nI_1 _) (by decide) rfl (fun ls hl => ?_)
        refine lv_goto (tgt := 2) hx hb zd_N_addWords_48 (by decide) ?_
        have hi9_hb95 : ∀ j, j < k2 + 1 → f4 (sz_ + j) = kd_by (ga (fr + j / 4)) (j % 4) := by intro j hj; rw [ef4]; unfold upd; by_cases h9 : j = k2; (rw [if_pos (by omega), pk_vb, h9]; rfl); (rw [if_neg (by omega)]; exact hb9 j (by omega))
        have hi9_hp96 : ∀ j, j < sz_ → f4 j = gmo j := by intro j hj; rw [ef4]; unfold upd; rw [if_neg (by omega)]; exact hp9 j hj
        exact ih2 (k2 + 1) (c1 + 1) f4 _ _ _ (by omega) (by omega) (by omega) hi9_hb95 hi9_hp96 hdy (lv_sub hl [0, 1, 2, 3] rfl)
  have hi9_hb97 : ∀ j, j < 0 → gmo (sz_ + j) = kd_by (ga (fr + j / 4)) (j % 4) := by intro j hj; omega
  have hi9_hp98 : ∀ j, j < sz_ → gmo j = gmo j := by exact fun _ _ => rfl
  exact lp2 (32 - 0 + 1) 0 sz_ gmo _ _ _ (by omega) (by omega) (by omega) hi9_hb97 hi9_hp98 hdy (lv_sub hl [0, 1, 2, 3] rfl)

set_option maxHeartbeats 4000000 in
set_option maxRecDepth 100000 in
/-- KeyMeetingModel.mix()V -/
theorem c_G_mix (l : Launch) (dC : Nat → ClassId) (dI : Nat → Nat → Nat) (cI cAA cB cL : ClassId) (mW mD mB o mt mn ml mc mh mk mp mm mb mw mr mx me mP mQ ms mo mR mS : Nat) (gmW : Nat → Int32) (gmD : Nat → Int32) (gmB : Nat → Int32) (th : Int32) (sta : Int32) (hs : Int32) (sz_ : Nat) (gmR : Nat → Int32) (sz : Nat) : Met l zy_N_mix zw_N_mix { frames := 1, cells := 0, slots := 0, locals := 21 } (kz_Pc (dC, dI) vwCl [(cI, .int), (cAA, .array .int), (cB, .byte), (cL, .long)] [] [] [.ref o] [(mW, .inl (cI, 64, .inl gmW)), (mD, .inl (cI, 8, .inl gmD)), (mB, .inl (cI, 8, .inl gmB))] [(o, .inr (4, [.int th, .int sta, .ref mt, .ref mn, .ref ml, .ref mc, .ref mh, .ref mk, .ref mp, .ref mm, .ref mb, .ref mw, .ref mr, .ref mx, .ref me, .ref mP, .ref mQ, .ref ms, .int hs, .int (nI (sz_)), .ref mo, .ref mW, .ref mD, .ref mB, .ref mR, .ref mS])), (mR, .inl (cI, 64, .inl gmR))] sz) (va_Qv (fun (u : (Nat → Int32) × (Nat → Int32) × (Nat → Int32)) => (∀ j, j < 8 → u.2.1 j = kd_mx gmR gmD gmW j) ∧ True) (kz_B (dC, dI) vwCl (va_A [(mW, .inl (cI, 64, .inl gmW)), (mD, .inl (cI, 8, .inl gmD)), (mB, .inl (cI, 8, .inl gmB))] sz) (fun u : (Nat → Int32) × (Nat → Int32) × (Nat → Int32) => [(mW, .inl (cI, 64, .inl u.1)), (mD, .inl (cI, 8, .inl u.2.1)), (mB, .inl (cI, 8, .inl u.2.2))])) (va_A [(mW, .inl (cI, 64, .inl gmW)), (mD, .inl (cI, 8, .inl gmD)), (mB, .inl (cI, 8, .inl gmB))] sz)) 0 0 (va_A [(mW, .inl (cI, 64, .inl gmW)), (mD, .inl (cI, 8, .inl gmD)), (mB, .inl (cI, 8, .inl gmB))] sz) := by
  refine kz_met (y := zy_N_mix) (ws := zw_N_mix) (av := [.ref o]) (sz := sz) (Qc := fun A => va_Qv (fun (u : (Nat → Int32) × (Nat → Int32) × (Nat → Int32)) => (∀ j, j < 8 → u.2.1 j = kd_mx gmR gmD gmW j) ∧ True) (kz_B (dC, dI) vwCl A (fun u : (Nat → Int32) × (Nat → Int32) × (Nat → Int32) => [(mW, .inl (cI, 64, .inl u.1)), (mD, .inl (cI, 8, .inl u.2.1)), (mB, .inl (cI, 8, .inl u.2.2))])) A) (cc := zc_N_mix) (maxL := 7) (ret := none) (by decide) rfl (Nat.le_of_ble_eq_true rfl) ?_
  intro p e s m below meth c A ls F hA hdy hK hro hZ hN hl
  obtain ⟨hx, hb, hml, hr, hown, hlocks, hts, hnm⟩ := id F
  have hl : lv_has ls 7 [(0, .ref o)] := hl
  refine lv_iconst (v := (nI (0))) hx hb zd_N_mix_0 (by decide) ?_
  refine lv_istore_n (lv' := [(1, .int (nI (0))), (0, .ref o)]) hx hb zd_N_mix_1 rfl hl (by decide) rfl (fun ls hl => ?_)
  have lp2 : ∀ (n2 k2 : Nat) (f1 : Nat → Int32) (H : Heap) (locs : List Loc) (ls : Array Slot), k2 ≤ 8 → 8 - k2 < n2 → (∀ j, j < k2 → f1 j = gmD j) → kz_dy (dC, dI) vwCl A s.heap H locs [(mW, .inl (cI, 64, .inl gmW)), (mD, .inl (cI, 8, .inl gmD)), (mB, .inl (cI, 8, .inl f1))] → lv_has ls 7 [(1, .int (nI (k2))), (0, .ref o)] → W p l e { frames := 1, cells := 0, slots := 0, locals := 21 } s m ([.ref o] : List Value).toArray below meth c H locs 0 0 (MQ below (va_Qv (fun (u : (Nat → Int32) × (Nat → Int32) × (Nat → Int32)) => (∀ j, j < 8 → u.2.1 j = kd_mx gmR gmD gmW j) ∧ True) (kz_B (dC, dI) vwCl A (fun u : (Nat → Int32) × (Nat → Int32) × (Nat → Int32) => [(mW, .inl (cI, 64, .inl u.1)), (mD, .inl (cI, 8, .inl u.2.1)), (mB, .inl (cI, 8, .inl u.2.2))])) A) ([.ref o] : List Value).toArray s 0 0 A) (F0 m 2 ls []) := by
    intro n2
    induction n2 with
    | zero => intro k2; intros; omega
    | succ n2 ih2 =>
      intro k2 f1 H locs ls hi2 hn2 hB9 hdy hl
      refine lv_iload_n hx hb zd_N_mix_2 rfl (lv_at hl 0 rfl) ?_
      refine lv_bipush (v := (nI (8))) hx hb zd_N_mix_3 (by decide) ?_
      refine lv_icmp_ge (tgt := 26) hx hb zd_N_mix_5 (by decide) (fun hc5 => ?_) (fun hc5 => ?_)
      · have hc5 : 8 ≤ k2 := (nI_leI (by omega) (by omega)).mp hc5
        refine lv_bipush (v := (nI (16))) hx hb zd_N_mix_26 (by decide) ?_
        refine lv_istore_n (lv' := [(1, .int (nI (16))), (0, .ref o)]) hx hb zd_N_mix_28 rfl hl (by decide) rfl (fun ls hl => ?_)
        have lp29 : ∀ (n29 k29 : Nat) (f2 : Nat → Int32) (H : Heap) (locs : List Loc) (ls : Array Slot), k29 ≤ 64 → 64 - k29 < n29 → 16 ≤ k29 → (f2 = kd_W gmW (k29 - 16)) → kz_dy (dC, dI) vwCl A s.heap H locs [(mW, .inl (cI, 64, .inl f2)), (mD, .inl (cI, 8, .inl gmD)), (mB, .inl (cI, 8, .inl f1))] → lv_has ls 7 [(1, .int (nI (k29))), (0, .ref o)] → W p l e { frames := 1, cells := 0, slots := 0, locals := 21 } s m ([.ref o] : List Value).toArray below meth c H locs 0 0 (MQ below (va_Qv (fun (u : (Nat → Int32) × (Nat → Int32) × (Nat → Int32)) => (∀ j, j < 8 → u.2.1 j = kd_mx gmR gmD gmW j) ∧ True) (kz_B (dC, dI) vwCl A (fun u : (Nat → Int32) × (Nat → Int32) × (Nat → Int32) => [(mW, .inl (cI, 64, .inl u.1)), (mD, .inl (cI, 8, .inl u.2.1)), (mB, .inl (cI, 8, .inl u.2.2))])) A) ([.ref o] : List Value).toArray s 0 0 A) (F0 m 29 ls []) := by
          intro n29
          induction n29 with
          | zero => intro k29; intros; omega
          | succ n29 ih29 =>
            intro k29 f2 H locs ls hi29 hn29 hblow hW hdy hl
            refine lv_iload_n hx hb zd_N_mix_29 rfl (lv_at hl 0 rfl) ?_
            refine lv_bipush (v := (nI (64))) hx hb zd_N_mix_30 (by decide) ?_
            refine lv_icmp_ge (tgt := 122) hx hb zd_N_mix_32 (by decide) (fun hc32 => ?_) (fun hc32 => ?_)
            · have hc32 : 64 ≤ k29 := (nI_leI (by omega) (by omega)).mp hc32
              have h64 : k29 = 64 := (by omega)
              rw [h64] at hW
              refine lv_iconst (v := (nI (0))) hx hb zd_N_mix_122 (by decide) ?_
              refine lv_istore_n (lv' := [(1, .int (nI (0))), (0, .ref o)]) hx hb zd_N_mix_123 rfl hl (by decide) rfl (fun ls hl => ?_)
              have lp124 : ∀ (n124 k124 : Nat) (f3 : Nat → Int32) (H : Heap) (locs : List Loc) (ls : Array Slot), k124 ≤ 64 → 64 - k124 < n124 → (∀ j, j < 8 → f3 j = kd_rn gmR f2 gmD (k124) j) → kz_dy (dC, dI) vwCl A s.heap H locs [(mW, .inl (cI, 64, .inl f2)), (mD, .inl (cI, 8, .inl f3)), (mB, .inl (cI, 8, .inl f1))] → lv_has ls 7 [(1, .int (nI (k124))), (0, .ref o)] → W p l e { frames := 1, cells := 0, slots := 0, locals := 21 } s m ([.ref o] : List Value).toArray below meth c H locs 0 0 (MQ below (va_Qv (fun (u : (Nat → Int32) × (Nat → Int32) × (Nat → Int32)) => (∀ j, j < 8 → u.2.1 j = kd_mx gmR gmD gmW j) ∧ True) (kz_B (dC, dI) vwCl A (fun u : (Nat → Int32) × (Nat → Int32) × (Nat → Int32) => [(mW, .inl (cI, 64, .inl u.1)), (mD, .inl (cI, 8, .inl u.2.1)), (mB, .inl (cI, 8, .inl u.2.2))])) A) ([.ref o] : List Value).toArray s 0 0 A) (F0 m 124 ls []) := by
                intro n124
                induction n124 with
                | zero => intro k124; intros; omega
                | succ n124 ih124 =>
                  intro k124 f3 H locs ls hi124 hn124 hD9 hdy hl
                  refine lv_iload_n hx hb zd_N_mix_124 rfl (lv_at hl 0 rfl) ?_
                  refine lv_bipush (v := (nI (64))) hx hb zd_N_mix_125 (by decide) ?_
                  refine lv_icmp_ge (tgt := 325) hx hb zd_N_mix_127 (by decide) (fun hc127 => ?_) (fun hc127 => ?_)
                  · have hc127 : 64 ≤ k124 := (nI_leI (by omega) (by omega)).mp hc127
                    have h64b : k124 = 64 := (by omega)
                    rw [h64b] at hD9
                    refine lv_iconst (v := (nI (0))) hx hb zd_N_mix_325 (by decide) ?_
                    refine lv_istore_n (lv' := [(1, .int (nI (0))), (0, .ref o)]) hx hb zd_N_mix_326 rfl hl (by decide) rfl (fun ls hl => ?_)
                    have lp327 : ∀ (n327 k327 : Nat) (f4 : Nat → Int32) (H : Heap) (locs : List Loc) (ls : Array Slot), k327 ≤ 8 → 8 - k327 < n327 → (∀ j, j < k327 → f4 j = f3 j + f1 j) → (∀ j, k327 ≤ j → f4 j = f3 j) → kz_dy (dC, dI) vwCl A s.heap H locs [(mW, .inl (cI, 64, .inl f2)), (mD, .inl (cI, 8, .inl f4)), (mB, .inl (cI, 8, .inl f1))] → lv_has ls 7 [(1, .int (nI (k327))), (0, .ref o)] → W p l e { frames := 1, cells := 0, slots := 0, locals := 21 } s m ([.ref o] : List Value).toArray below meth c H locs 0 0 (MQ below (va_Qv (fun (u : (Nat → Int32) × (Nat → Int32) × (Nat → Int32)) => (∀ j, j < 8 → u.2.1 j = kd_mx gmR gmD gmW j) ∧ True) (kz_B (dC, dI) vwCl A (fun u : (Nat → Int32) × (Nat → Int32) × (Nat → Int32) => [(mW, .inl (cI, 64, .inl u.1)), (mD, .inl (cI, 8, .inl u.2.1)), (mB, .inl (cI, 8, .inl u.2.2))])) A) ([.ref o] : List Value).toArray s 0 0 A) (F0 m 327 ls []) := by
                      intro n327
                      induction n327 with
                      | zero => intro k327; intros; omega
                      | succ n327 ih327 =>
                        intro k327 f4 H locs ls hi327 hn327 ha9 hb9 hdy hl
                        refine lv_iload_n hx hb zd_N_mix_327 rfl (lv_at hl 0 rfl) ?_
                        refine lv_bipush (v := (nI (8))) hx hb zd_N_mix_328 (by decide) ?_
                        refine lv_icmp_ge (tgt := 358) hx hb zd_N_mix_330 (by decide) (fun hc330 => ?_) (fun hc330 => ?_)
                        · have hc330 : 8 ≤ k327 := (nI_leI (by omega) (by omega)).mp hc330
                          exact kz_vret F (f2, f4, f1) hdy (⟨by intro j hj; show f4 j = _; rw [ha9 j (by omega), hD9 j hj, hB9 j (by omega), hW]; unfold kd_mx kd_add8; rw [if_pos hj]; exact Int32.add_comm _ _, trivial⟩) zd_N_mix_358
                        · have hc330 : ¬ 8 ≤ k327 := fun h9 => hc330 ((nI_leI (by omega) (by omega)).mpr h9)
                          refine lv_aload_n hx hb zd_N_mix_333 rfl (lv_at hl 1 rfl) ?_
                          refine va_get (D := (dC, dI)) (ci := 4) (v := .ref mD) (C := zR_N) (T := zT_N) (N := 26) hx hb hts (fun w h => kz_c (zi_N w h)) hown hK (hro.ob hdy.2.2 (k := 0) rfl) 0 rfl rfl 22 (by decide) (hts _ (kz_c mw_613)) (fun _ h9 => h9) rfl zd_N_mix_334 ?_
                          refine lv_iload_n hx hb zd_N_mix_337 rfl (lv_at hl 0 rfl) ?_
                          refine lv_aload_n hx hb zd_N_mix_338 rfl (lv_at hl 1 rfl) ?_
                          refine va_get (D := (dC, dI)) (ci := 4) (v := .ref mD) (C := zR_N) (T := zT_N) (N := 26) hx hb hts (fun w h => kz_c (zi_N w h)) hown hK (hro.ob hdy.2.2 (k := 0) rfl) 0 rfl rfl 22 (by decide) (hts _ (kz_c mw_613)) (fun _ h9 => h9) rfl zd_N_mix_339 ?_
                          refine lv_iload_n hx hb zd_N_mix_342 rfl (lv_at hl 0 rfl) ?_
                          refine va_iald hx hb hK hdy.1 1 0 rfl rfl (vp_in_nI (by omega) (by omega)) zd_N_mix_343 ?_
                          refine lv_topi (fun x5 h9 => ?_)
                          obtain rfl : x5 = f4 k327 := h9.trans (by rw [nI_clamp (by omega)])
                          refine lv_aload_n hx hb zd_N_mix_344 rfl (lv_at hl 1 rfl) ?_
                          refine va_get (D := (dC, dI)) (ci := 4) (v := .ref mB) (C := zR_N) (T := zT_N) (N := 26) hx hb hts (fun w h => kz_c (zi_N w h)) hown hK (hro.ob hdy.2.2 (k := 0) rfl) 0 rfl rfl 23 (by decide) (hts _ (kz_c mw_614)) (fun _ h9 => h9) rfl zd_N_mix_345 ?_
                          refine lv_iload_n hx hb zd_N_mix_348 rfl (lv_at hl 0 rfl) ?_
                          refine va_iald hx hb hK hdy.1 2 0 rfl rfl (vp_in_nI (by omega) (by omega)) zd_N_mix_349 ?_
                          refine lv_topi (fun x6 h9 => ?_)
                          obtain rfl : x6 = f1 k327 := h9.trans (by rw [nI_clamp (by omega)])
                          refine lv_iadd hx hb zd_N_mix_350 ?_
                          refine va_iast hx hb hK hdy.1 hdy.2.1 hdy.2.2 1 0 rfl rfl (vp_in_nI (by omega) (by omega)) zd_N_mix_351 (fun H locs hP hD hS => ?_)
                          rw [nI_clamp (by omega)] at hP hD
                          obtain ⟨f7, ef7, hdy⟩ : ∃ f7 : Nat → Int32, f7 = upd f4 k327 (((f4 k327) + (f1 k327))) ∧ kz_dy (dC, dI) vwCl A s.heap H locs [(mW, .inl (cI, 64, .inl f2)), (mD, .inl (cI, 8, .inl f7)), (mB, .inl (cI, 8, .inl f1))] := ⟨_, rfl, hP, hD, hS⟩
                          refine lv_iinc (v := (nI (k327 + 1))) (lv' := [(1, .int (nI (k327 + 1))), (0, .ref o)]) hx hb zd_N_mix_352 hl (k := 0) rfl (nI_1 _) (by decide) rfl (fun ls hl => ?_)
                          refine lv_goto (tgt := 327) hx hb zd_N_mix_355 (by decide) ?_
                          have hi9_ha98 : ∀ j, j < k327 + 1 → f7 j = f3 j + f1 j := by intro j hj; rw [ef7]; unfold upd; by_cases h9 : j = k327; (rw [if_pos h9, h9, hb9 k327 (Nat.le_refl _)]); (rw [if_neg h9]; exact ha9 j (by omega))
                          have hi9_hb99 : ∀ j, k327 + 1 ≤ j → f7 j = f3 j := by intro j hj; rw [ef7]; unfold upd; rw [if_neg (by omega)]; exact hb9 j (by omega)
                          exact ih327 (k327 + 1) f7 _ _ _ (by omega) (by omega) hi9_ha98 hi9_hb99 hdy (lv_sub hl [0, 1] rfl)
                    have hi9_ha910 : ∀ j, j < 0 → f3 j = f3 j + f1 j := by intro j hj; omega
                    have hi9_hb911 : ∀ j, 0 ≤ j → f3 j = f3 j := by exact fun _ _ => rfl
                    exact lp327 (8 - 0 + 1) 0 f3 _ _ _ (by omega) (by omega) hi9_ha910 hi9_hb911 hdy (lv_sub hl [0, 1] rfl)
                  · have hc127 : ¬ 64 ≤ k124 := fun h9 => hc127 ((nI_leI (by omega) (by omega)).mpr h9)
                    refine lv_aload_n hx hb zd_N_mix_130 rfl (lv_at hl 1 rfl) ?_
                    refine va_get (D := (dC, dI)) (ci := 4) (v := .ref mD) (C := zR_N) (T := zT_N) (N := 26) hx hb hts (fun w h => kz_c (zi_N w h)) hown hK (hro.ob hdy.2.2 (k := 0) rfl) 0 rfl rfl 22 (by decide) (hts _ (kz_c mw_613)) (fun _ h9 => h9) rfl zd_N_mix_131 ?_
                    refine lv_iconst (v := (nI (4))) hx hb zd_N_mix_134 (by decide) ?_
                    refine va_iald hx hb hK hdy.1 1 0 rfl rfl (vp_in_nI (by omega) (by omega)) zd_N_mix_135 ?_
                    refine lv_topi (fun x12 h9 => ?_)
                    obtain rfl : x12 = f3 4 := h9.trans (by rw [nI_clamp (by omega)])
                    refine lv_topi (fun x13 ex13 => ?_)
                    refine lv_istore_n (lv' := [(2, .int x13), (1, .int (nI (k124))), (0, .ref o)]) hx hb zd_N_mix_136 rfl hl (by decide) rfl (fun ls hl => ?_)
                    refine lv_aload_n hx hb zd_N_mix_137 rfl (lv_at hl 2 rfl) ?_
                    refine va_get (D := (dC, dI)) (ci := 4) (v := .ref mD) (C := zR_N) (T := zT_N) (N := 26) hx hb hts (fun w h => kz_c (zi_N w h)) hown hK (hro.ob hdy.2.2 (k := 0) rfl) 0 rfl rfl 22 (by decide) (hts _ (kz_c mw_613)) (fun _ h9 => h9) rfl zd_N_mix_138 ?_
                    refine lv_iconst (v := (nI (0))) hx hb zd_N_mix_141 (by decide) ?_
                    refine va_iald hx hb hK hdy.1 1 0 rfl rfl (vp_in_nI (by omega) (by omega)) zd_N_mix_142 ?_
                    refine lv_topi (fun x14 h9 => ?_)
                    obtain rfl : x14 = f3 0 := h9.trans (by rw [nI_clamp (by omega)])
                    refine lv_topi (fun x15 ex15 => ?_)
                    refine lv_istore_n (lv' := [(3, .int x15), (2, .int x13), (1, .int (nI (k124))), (0, .ref o)]) hx hb zd_N_mix_143 rfl hl (by decide) rfl (fun ls hl => ?_)
                    refine lv_aload_n hx hb zd_N_mix_144 rfl (lv_at hl 3 rfl) ?_
                    refine va_get (D := (dC, dI)) (ci := 4) (v := .ref mD) (C := zR_N) (T := zT_N) (N := 26) hx hb hts (fun w h => kz_c (zi_N w h)) hown hK (hro.ob hdy.2.2 (k := 0) rfl) 0 rfl rfl 22 (by decide) (hts _ (kz_c mw_613)) (fun _ h9 => h9) rfl zd_N_mix_145 ?_
                    refine lv_bipush (v := (nI (7))) hx hb zd_N_mix_148 (by decide) ?_
                    refine va_iald hx hb hK hdy.1 1 0 rfl rfl (vp_in_nI (by omega) (by omega)) zd_N_mix_150 ?_
                    refine lv_topi (fun x16 h9 => ?_)
                    obtain rfl : x16 = f3 7 := h9.trans (by rw [nI_clamp (by omega)])
                    refine lv_iload_n hx hb zd_N_mix_151 rfl (lv_at hl 1 rfl) ?_
                    refine lv_bipush (v := (nI (6))) hx hb zd_N_mix_152 (by decide) ?_
                    refine kz_calli (wk := [(mW, .inl (cI, 64, .inl f2)), (mD, .inl (cI, 8, .inl f3)), (mB, .inl (cI, 8, .inl f1))]) (va_runS (As := [.int x13, .int (nI (6))]) (rest := [.int (f3 7)]) ⟨hx, hb, hml, hown, hts⟩ (c_G_turn l dC dI cI cAA cB cL (x13) ((nI (6))) _) (va_cwS 2 hts (kz_g (kz_mc mw_764 (kz_mc mw_765 (kz_mc mw_43 kz_mn))) mw_766) rfl rfl rfl (by decide +kernel) ⟨Nat.le_of_ble_eq_true rfl, Nat.le_of_ble_eq_true rfl⟩) (kz_preS hdy hA hK hro hZ hN [] (by decide) rfl [] rfl (by decide) [0, 1, 2, 3] rfl (fun _ h => by cases h) (fun _ h => by cases h) rfl) rfl rfl hl.1 rfl (lv_room (Nat.le_of_ble_eq_true rfl)) zd_N_mix_154 ⟨Nat.le_of_ble_eq_true rfl, Nat.le_of_ble_eq_true rfl⟩) hdy hA [] [0, 1, 2] rfl rfl (by decide) (by decide) (fun r u H locs hw hdy => ?_)
                    obtain ⟨r17, rfl⟩ : ∃ z, z = r := ⟨_, rfl⟩
                    try dsimp only at hw
                    obtain ⟨q18, -⟩ := hw
                    have hdy : kz_dy (dC, dI) vwCl A s.heap H locs [(mW, .inl (cI, 64, .inl f2)), (mD, .inl (cI, 8, .inl f3)), (mB, .inl (cI, 8, .inl f1))] := hdy.sub [0, 1, 2] (by decide) rfl
                    refine lv_iload_n hx hb zd_N_mix_157 rfl (lv_at hl 1 rfl) ?_
                    refine lv_bipush (v := (nI (11))) hx hb zd_N_mix_158 (by decide) ?_
                    refine kz_calli (wk := [(mW, .inl (cI, 64, .inl f2)), (mD, .inl (cI, 8, .inl f3)), (mB, .inl (cI, 8, .inl f1))]) (va_runS (As := [.int x13, .int (nI (11))]) (rest := [.int r17, .int (f3 7)]) ⟨hx, hb, hml, hown, hts⟩ (c_G_turn l dC dI cI cAA cB cL (x13) ((nI (11))) _) (va_cwS 2 hts (kz_g (kz_mc mw_764 (kz_mc mw_765 (kz_mc mw_43 kz_mn))) mw_766) rfl rfl rfl (by decide +kernel) ⟨Nat.le_of_ble_eq_true rfl, Nat.le_of_ble_eq_true rfl⟩) (kz_preS hdy hA hK hro hZ hN [] (by decide) rfl [] rfl (by decide) [0, 1, 2, 3] rfl (fun _ h => by cases h) (fun _ h => by cases h) rfl) rfl rfl hl.1 rfl (lv_room (Nat.le_of_ble_eq_true rfl)) zd_N_mix_160 ⟨Nat.le_of_ble_eq_true rfl, Nat.le_of_ble_eq_true rfl⟩) hdy hA [] [0, 1, 2] rfl rfl (by decide) (by decide) (fun r u H locs hw hdy => ?_)
                    obtain ⟨r19, rfl⟩ : ∃ z, z = r := ⟨_, rfl⟩
                    try dsimp only at hw
                    obtain ⟨q20, -⟩ := hw
                    have hdy : kz_dy (dC, dI) vwCl A s.heap H locs [(mW, .inl (cI, 64, .inl f2)), (mD, .inl (cI, 8, .inl f3)), (mB, .inl (cI, 8, .inl f1))] := hdy.sub [0, 1, 2] (by decide) rfl
                    refine lv_ixor hx hb zd_N_mix_163 ?_
                    refine lv_iload_n hx hb zd_N_mix_164 rfl (lv_at hl 1 rfl) ?_
                    refine lv_bipush (v := (nI (25))) hx hb zd_N_mix_165 (by decide) ?_
                    refine kz_calli (wk := [(mW, .inl (cI, 64, .inl f2)), (mD, .inl (cI, 8, .inl f3)), (mB, .inl (cI, 8, .inl f1))]) (va_runS (As := [.int x13, .int (nI (25))]) (rest := [.int (r17 ^^^ r19), .int (f3 7)]) ⟨hx, hb, hml, hown, hts⟩ (c_G_turn l dC dI cI cAA cB cL (x13) ((nI (25))) _) (va_cwS 2 hts (kz_g (kz_mc mw_764 (kz_mc mw_765 (kz_mc mw_43 kz_mn))) mw_766) rfl rfl rfl (by decide +kernel) ⟨Nat.le_of_ble_eq_true rfl, Nat.le_of_ble_eq_true rfl⟩) (kz_preS hdy hA hK hro hZ hN [] (by decide) rfl [] rfl (by decide) [0, 1, 2, 3] rfl (fun _ h => by cases h) (fun _ h => by cases h) rfl) rfl rfl hl.1 rfl (lv_room (Nat.le_of_ble_eq_true rfl)) zd_N_mix_167 ⟨Nat.le_of_ble_eq_true rfl, Nat.le_of_ble_eq_true rfl⟩) hdy hA [] [0, 1, 2] rfl rfl (by decide) (by decide) (fun r u H locs hw hdy => ?_)
                    obtain ⟨r21, rfl⟩ : ∃ z, z = r := ⟨_, rfl⟩
                    try dsimp only at hw
                    obtain ⟨q22, -⟩ := hw
                    have hdy : kz_dy (dC, dI) vwCl A s.heap H locs [(mW, .inl (cI, 64, .inl f2)), (mD, .inl (cI, 8, .inl f3)), (mB, .inl (cI, 8, .inl f1))] := hdy.sub [0, 1, 2] (by decide) rfl
                    refine lv_ixor hx hb zd_N_mix_170 ?_
                    refine lv_iadd hx hb zd_N_mix_171 ?_
                    refine lv_iload_n hx hb zd_N_mix_172 rfl (lv_at hl 1 rfl) ?_
                    refine lv_aload_n hx hb zd_N_mix_173 rfl (lv_at hl 3 rfl) ?_
                    refine va_get (D := (dC, dI)) (ci := 4) (v := .ref mD) (C := zR_N) (T := zT_N) (N := 26) hx hb hts (fun w h => kz_c (zi_N w h)) hown hK (hro.ob hdy.2.2 (k := 0) rfl) 0 rfl rfl 22 (by decide) (hts _ (kz_c mw_613)) (fun _ h9 => h9) rfl zd_N_mix_174 ?_
                    refine lv_iconst (v := (nI (5))) hx hb zd_N_mix_177 (by decide) ?_
                    refine va_iald hx hb hK hdy.1 1 0 rfl rfl (vp_in_nI (by omega) (by omega)) zd_N_mix_178 ?_
                    refine lv_topi (fun x23 h9 => ?_)
                    obtain rfl : x23 = f3 5 := h9.trans (by rw [nI_clamp (by omega)])
                    refine lv_iand hx hb zd_N_mix_179 ?_
                    refine lv_iload_n hx hb zd_N_mix_180 rfl (lv_at hl 1 rfl) ?_
                    refine lv_iconst (v := (-1)) hx hb zd_N_mix_181 (by decide) ?_
                    refine lv_ixor hx hb zd_N_mix_182 ?_
                    refine lv_aload_n hx hb zd_N_mix_183 rfl (lv_at hl 3 rfl) ?_
                    refine va_get (D := (dC, dI)) (ci := 4) (v := .ref mD) (C := zR_N) (T := zT_N) (N := 26) hx hb hts (fun w h => kz_c (zi_N w h)) hown hK (hro.ob hdy.2.2 (k := 0) rfl) 0 rfl rfl 22 (by decide) (hts _ (kz_c mw_613)) (fun _ h9 => h9) rfl zd_N_mix_184 ?_
                    refine lv_bipush (v := (nI (6))) hx hb zd_N_mix_187 (by decide) ?_
                    refine va_iald hx hb hK hdy.1 1 0 rfl rfl (vp_in_nI (by omega) (by omega)) zd_N_mix_189 ?_
                    refine lv_topi (fun x24 h9 => ?_)
                    obtain rfl : x24 = f3 6 := h9.trans (by rw [nI_clamp (by omega)])
                    refine lv_iand hx hb zd_N_mix_190 ?_
                    refine lv_ixor hx hb zd_N_mix_191 ?_
                    refine lv_iadd hx hb zd_N_mix_192 ?_
                    refine lv_aload_n hx hb zd_N_mix_193 rfl (lv_at hl 3 rfl) ?_
                    refine va_get (D := (dC, dI)) (ci := 4) (v := .ref mR) (C := zR_N) (T := zT_N) (N := 26) hx hb hts (fun w h => kz_c (zi_N w h)) hown hK (hro.ob hdy.2.2 (k := 0) rfl) 0 rfl rfl 24 (by decide) (hts _ (kz_c mw_615)) (fun _ h9 => h9) rfl zd_N_mix_194 ?_
                    refine lv_iload_n hx hb zd_N_mix_197 rfl (lv_at hl 2 rfl) ?_
                    refine kz_riald hx hb hK hro hdy.2.2 1 0 rfl rfl (vp_in_nI (by omega) (by omega)) zd_N_mix_198 ?_
                    refine lv_topi (fun x25 h9 => ?_)
                    obtain rfl : x25 = gmR k124 := h9.trans (by rw [nI_clamp (by omega)])
                    refine lv_iadd hx hb zd_N_mix_199 ?_
                    refine lv_aload_n hx hb zd_N_mix_200 rfl (lv_at hl 3 rfl) ?_
                    refine va_get (D := (dC, dI)) (ci := 4) (v := .ref mW) (C := zR_N) (T := zT_N) (N := 26) hx hb hts (fun w h => kz_c (zi_N w h)) hown hK (hro.ob hdy.2.2 (k := 0) rfl) 0 rfl rfl 21 (by decide) (hts _ (kz_c mw_612)) (fun _ h9 => h9) rfl zd_N_mix_201 ?_
                    refine lv_iload_n hx hb zd_N_mix_204 rfl (lv_at hl 2 rfl) ?_
                    refine va_iald hx hb hK hdy.1 0 0 rfl rfl (vp_in_nI (by omega) (by omega)) zd_N_mix_205 ?_
                    refine lv_topi (fun x26 h9 => ?_)
                    obtain rfl : x26 = f2 k124 := h9.trans (by rw [nI_clamp (by omega)])
                    refine lv_iadd hx hb zd_N_mix_206 ?_
                    refine lv_topi (fun x27 ex27 => ?_)
                    refine lv_istore (lv' := [(4, .int x27), (3, .int x15), (2, .int x13), (1, .int (nI (k124))), (0, .ref o)]) hx hb zd_N_mix_207 hl (by decide) rfl (fun ls hl => ?_)
                    refine lv_iload_n hx hb zd_N_mix_209 rfl (lv_at hl 1 rfl) ?_
                    refine lv_iconst (v := (nI (2))) hx hb zd_N_mix_210 (by decide) ?_
                    refine kz_calli (wk := [(mW, .inl (cI, 64, .inl f2)), (mD, .inl (cI, 8, .inl f3)), (mB, .inl (cI, 8, .inl f1))]) (va_runS (As := [.int x15, .int (nI (2))]) (rest := []) ⟨hx, hb, hml, hown, hts⟩ (c_G_turn l dC dI cI cAA cB cL (x15) ((nI (2))) _) (va_cwS 2 hts (kz_g (kz_mc mw_764 (kz_mc mw_765 (kz_mc mw_43 kz_mn))) mw_766) rfl rfl rfl (by decide +kernel) ⟨Nat.le_of_ble_eq_true rfl, Nat.le_of_ble_eq_true rfl⟩) (kz_preS hdy hA hK hro hZ hN [] (by decide) rfl [] rfl (by decide) [0, 1, 2, 3] rfl (fun _ h => by cases h) (fun _ h => by cases h) rfl) rfl rfl hl.1 rfl (lv_room (Nat.le_of_ble_eq_true rfl)) zd_N_mix_211 ⟨Nat.le_of_ble_eq_true rfl, Nat.le_of_ble_eq_true rfl⟩) hdy hA [] [0, 1, 2] rfl rfl (by decide) (by decide) (fun r u H locs hw hdy => ?_)
                    obtain ⟨r28, rfl⟩ : ∃ z, z = r := ⟨_, rfl⟩
                    try dsimp only at hw
                    obtain ⟨q29, -⟩ := hw
                    have hdy : kz_dy (dC, dI) vwCl A s.heap H locs [(mW, .inl (cI, 64, .inl f2)), (mD, .inl (cI, 8, .inl f3)), (mB, .inl (cI, 8, .inl f1))] := hdy.sub [0, 1, 2] (by decide) rfl
                    refine lv_iload_n hx hb zd_N_mix_214 rfl (lv_at hl 1 rfl) ?_
                    refine lv_bipush (v := (nI (13))) hx hb zd_N_mix_215 (by decide) ?_
                    refine kz_calli (wk := [(mW, .inl (cI, 64, .inl f2)), (mD, .inl (cI, 8, .inl f3)), (mB, .inl (cI, 8, .inl f1))]) (va_runS (As := [.int x15, .int (nI (13))]) (rest := [.int r28]) ⟨hx, hb, hml, hown, hts⟩ (c_G_turn l dC dI cI cAA cB cL (x15) ((nI (13))) _) (va_cwS 2 hts (kz_g (kz_mc mw_764 (kz_mc mw_765 (kz_mc mw_43 kz_mn))) mw_766) rfl rfl rfl (by decide +kernel) ⟨Nat.le_of_ble_eq_true rfl, Nat.le_of_ble_eq_true rfl⟩) (kz_preS hdy hA hK hro hZ hN [] (by decide) rfl [] rfl (by decide) [0, 1, 2, 3] rfl (fun _ h => by cases h) (fun _ h => by cases h) rfl) rfl rfl hl.1 rfl (lv_room (Nat.le_of_ble_eq_true rfl)) zd_N_mix_217 ⟨Nat.le_of_ble_eq_true rfl, Nat.le_of_ble_eq_true rfl⟩) hdy hA [] [0, 1, 2] rfl rfl (by decide) (by decide) (fun r u H locs hw hdy => ?_)
                    obtain ⟨r30, rfl⟩ : ∃ z, z = r := ⟨_, rfl⟩
                    try dsimp only at hw
                    obtain ⟨q31, -⟩ := hw
                    have hdy : kz_dy (dC, dI) vwCl A s.heap H locs [(mW, .inl (cI, 64, .inl f2)), (mD, .inl (cI, 8, .inl f3)), (mB, .inl (cI, 8, .inl f1))] := hdy.sub [0, 1, 2] (by decide) rfl
                    refine lv_ixor hx hb zd_N_mix_220 ?_
                    refine lv_iload_n hx hb zd_N_mix_221 rfl (lv_at hl 1 rfl) ?_
                    refine lv_bipush (v := (nI (22))) hx hb zd_N_mix_222 (by decide) ?_
                    refine kz_calli (wk := [(mW, .inl (cI, 64, .inl f2)), (mD, .inl (cI, 8, .inl f3)), (mB, .inl (cI, 8, .inl f1))]) (va_runS (As := [.int x15, .int (nI (22))]) (rest := [.int (r28 ^^^ r30)]) ⟨hx, hb, hml, hown, hts⟩ (c_G_turn l dC dI cI cAA cB cL (x15) ((nI (22))) _) (va_cwS 2 hts (kz_g (kz_mc mw_764 (kz_mc mw_765 (kz_mc mw_43 kz_mn))) mw_766) rfl rfl rfl (by decide +kernel) ⟨Nat.le_of_ble_eq_true rfl, Nat.le_of_ble_eq_true rfl⟩) (kz_preS hdy hA hK hro hZ hN [] (by decide) rfl [] rfl (by decide) [0, 1, 2, 3] rfl (fun _ h => by cases h) (fun _ h => by cases h) rfl) rfl rfl hl.1 rfl (lv_room (Nat.le_of_ble_eq_true rfl)) zd_N_mix_224 ⟨Nat.le_of_ble_eq_true rfl, Nat.le_of_ble_eq_true rfl⟩) hdy hA [] [0, 1, 2] rfl rfl (by decide) (by decide) (fun r u H locs hw hdy => ?_)
                    obtain ⟨r32, rfl⟩ : ∃ z, z = r := ⟨_, rfl⟩
                    try dsimp only at hw
                    obtain ⟨q33, -⟩ := hw
                    have hdy : kz_dy (dC, dI) vwCl A s.heap H locs [(mW, .inl (cI, 64, .inl f2)), (mD, .inl (cI, 8, .inl f3)), (mB, .inl (cI, 8, .inl f1))] := hdy.sub [0, 1, 2] (by decide) rfl
                    refine lv_ixor hx hb zd_N_mix_227 ?_
                    refine lv_iload_n hx hb zd_N_mix_228 rfl (lv_at hl 1 rfl) ?_
                    refine lv_aload_n hx hb zd_N_mix_229 rfl (lv_at hl 4 rfl) ?_
                    refine va_get (D := (dC, dI)) (ci := 4) (v := .ref mD) (C := zR_N) (T := zT_N) (N := 26) hx hb hts (fun w h => kz_c (zi_N w h)) hown hK (hro.ob hdy.2.2 (k := 0) rfl) 0 rfl rfl 22 (by decide) (hts _ (kz_c mw_613)) (fun _ h9 => h9) rfl zd_N_mix_230 ?_
                    refine lv_iconst (v := (nI (1))) hx hb zd_N_mix_233 (by decide) ?_
                    refine va_iald hx hb hK hdy.1 1 0 rfl rfl (vp_in_nI (by omega) (by omega)) zd_N_mix_234 ?_
                    refine lv_topi (fun x34 h9 => ?_)
                    obtain rfl : x34 = f3 1 := h9.trans (by rw [nI_clamp (by omega)])
                    refine lv_iand hx hb zd_N_mix_235 ?_
                    refine lv_iload_n hx hb zd_N_mix_236 rfl (lv_at hl 1 rfl) ?_
                    refine lv_aload_n hx hb zd_N_mix_237 rfl (lv_at hl 4 rfl) ?_
                    refine va_get (D := (dC, dI)) (ci := 4) (v := .ref mD) (C := zR_N) (T := zT_N) (N := 26) hx hb hts (fun w h => kz_c (zi_N w h)) hown hK (hro.ob hdy.2.2 (k := 0) rfl) 0 rfl rfl 22 (by decide) (hts _ (kz_c mw_613)) (fun _ h9 => h9) rfl zd_N_mix_238 ?_
                    refine lv_iconst (v := (nI (2))) hx hb zd_N_mix_241 (by decide) ?_
                    refine va_iald hx hb hK hdy.1 1 0 rfl rfl (vp_in_nI (by omega) (by omega)) zd_N_mix_242 ?_
                    refine lv_topi (fun x35 h9 => ?_)
                    obtain rfl : x35 = f3 2 := h9.trans (by rw [nI_clamp (by omega)])
                    refine lv_iand hx hb zd_N_mix_243 ?_
                    refine lv_ixor hx hb zd_N_mix_244 ?_
                    refine lv_aload_n hx hb zd_N_mix_245 rfl (lv_at hl 4 rfl) ?_
                    refine va_get (D := (dC, dI)) (ci := 4) (v := .ref mD) (C := zR_N) (T := zT_N) (N := 26) hx hb hts (fun w h => kz_c (zi_N w h)) hown hK (hro.ob hdy.2.2 (k := 0) rfl) 0 rfl rfl 22 (by decide) (hts _ (kz_c mw_613)) (fun _ h9 => h9) rfl zd_N_mix_246 ?_
                    refine lv_iconst (v := (nI (1))) hx hb zd_N_mix_249 (by decide) ?_
                    refine va_iald hx hb hK hdy.1 1 0 rfl rfl (vp_in_nI (by omega) (by omega)) zd_N_mix_250 ?_
                    refine lv_topi (fun x36 h9 => ?_)
                    obtain rfl : x36 = f3 1 := h9.trans (by rw [nI_clamp (by omega)])
                    refine lv_aload_n hx hb zd_N_mix_251 rfl (lv_at hl 4 rfl) ?_
                    refine va_get (D := (dC, dI)) (ci := 4) (v := .ref mD) (C := zR_N) (T := zT_N) (N := 26) hx hb hts (fun w h => kz_c (zi_N w h)) hown hK (hro.ob hdy.2.2 (k := 0) rfl) 0 rfl rfl 22 (by decide) (hts _ (kz_c mw_613)) (fun _ h9 => h9) rfl zd_N_mix_252 ?_
                    refine lv_iconst (v := (nI (2))) hx hb zd_N_mix_255 (by decide) ?_
                    refine va_iald hx hb hK hdy.1 1 0 rfl rfl (vp_in_nI (by omega) (by omega)) zd_N_mix_256 ?_
                    refine lv_topi (fun x37 h9 => ?_)
                    obtain rfl : x37 = f3 2 := h9.trans (by rw [nI_clamp (by omega)])
                    refine lv_iand hx hb zd_N_mix_257 ?_
                    refine lv_ixor hx hb zd_N_mix_258 ?_
                    refine lv_iadd hx hb zd_N_mix_259 ?_
                    refine lv_topi (fun x38 ex38 => ?_)
                    refine lv_istore (lv' := [(5, .int x38), (4, .int x27), (3, .int x15), (2, .int x13), (1, .int (nI (k124))), (0, .ref o)]) hx hb zd_N_mix_260 hl (by decide) rfl (fun ls hl => ?_)
                    refine lv_bipush (v := (nI (7))) hx hb zd_N_mix_262 (by decide) ?_
                    refine lv_istore (lv' := [(6, .int (nI (7))), (5, .int x38), (4, .int x27), (3, .int x15), (2, .int x13), (1, .int (nI (k124))), (0, .ref o)]) hx hb zd_N_mix_264 hl (by decide) rfl (fun ls hl => ?_)
                    have lp266 : ∀ (n266 k266 : Nat) (f39 : Nat → Int32) (H : Heap) (locs : List Loc) (ls : Array Slot), k266 ≤ 7 → k266 < n266 → (∀ j, k266 < j → j < 8 → f39 j = f3 (j - 1)) → (∀ j, j ≤ k266 → f39 j = f3 j) → kz_dy (dC, dI) vwCl A s.heap H locs [(mW, .inl (cI, 64, .inl f2)), (mD, .inl (cI, 8, .inl f39)), (mB, .inl (cI, 8, .inl f1))] → lv_has ls 7 [(6, .int (nI (k266))), (5, .int x38), (4, .int x27), (3, .int x15), (2, .int x13), (1, .int (nI (k124))), (0, .ref o)] → W p l e { frames := 1, cells := 0, slots := 0, locals := 21 } s m ([.ref o] : List Value).toArray below meth c H locs 0 0 (MQ below (va_Qv (fun (u : (Nat → Int32) × (Nat → Int32) × (Nat → Int32)) => (∀ j, j < 8 → u.2.1 j = kd_mx gmR gmD gmW j) ∧ True) (kz_B (dC, dI) vwCl A (fun u : (Nat → Int32) × (Nat → Int32) × (Nat → Int32) => [(mW, .inl (cI, 64, .inl u.1)), (mD, .inl (cI, 8, .inl u.2.1)), (mB, .inl (cI, 8, .inl u.2.2))])) A) ([.ref o] : List Value).toArray s 0 0 A) (F0 m 266 ls []) := by
                      intro n266
                      induction n266 with
                      | zero => intro k266 f39 H locs ls hi266 hn266; exact absurd hn266 (Nat.not_lt_zero _)
                      | succ n266 ih266 =>
                        intro k266 f39 H locs ls hi266 hn266 hsh hkp hdy hl
                        refine lv_iload hx hb zd_N_mix_266 (lv_at hl 0 rfl) ?_
                        refine lv_if_le (tgt := 293) hx hb zd_N_mix_268 (by decide) (fun hc268 => ?_) (fun hc268 => ?_)
                        · have hc268 : k266 ≤ 0 := (nI_leI (by omega) (by omega)).mp (by rw [nI_0]; exact hc268)
                          refine lv_aload_n hx hb zd_N_mix_293 rfl (lv_at hl 6 rfl) ?_
                          refine va_get (D := (dC, dI)) (ci := 4) (v := .ref mD) (C := zR_N) (T := zT_N) (N := 26) hx hb hts (fun w h => kz_c (zi_N w h)) hown hK (hro.ob hdy.2.2 (k := 0) rfl) 0 rfl rfl 22 (by decide) (hts _ (kz_c mw_613)) (fun _ h9 => h9) rfl zd_N_mix_294 ?_
                          refine lv_iconst (v := (nI (4))) hx hb zd_N_mix_297 (by decide) ?_
                          refine lv_aload_n hx hb zd_N_mix_298 rfl (lv_at hl 6 rfl) ?_
                          refine va_get (D := (dC, dI)) (ci := 4) (v := .ref mD) (C := zR_N) (T := zT_N) (N := 26) hx hb hts (fun w h => kz_c (zi_N w h)) hown hK (hro.ob hdy.2.2 (k := 0) rfl) 0 rfl rfl 22 (by decide) (hts _ (kz_c mw_613)) (fun _ h9 => h9) rfl zd_N_mix_299 ?_
                          refine lv_iconst (v := (nI (4))) hx hb zd_N_mix_302 (by decide) ?_
                          refine va_iald hx hb hK hdy.1 1 0 rfl rfl (vp_in_nI (by omega) (by omega)) zd_N_mix_303 ?_
                          refine lv_topi (fun x40 h9 => ?_)
                          obtain rfl : x40 = f39 4 := h9.trans (by rw [nI_clamp (by omega)])
                          refine lv_iload hx hb zd_N_mix_304 (lv_at hl 2 rfl) ?_
                          refine lv_iadd hx hb zd_N_mix_306 ?_
                          refine va_iast hx hb hK hdy.1 hdy.2.1 hdy.2.2 1 0 rfl rfl (vp_in_nI (by omega) (by omega)) zd_N_mix_307 (fun H locs hP hD hS => ?_)
                          rw [nI_clamp (by omega)] at hP hD
                          obtain ⟨f41, ef41, hdy⟩ : ∃ f41 : Nat → Int32, f41 = upd f39 4 (((f39 4) + x27)) ∧ kz_dy (dC, dI) vwCl A s.heap H locs [(mW, .inl (cI, 64, .inl f2)), (mD, .inl (cI, 8, .inl f41)), (mB, .inl (cI, 8, .inl f1))] := ⟨_, rfl, hP, hD, hS⟩
                          refine lv_aload_n hx hb zd_N_mix_308 rfl (lv_at hl 6 rfl) ?_
                          refine va_get (D := (dC, dI)) (ci := 4) (v := .ref mD) (C := zR_N) (T := zT_N) (N := 26) hx hb hts (fun w h => kz_c (zi_N w h)) hown hK (hro.ob hdy.2.2 (k := 0) rfl) 0 rfl rfl 22 (by decide) (hts _ (kz_c mw_613)) (fun _ h9 => h9) rfl zd_N_mix_309 ?_
                          refine lv_iconst (v := (nI (0))) hx hb zd_N_mix_312 (by decide) ?_
                          refine lv_iload hx hb zd_N_mix_313 (lv_at hl 2 rfl) ?_
                          refine lv_iload hx hb zd_N_mix_315 (lv_at hl 1 rfl) ?_
                          refine lv_iadd hx hb zd_N_mix_317 ?_
                          refine va_iast hx hb hK hdy.1 hdy.2.1 hdy.2.2 1 0 rfl rfl (vp_in_nI (by omega) (by omega)) zd_N_mix_318 (fun H locs hP hD hS => ?_)
                          rw [nI_clamp (by omega)] at hP hD
                          obtain ⟨f42, ef42, hdy⟩ : ∃ f42 : Nat → Int32, f42 = upd f41 0 ((x27 + x38)) ∧ kz_dy (dC, dI) vwCl A s.heap H locs [(mW, .inl (cI, 64, .inl f2)), (mD, .inl (cI, 8, .inl f42)), (mB, .inl (cI, 8, .inl f1))] := ⟨_, rfl, hP, hD, hS⟩
                          refine lv_iinc (v := (nI (k124 + 1))) (lv' := [(1, .int (nI (k124 + 1))), (6, .int (nI (k266))), (5, .int x38), (4, .int x27), (3, .int x15), (2, .int x13), (0, .ref o)]) hx hb zd_N_mix_319 hl (k := 5) rfl (nI_1 _) (by decide) rfl (fun ls hl => ?_)
                          refine lv_goto (tgt := 124) hx hb zd_N_mix_322 (by decide) ?_
                          have hi9_hD943 : ∀ j, j < 8 → f42 j = kd_rn gmR f2 gmD (k124 + 1) j := by subst ex13 ex15 q18 q20 q22 ex27 q29 q31 q33 ex38; exact kd_arrStep hD9 (fun j a b => hsh j (by omega) b) ef41 ef42 rfl rfl
                          exact ih124 (k124 + 1) f42 _ _ _ (by omega) (by omega) hi9_hD943 hdy (lv_sub hl [0, 6] rfl)
                        · have hc268 : ¬ k266 ≤ 0 := fun h9 => hc268 (by have h8 := (nI_leI (by omega) (by omega)).mpr h9; rw [nI_0] at h8; exact h8)
                          refine lv_aload_n hx hb zd_N_mix_271 rfl (lv_at hl 6 rfl) ?_
                          refine va_get (D := (dC, dI)) (ci := 4) (v := .ref mD) (C := zR_N) (T := zT_N) (N := 26) hx hb hts (fun w h => kz_c (zi_N w h)) hown hK (hro.ob hdy.2.2 (k := 0) rfl) 0 rfl rfl 22 (by decide) (hts _ (kz_c mw_613)) (fun _ h9 => h9) rfl zd_N_mix_272 ?_
                          refine lv_iload hx hb zd_N_mix_275 (lv_at hl 0 rfl) ?_
                          refine lv_aload_n hx hb zd_N_mix_277 rfl (lv_at hl 6 rfl) ?_
                          refine va_get (D := (dC, dI)) (ci := 4) (v := .ref mD) (C := zR_N) (T := zT_N) (N := 26) hx hb hts (fun w h => kz_c (zi_N w h)) hown hK (hro.ob hdy.2.2 (k := 0) rfl) 0 rfl rfl 22 (by decide) (hts _ (kz_c mw_613)) (fun _ h9 => h9) rfl zd_N_mix_278 ?_
                          refine lv_iload hx hb zd_N_mix_281 (lv_at hl 0 rfl) ?_
                          refine lv_iconst (v := (nI (1))) hx hb zd_N_mix_283 (by decide) ?_
                          refine kz_isub hx hb zd_N_mix_284 (pk_sub (by omega)) ?_
                          refine va_iald hx hb hK hdy.1 1 0 rfl rfl (vp_in_nI (by omega) (by omega)) zd_N_mix_285 ?_
                          refine lv_topi (fun x44 h9 => ?_)
                          obtain rfl : x44 = f39 (k266 - 1) := h9.trans (by rw [nI_clamp (by omega)])
                          refine va_iast hx hb hK hdy.1 hdy.2.1 hdy.2.2 1 0 rfl rfl (vp_in_nI (by omega) (by omega)) zd_N_mix_286 (fun H locs hP hD hS => ?_)
                          rw [nI_clamp (by omega)] at hP hD
                          obtain ⟨f45, ef45, hdy⟩ : ∃ f45 : Nat → Int32, f45 = upd f39 k266 ((f39 (k266 - 1))) ∧ kz_dy (dC, dI) vwCl A s.heap H locs [(mW, .inl (cI, 64, .inl f2)), (mD, .inl (cI, 8, .inl f45)), (mB, .inl (cI, 8, .inl f1))] := ⟨_, rfl, hP, hD, hS⟩
                          refine lv_iinc (v := (nI (k266 - 1))) (lv' := [(6, .int (nI (k266 - 1))), (5, .int x38), (4, .int x27), (3, .int x15), (2, .int x13), (1, .int (nI (k124))), (0, .ref o)]) hx hb zd_N_mix_287 hl (k := 0) rfl (kz_dec (by omega)) (by decide) rfl (fun ls hl => ?_)
                          refine lv_goto (tgt := 266) hx hb zd_N_mix_290 (by decide) ?_
                          have hi9_hsh46 : ∀ j, k266 - 1 < j → j < 8 → f45 j = f3 (j - 1) := by intro j a b; rw [ef45]; unfold upd; rcases (by omega : j = k266 ∨ k266 < j) with h | h; (rw [if_pos h, h]; exact hkp (k266 - 1) (by omega)); (rw [if_neg (by omega)]; exact hsh j h b)
                          have hi9_hkp47 : ∀ j, j ≤ k266 - 1 → f45 j = f3 j := by intro j hj; rw [ef45]; unfold upd; rw [if_neg (by omega)]; exact hkp j (by omega)
                          exact ih266 (k266 - 1) f45 _ _ _ (by omega) (by omega) hi9_hsh46 hi9_hkp47 hdy (lv_sub hl [0, 1, 2, 3, 4, 5, 6] rfl)
                    have hi9_hsh48 : ∀ j, 7 < j → j < 8 → f3 j = f3 (j - 1) := by intro j a b; omega
                    have hi9_hkp49 : ∀ j, j ≤ 7 → f3 j = f3 j := by exact fun _ _ => rfl
                    exact lp266 (7 + 1) 7 f3 _ _ _ (by omega) (by omega) hi9_hsh48 hi9_hkp49 hdy (lv_sub hl [0, 1, 2, 3, 4, 5, 6] rfl)
              have hi9_hD950 : ∀ j, j < 8 → gmD j = kd_rn gmR f2 gmD (0) j := by exact fun _ _ => rfl
              exact lp124 (64 - 0 + 1) 0 gmD _ _ _ (by omega) (by omega) hi9_hD950 hdy (lv_sub hl [0, 1] rfl)
            · have hc32 : ¬ 64 ≤ k29 := fun h9 => hc32 ((nI_leI (by omega) (by omega)).mpr h9)
              refine lv_aload_n hx hb zd_N_mix_35 rfl (lv_at hl 1 rfl) ?_
              refine va_get (D := (dC, dI)) (ci := 4) (v := .ref mW) (C := zR_N) (T := zT_N) (N := 26) hx hb hts (fun w h => kz_c (zi_N w h)) hown hK (hro.ob hdy.2.2 (k := 0) rfl) 0 rfl rfl 21 (by decide) (hts _ (kz_c mw_612)) (fun _ h9 => h9) rfl zd_N_mix_36 ?_
              refine lv_iload_n hx hb zd_N_mix_39 rfl (lv_at hl 0 rfl) ?_
              refine lv_bipush (v := (nI (15))) hx hb zd_N_mix_40 (by decide) ?_
              refine kz_isub hx hb zd_N_mix_42 (pk_sub (by omega)) ?_
              refine va_iald hx hb hK hdy.1 0 0 rfl rfl (vp_in_nI (by omega) (by omega)) zd_N_mix_43 ?_
              refine lv_topi (fun x51 h9 => ?_)
              obtain rfl : x51 = f2 (k29 - 15) := h9.trans (by rw [nI_clamp (by omega)])
              refine lv_topi (fun x52 ex52 => ?_)
              refine lv_istore_n (lv' := [(2, .int x52), (1, .int (nI (k29))), (0, .ref o)]) hx hb zd_N_mix_44 rfl hl (by decide) rfl (fun ls hl => ?_)
              refine lv_aload_n hx hb zd_N_mix_45 rfl (lv_at hl 2 rfl) ?_
              refine va_get (D := (dC, dI)) (ci := 4) (v := .ref mW) (C := zR_N) (T := zT_N) (N := 26) hx hb hts (fun w h => kz_c (zi_N w h)) hown hK (hro.ob hdy.2.2 (k := 0) rfl) 0 rfl rfl 21 (by decide) (hts _ (kz_c mw_612)) (fun _ h9 => h9) rfl zd_N_mix_46 ?_
              refine lv_iload_n hx hb zd_N_mix_49 rfl (lv_at hl 1 rfl) ?_
              refine lv_iconst (v := (nI (2))) hx hb zd_N_mix_50 (by decide) ?_
              refine kz_isub hx hb zd_N_mix_51 (pk_sub (by omega)) ?_
              refine va_iald hx hb hK hdy.1 0 0 rfl rfl (vp_in_nI (by omega) (by omega)) zd_N_mix_52 ?_
              refine lv_topi (fun x53 h9 => ?_)
              obtain rfl : x53 = f2 (k29 - 2) := h9.trans (by rw [nI_clamp (by omega)])
              refine lv_topi (fun x54 ex54 => ?_)
              refine lv_istore_n (lv' := [(3, .int x54), (2, .int x52), (1, .int (nI (k29))), (0, .ref o)]) hx hb zd_N_mix_53 rfl hl (by decide) rfl (fun ls hl => ?_)
              refine lv_aload_n hx hb zd_N_mix_54 rfl (lv_at hl 3 rfl) ?_
              refine va_get (D := (dC, dI)) (ci := 4) (v := .ref mW) (C := zR_N) (T := zT_N) (N := 26) hx hb hts (fun w h => kz_c (zi_N w h)) hown hK (hro.ob hdy.2.2 (k := 0) rfl) 0 rfl rfl 21 (by decide) (hts _ (kz_c mw_612)) (fun _ h9 => h9) rfl zd_N_mix_55 ?_
              refine lv_iload_n hx hb zd_N_mix_58 rfl (lv_at hl 2 rfl) ?_
              refine lv_aload_n hx hb zd_N_mix_59 rfl (lv_at hl 3 rfl) ?_
              refine va_get (D := (dC, dI)) (ci := 4) (v := .ref mW) (C := zR_N) (T := zT_N) (N := 26) hx hb hts (fun w h => kz_c (zi_N w h)) hown hK (hro.ob hdy.2.2 (k := 0) rfl) 0 rfl rfl 21 (by decide) (hts _ (kz_c mw_612)) (fun _ h9 => h9) rfl zd_N_mix_60 ?_
              refine lv_iload_n hx hb zd_N_mix_63 rfl (lv_at hl 2 rfl) ?_
              refine lv_bipush (v := (nI (16))) hx hb zd_N_mix_64 (by decide) ?_
              refine kz_isub hx hb zd_N_mix_66 (pk_sub (by omega)) ?_
              refine va_iald hx hb hK hdy.1 0 0 rfl rfl (vp_in_nI (by omega) (by omega)) zd_N_mix_67 ?_
              refine lv_topi (fun x55 h9 => ?_)
              obtain rfl : x55 = f2 (k29 - 16) := h9.trans (by rw [nI_clamp (by omega)])
              refine lv_iload_n hx hb zd_N_mix_68 rfl (lv_at hl 1 rfl) ?_
              refine lv_bipush (v := (nI (7))) hx hb zd_N_mix_69 (by decide) ?_
              refine kz_calli (wk := [(mW, .inl (cI, 64, .inl f2)), (mD, .inl (cI, 8, .inl gmD)), (mB, .inl (cI, 8, .inl f1))]) (va_runS (As := [.int x52, .int (nI (7))]) (rest := [.int (f2 (k29 - 16)), .int (nI (k29)), .ref mW]) ⟨hx, hb, hml, hown, hts⟩ (c_G_turn l dC dI cI cAA cB cL (x52) ((nI (7))) _) (va_cwS 2 hts (kz_g (kz_mc mw_764 (kz_mc mw_765 (kz_mc mw_43 kz_mn))) mw_766) rfl rfl rfl (by decide +kernel) ⟨Nat.le_of_ble_eq_true rfl, Nat.le_of_ble_eq_true rfl⟩) (kz_preS hdy hA hK hro hZ hN [] (by decide) rfl [] rfl (by decide) [0, 1, 2, 3] rfl (fun _ h => by cases h) (fun _ h => by cases h) rfl) rfl rfl hl.1 rfl (lv_room (Nat.le_of_ble_eq_true rfl)) zd_N_mix_71 ⟨Nat.le_of_ble_eq_true rfl, Nat.le_of_ble_eq_true rfl⟩) hdy hA [] [0, 1, 2] rfl rfl (by decide) (by decide) (fun r u H locs hw hdy => ?_)
              obtain ⟨r56, rfl⟩ : ∃ z, z = r := ⟨_, rfl⟩
              try dsimp only at hw
              obtain ⟨q57, -⟩ := hw
              have hdy : kz_dy (dC, dI) vwCl A s.heap H locs [(mW, .inl (cI, 64, .inl f2)), (mD, .inl (cI, 8, .inl gmD)), (mB, .inl (cI, 8, .inl f1))] := hdy.sub [0, 1, 2] (by decide) rfl
              refine lv_iload_n hx hb zd_N_mix_74 rfl (lv_at hl 1 rfl) ?_
              refine lv_bipush (v := (nI (18))) hx hb zd_N_mix_75 (by decide) ?_
              refine kz_calli (wk := [(mW, .inl (cI, 64, .inl f2)), (mD, .inl (cI, 8, .inl gmD)), (mB, .inl (cI, 8, .inl f1))]) (va_runS (As := [.int x52, .int (nI (18))]) (rest := [.int r56, .int (f2 (k29 - 16)), .int (nI (k29)), .ref mW]) ⟨hx, hb, hml, hown, hts⟩ (c_G_turn l dC dI cI cAA cB cL (x52) ((nI (18))) _) (va_cwS 2 hts (kz_g (kz_mc mw_764 (kz_mc mw_765 (kz_mc mw_43 kz_mn))) mw_766) rfl rfl rfl (by decide +kernel) ⟨Nat.le_of_ble_eq_true rfl, Nat.le_of_ble_eq_true rfl⟩) (kz_preS hdy hA hK hro hZ hN [] (by decide) rfl [] rfl (by decide) [0, 1, 2, 3] rfl (fun _ h => by cases h) (fun _ h => by cases h) rfl) rfl rfl hl.1 rfl (lv_room (Nat.le_of_ble_eq_true rfl)) zd_N_mix_77 ⟨Nat.le_of_ble_eq_true rfl, Nat.le_of_ble_eq_true rfl⟩) hdy hA [] [0, 1, 2] rfl rfl (by decide) (by decide) (fun r u H locs hw hdy => ?_)
              obtain ⟨r58, rfl⟩ : ∃ z, z = r := ⟨_, rfl⟩
              try dsimp only at hw
              obtain ⟨q59, -⟩ := hw
              have hdy : kz_dy (dC, dI) vwCl A s.heap H locs [(mW, .inl (cI, 64, .inl f2)), (mD, .inl (cI, 8, .inl gmD)), (mB, .inl (cI, 8, .inl f1))] := hdy.sub [0, 1, 2] (by decide) rfl
              refine lv_ixor hx hb zd_N_mix_80 ?_
              refine lv_iload_n hx hb zd_N_mix_81 rfl (lv_at hl 1 rfl) ?_
              refine lv_iconst (v := (nI (3))) hx hb zd_N_mix_82 (by decide) ?_
              refine lv_iushr (v := kd_us x52 (nI (3))) hx hb zd_N_mix_83 rfl ?_
              refine lv_ixor hx hb zd_N_mix_84 ?_
              refine lv_iadd hx hb zd_N_mix_85 ?_
              refine lv_aload_n hx hb zd_N_mix_86 rfl (lv_at hl 3 rfl) ?_
              refine va_get (D := (dC, dI)) (ci := 4) (v := .ref mW) (C := zR_N) (T := zT_N) (N := 26) hx hb hts (fun w h => kz_c (zi_N w h)) hown hK (hro.ob hdy.2.2 (k := 0) rfl) 0 rfl rfl 21 (by decide) (hts _ (kz_c mw_612)) (fun _ h9 => h9) rfl zd_N_mix_87 ?_
              refine lv_iload_n hx hb zd_N_mix_90 rfl (lv_at hl 2 rfl) ?_
              refine lv_bipush (v := (nI (7))) hx hb zd_N_mix_91 (by decide) ?_
              refine kz_isub hx hb zd_N_mix_93 (pk_sub (by omega)) ?_
              refine va_iald hx hb hK hdy.1 0 0 rfl rfl (vp_in_nI (by omega) (by omega)) zd_N_mix_94 ?_
              refine lv_topi (fun x60 h9 => ?_)
              obtain rfl : x60 = f2 (k29 - 7) := h9.trans (by rw [nI_clamp (by omega)])
              refine lv_iadd hx hb zd_N_mix_95 ?_
              refine lv_iload_n hx hb zd_N_mix_96 rfl (lv_at hl 0 rfl) ?_
              refine lv_bipush (v := (nI (17))) hx hb zd_N_mix_97 (by decide) ?_
              refine kz_calli (wk := [(mW, .inl (cI, 64, .inl f2)), (mD, .inl (cI, 8, .inl gmD)), (mB, .inl (cI, 8, .inl f1))]) (va_runS (As := [.int x54, .int (nI (17))]) (rest := [.int (((f2 (k29 - 16)) + ((r56 ^^^ r58) ^^^ (kd_us x52 (nI (3))))) + (f2 (k29 - 7))), .int (nI (k29)), .ref mW]) ⟨hx, hb, hml, hown, hts⟩ (c_G_turn l dC dI cI cAA cB cL (x54) ((nI (17))) _) (va_cwS 2 hts (kz_g (kz_mc mw_764 (kz_mc mw_765 (kz_mc mw_43 kz_mn))) mw_766) rfl rfl rfl (by decide +kernel) ⟨Nat.le_of_ble_eq_true rfl, Nat.le_of_ble_eq_true rfl⟩) (kz_preS hdy hA hK hro hZ hN [] (by decide) rfl [] rfl (by decide) [0, 1, 2, 3] rfl (fun _ h => by cases h) (fun _ h => by cases h) rfl) rfl rfl hl.1 rfl (lv_room (Nat.le_of_ble_eq_true rfl)) zd_N_mix_99 ⟨Nat.le_of_ble_eq_true rfl, Nat.le_of_ble_eq_true rfl⟩) hdy hA [] [0, 1, 2] rfl rfl (by decide) (by decide) (fun r u H locs hw hdy => ?_)
              obtain ⟨r61, rfl⟩ : ∃ z, z = r := ⟨_, rfl⟩
              try dsimp only at hw
              obtain ⟨q62, -⟩ := hw
              have hdy : kz_dy (dC, dI) vwCl A s.heap H locs [(mW, .inl (cI, 64, .inl f2)), (mD, .inl (cI, 8, .inl gmD)), (mB, .inl (cI, 8, .inl f1))] := hdy.sub [0, 1, 2] (by decide) rfl
              refine lv_iload_n hx hb zd_N_mix_102 rfl (lv_at hl 0 rfl) ?_
              refine lv_bipush (v := (nI (19))) hx hb zd_N_mix_103 (by decide) ?_
              refine kz_calli (wk := [(mW, .inl (cI, 64, .inl f2)), (mD, .inl (cI, 8, .inl gmD)), (mB, .inl (cI, 8, .inl f1))]) (va_runS (As := [.int x54, .int (nI (19))]) (rest := [.int r61, .int (((f2 (k29 - 16)) + ((r56 ^^^ r58) ^^^ (kd_us x52 (nI (3))))) + (f2 (k29 - 7))), .int (nI (k29)), .ref mW]) ⟨hx, hb, hml, hown, hts⟩ (c_G_turn l dC dI cI cAA cB cL (x54) ((nI (19))) _) (va_cwS 2 hts (kz_g (kz_mc mw_764 (kz_mc mw_765 (kz_mc mw_43 kz_mn))) mw_766) rfl rfl rfl (by decide +kernel) ⟨Nat.le_of_ble_eq_true rfl, Nat.le_of_ble_eq_true rfl⟩) (kz_preS hdy hA hK hro hZ hN [] (by decide) rfl [] rfl (by decide) [0, 1, 2, 3] rfl (fun _ h => by cases h) (fun _ h => by cases h) rfl) rfl rfl hl.1 rfl (lv_room (Nat.le_of_ble_eq_true rfl)) zd_N_mix_105 ⟨Nat.le_of_ble_eq_true rfl, Nat.le_of_ble_eq_true rfl⟩) hdy hA [] [0, 1, 2] rfl rfl (by decide) (by decide) (fun r u H locs hw hdy => ?_)
              obtain ⟨r63, rfl⟩ : ∃ z, z = r := ⟨_, rfl⟩
              try dsimp only at hw
              obtain ⟨q64, -⟩ := hw
              have hdy : kz_dy (dC, dI) vwCl A s.heap H locs [(mW, .inl (cI, 64, .inl f2)), (mD, .inl (cI, 8, .inl gmD)), (mB, .inl (cI, 8, .inl f1))] := hdy.sub [0, 1, 2] (by decide) rfl
              refine lv_ixor hx hb zd_N_mix_108 ?_
              refine lv_iload_n hx hb zd_N_mix_109 rfl (lv_at hl 0 rfl) ?_
              refine lv_bipush (v := (nI (10))) hx hb zd_N_mix_110 (by decide) ?_
              refine lv_iushr (v := kd_us x54 (nI (10))) hx hb zd_N_mix_112 rfl ?_
              refine lv_ixor hx hb zd_N_mix_113 ?_
              refine lv_iadd hx hb zd_N_mix_114 ?_
              refine va_iast hx hb hK hdy.1 hdy.2.1 hdy.2.2 0 0 rfl rfl (vp_in_nI (by omega) (by omega)) zd_N_mix_115 (fun H locs hP hD hS => ?_)
              rw [nI_clamp (by omega)] at hP hD
              obtain ⟨f65, ef65, hdy⟩ : ∃ f65 : Nat → Int32, f65 = upd f2 k29 (((((f2 (k29 - 16)) + ((r56 ^^^ r58) ^^^ (kd_us x52 (nI (3))))) + (f2 (k29 - 7))) + ((r61 ^^^ r63) ^^^ (kd_us x54 (nI (10)))))) ∧ kz_dy (dC, dI) vwCl A s.heap H locs [(mW, .inl (cI, 64, .inl f65)), (mD, .inl (cI, 8, .inl gmD)), (mB, .inl (cI, 8, .inl f1))] := ⟨_, rfl, hP, hD, hS⟩
              refine lv_iinc (v := (nI (k29 + 1))) (lv' := [(1, .int (nI (k29 + 1))), (3, .int x54), (2, .int x52), (0, .ref o)]) hx hb zd_N_mix_116 hl (k := 2) rfl (nI_1 _) (by decide) rfl (fun ls hl => ?_)
              refine lv_goto (tgt := 29) hx hb zd_N_mix_119 (by decide) ?_
              have hi9_hW66 : f65 = kd_W gmW (k29 + 1 - 16) := by rw [ef65]; subst ex52 ex54 q57 q59 q62 q64; exact kd_Wstep (by omega) hW rfl
              exact ih29 (k29 + 1) f65 _ _ _ (by omega) (by omega) (by omega) hi9_hW66 hdy (lv_sub hl [0, 3] rfl)
        have hi9_hW67 : gmW = kd_W gmW (16 - 16) := by rfl
        exact lp29 (64 - 16 + 1) 16 gmW _ _ _ (by omega) (by omega) (by omega) hi9_hW67 hdy (lv_sub hl [0, 1] rfl)
      · have hc5 : ¬ 8 ≤ k2 := fun h9 => hc5 ((nI_leI (by omega) (by omega)).mpr h9)
        refine lv_aload_n hx hb zd_N_mix_8 rfl (lv_at hl 1 rfl) ?_
        refine va_get (D := (dC, dI)) (ci := 4) (v := .ref mB) (C := zR_N) (T := zT_N) (N := 26) hx hb hts (fun w h => kz_c (zi_N w h)) hown hK (hro.ob hdy.2.2 (k := 0) rfl) 0 rfl rfl 23 (by decide) (hts _ (kz_c mw_614)) (fun _ h9 => h9) rfl zd_N_mix_9 ?_
        refine lv_iload_n hx hb zd_N_mix_12 rfl (lv_at hl 0 rfl) ?_
        refine lv_aload_n hx hb zd_N_mix_13 rfl (lv_at hl 1 rfl) ?_
        refine va_get (D := (dC, dI)) (ci := 4) (v := .ref mD) (C := zR_N) (T := zT_N) (N := 26) hx hb hts (fun w h => kz_c (zi_N w h)) hown hK (hro.ob hdy.2.2 (k := 0) rfl) 0 rfl rfl 22 (by decide) (hts _ (kz_c mw_613)) (fun _ h9 => h9) rfl zd_N_mix_14 ?_
        refine lv_iload_n hx hb zd_N_mix_17 rfl (lv_at hl 0 rfl) ?_
        refine va_iald hx hb hK hdy.1 1 0 rfl rfl (vp_in_nI (by omega) (by omega)) zd_N_mix_18 ?_
        refine lv_topi (fun x68 h9 => ?_)
        obtain rfl : x68 = gmD k2 := h9.trans (by rw [nI_clamp (by omega)])
        refine va_iast hx hb hK hdy.1 hdy.2.1 hdy.2.2 2 0 rfl rfl (vp_in_nI (by omega) (by omega)) zd_N_mix_19 (fun H locs hP hD hS => ?_)
        rw [nI_clamp (by omega)] at hP hD
        obtain ⟨f69, ef69, hdy⟩ : ∃ f69 : Nat → Int32, f69 = upd f1 k2 ((gmD k2)) ∧ kz_dy (dC, dI) vwCl A s.heap H locs [(mW, .inl (cI, 64, .inl gmW)), (mD, .inl (cI, 8, .inl gmD)), (mB, .inl (cI, 8, .inl f69))] := ⟨_, rfl, hP, hD, hS⟩
        refine lv_iinc (v := (nI (k2 + 1))) (lv' := [(1, .int (nI (k2 + 1))), (0, .ref o)]) hx hb zd_N_mix_20 hl (k := 0) rfl (nI_1 _) (by decide) rfl (fun ls hl => ?_)
        refine lv_goto (tgt := 2) hx hb zd_N_mix_23 (by decide) ?_
        have hi9_hB970 : ∀ j, j < k2 + 1 → f69 j = gmD j := by rw [ef69]; exact kz_fillI hB9 rfl
        exact ih2 (k2 + 1) f69 _ _ _ (by omega) (by omega) hi9_hB970 hdy (lv_sub hl [0, 1] rfl)
  have hi9_hB971 : ∀ j, j < 0 → gmB j = gmD j := by intro j hj; omega
  exact lp2 (8 - 0 + 1) 0 gmB _ _ _ (by omega) (by omega) hi9_hB971 hdy (lv_sub hl [0, 1] rfl)

set_option maxHeartbeats 4000000 in
set_option maxRecDepth 100000 in
/-- KeyMeetingModel.reckon()V -/
theorem c_G_reckon (l : Launch) (dC : Nat → ClassId) (dI : Nat → Nat → Nat) (cI cAA cB cL : ClassId) (o mt mn ml mc mh mk mp mm mb mw mr mx me mP mQ ms mo mW mD mB mR mS : Nat) (th : Int32) (sta : Int32) (hs : Int32) (sz_ : Nat) (gmo : Nat → Int32) (gmW : Nat → Int32) (gmD : Nat → Int32) (gmB : Nat → Int32) (gmR : Nat → Int32) (gmS : Nat → Int32) (sz : Nat) (hsz : sz_ ≤ 192) : Met l zy_N_reckon zw_N_reckon { frames := 2, cells := 0, slots := 0, locals := 47 } (kz_Pc (dC, dI) vwCl [(cI, .int), (cAA, .array .int), (cB, .byte), (cL, .long)] [] [] [.ref o] [(o, .inr (4, [.int th, .int sta, .ref mt, .ref mn, .ref ml, .ref mc, .ref mh, .ref mk, .ref mp, .ref mm, .ref mb, .ref mw, .ref mr, .ref mx, .ref me, .ref mP, .ref mQ, .ref ms, .int hs, .int (nI (sz_)), .ref mo, .ref mW, .ref mD, .ref mB, .ref mR, .ref mS])), (mo, .inl (cB, 320, .inl gmo)), (mW, .inl (cI, 64, .inl gmW)), (mD, .inl (cI, 8, .inl gmD)), (mB, .inl (cI, 8, .inl gmB))] [(mR, .inl (cI, 64, .inl gmR)), (mS, .inl (cI, 8, .inl gmS))] sz) (va_Qv (fun (u : Nat × (Nat → Int32) × (Nat → Int32) × (Nat → Int32) × (Nat → Int32)) => (u.1 = 0) ∧ (∀ j, j < 8 → u.2.2.2.1 j = kd_H gmR gmS (kd_wd (kd_pd gmo sz_)) ((sz_ + 9 + 63) / 64) j) ∧ True) (kz_B (dC, dI) vwCl (va_A [(o, .inr (4, [.int th, .int sta, .ref mt, .ref mn, .ref ml, .ref mc, .ref mh, .ref mk, .ref mp, .ref mm, .ref mb, .ref mw, .ref mr, .ref mx, .ref me, .ref mP, .ref mQ, .ref ms, .int hs, .int (nI (sz_)), .ref mo, .ref mW, .ref mD, .ref mB, .ref mR, .ref mS])), (mo, .inl (cB, 320, .inl gmo)), (mW, .inl (cI, 64, .inl gmW)), (mD, .inl (cI, 8, .inl gmD)), (mB, .inl (cI, 8, .inl gmB))] sz) (fun u : Nat × (Nat → Int32) × (Nat → Int32) × (Nat → Int32) × (Nat → Int32) => [(o, .inr (4, [.int th, .int sta, .ref mt, .ref mn, .ref ml, .ref mc, .ref mh, .ref mk, .ref mp, .ref mm, .ref mb, .ref mw, .ref mr, .ref mx, .ref me, .ref mP, .ref mQ, .ref ms, .int hs, .int (nI (u.1)), .ref mo, .ref mW, .ref mD, .ref mB, .ref mR, .ref mS])), (mo, .inl (cB, 320, .inl u.2.1)), (mW, .inl (cI, 64, .inl u.2.2.1)), (mD, .inl (cI, 8, .inl u.2.2.2.1)), (mB, .inl (cI, 8, .inl u.2.2.2.2))])) (va_A [(o, .inr (4, [.int th, .int sta, .ref mt, .ref mn, .ref ml, .ref mc, .ref mh, .ref mk, .ref mp, .ref mm, .ref mb, .ref mw, .ref mr, .ref mx, .ref me, .ref mP, .ref mQ, .ref ms, .int hs, .int (nI (sz_)), .ref mo, .ref mW, .ref mD, .ref mB, .ref mR, .ref mS])), (mo, .inl (cB, 320, .inl gmo)), (mW, .inl (cI, 64, .inl gmW)), (mD, .inl (cI, 8, .inl gmD)), (mB, .inl (cI, 8, .inl gmB))] sz)) 0 0 (va_A [(o, .inr (4, [.int th, .int sta, .ref mt, .ref mn, .ref ml, .ref mc, .ref mh, .ref mk, .ref mp, .ref mm, .ref mb, .ref mw, .ref mr, .ref mx, .ref me, .ref mP, .ref mQ, .ref ms, .int hs, .int (nI (sz_)), .ref mo, .ref mW, .ref mD, .ref mB, .ref mR, .ref mS])), (mo, .inl (cB, 320, .inl gmo)), (mW, .inl (cI, 64, .inl gmW)), (mD, .inl (cI, 8, .inl gmD)), (mB, .inl (cI, 8, .inl gmB))] sz) := by
  refine kz_met (y := zy_N_reckon) (ws := zw_N_reckon) (av := [.ref o]) (sz := sz) (Qc := fun A => va_Qv (fun (u : Nat × (Nat → Int32) × (Nat → Int32) × (Nat → Int32) × (Nat → Int32)) => (u.1 = 0) ∧ (∀ j, j < 8 → u.2.2.2.1 j = kd_H gmR gmS (kd_wd (kd_pd gmo sz_)) ((sz_ + 9 + 63) / 64) j) ∧ True) (kz_B (dC, dI) vwCl A (fun u : Nat × (Nat → Int32) × (Nat → Int32) × (Nat → Int32) × (Nat → Int32) => [(o, .inr (4, [.int th, .int sta, .ref mt, .ref mn, .ref ml, .ref mc, .ref mh, .ref mk, .ref mp, .ref mm, .ref mb, .ref mw, .ref mr, .ref mx, .ref me, .ref mP, .ref mQ, .ref ms, .int hs, .int (nI (u.1)), .ref mo, .ref mW, .ref mD, .ref mB, .ref mR, .ref mS])), (mo, .inl (cB, 320, .inl u.2.1)), (mW, .inl (cI, 64, .inl u.2.2.1)), (mD, .inl (cI, 8, .inl u.2.2.2.1)), (mB, .inl (cI, 8, .inl u.2.2.2.2))])) A) (cc := zc_N_reckon) (maxL := 6) (ret := none) (by decide) rfl (Nat.le_of_ble_eq_true rfl) ?_
  intro p e s m below meth c A ls F hA hdy hK hro hZ hN hl
  obtain ⟨hx, hb, hml, hr, hown, hlocks, hts, hnm⟩ := id F
  have hl : lv_has ls 6 [(0, .ref o)] := hl
  refine lv_aload_n hx hb zd_N_reckon_0 rfl (lv_at hl 0 rfl) ?_
  refine va_get (D := (dC, dI)) (ci := 4) (v := .int (nI (sz_))) (C := zR_N) (T := zT_N) (N := 26) hx hb hts (fun w h => kz_c (zi_N w h)) hown hK hdy.1 0 rfl rfl 19 (by decide) (hts _ (kz_c mw_610)) (fun _ h9 => h9) rfl zd_N_reckon_1 ?_
  refine lv_istore_n (lv' := [(1, .int (nI (sz_))), (0, .ref o)]) hx hb zd_N_reckon_4 rfl hl (by decide) rfl (fun ls hl => ?_)
  refine lv_aload_n hx hb zd_N_reckon_5 rfl (lv_at hl 1 rfl) ?_
  refine lv_iconst (v := (nI (0))) hx hb zd_N_reckon_6 (by decide) ?_
  refine va_put (D := (dC, dI)) (ci := 4) (v := .int (nI (0))) (ty := .int) (C := zR_N) (T := zT_N) (N := 26) hx hb hts (fun w h => kz_c (zi_N w h)) zt_N zo_N zn_N hown hK hdy.1 hdy.2.1 hdy.2.2 0 rfl rfl 19 (by decide) (hts _ (kz_c mw_610)) (fun _ h9 => h9) rfl (by decide +kernel) rfl rfl (Nat.le_of_ble_eq_true rfl) zd_N_reckon_7 (fun H locs hP hD hS => ?_)
  have hdy : kz_dy (dC, dI) vwCl A s.heap H locs [(o, .inr (4, [.int th, .int sta, .ref mt, .ref mn, .ref ml, .ref mc, .ref mh, .ref mk, .ref mp, .ref mm, .ref mb, .ref mw, .ref mr, .ref mx, .ref me, .ref mP, .ref mQ, .ref ms, .int hs, .int (nI (0)), .ref mo, .ref mW, .ref mD, .ref mB, .ref mR, .ref mS])), (mo, .inl (cB, 320, .inl gmo)), (mW, .inl (cI, 64, .inl gmW)), (mD, .inl (cI, 8, .inl gmD)), (mB, .inl (cI, 8, .inl gmB))] := ⟨hP, hD, hS⟩
  refine lv_iconst (v := (nI (0))) hx hb zd_N_reckon_10 (by decide) ?_
  refine lv_istore_n (lv' := [(2, .int (nI (0))), (1, .int (nI (sz_))), (0, .ref o)]) hx hb zd_N_reckon_11 rfl hl (by decide) rfl (fun ls hl => ?_)
  have lp12 : ∀ (n12 k12 : Nat) (f1 : Nat → Int32) (H : Heap) (locs : List Loc) (ls : Array Slot), k12 ≤ 8 → 8 - k12 < n12 → (∀ j, j < k12 → f1 j = gmS j) → kz_dy (dC, dI) vwCl A s.heap H locs [(o, .inr (4, [.int th, .int sta, .ref mt, .ref mn, .ref ml, .ref mc, .ref mh, .ref mk, .ref mp, .ref mm, .ref mb, .ref mw, .ref mr, .ref mx, .ref me, .ref mP, .ref mQ, .ref ms, .int hs, .int (nI (0)), .ref mo, .ref mW, .ref mD, .ref mB, .ref mR, .ref mS])), (mo, .inl (cB, 320, .inl gmo)), (mW, .inl (cI, 64, .inl gmW)), (mD, .inl (cI, 8, .inl f1)), (mB, .inl (cI, 8, .inl gmB))] → lv_has ls 6 [(2, .int (nI (k12))), (1, .int (nI (sz_))), (0, .ref o)] → W p l e { frames := 2, cells := 0, slots := 0, locals := 47 } s m ([.ref o] : List Value).toArray below meth c H locs 0 0 (MQ below (va_Qv (fun (u : Nat × (Nat → Int32) × (Nat → Int32) × (Nat → Int32) × (Nat → Int32)) => (u.1 = 0) ∧ (∀ j, j < 8 → u.2.2.2.1 j = kd_H gmR gmS (kd_wd (kd_pd gmo sz_)) ((sz_ + 9 + 63) / 64) j) ∧ True) (kz_B (dC, dI) vwCl A (fun u : Nat × (Nat → Int32) × (Nat → Int32) × (Nat → Int32) × (Nat → Int32) => [(o, .inr (4, [.int th, .int sta, .ref mt, .ref mn, .ref ml, .ref mc, .ref mh, .ref mk, .ref mp, .ref mm, .ref mb, .ref mw, .ref mr, .ref mx, .ref me, .ref mP, .ref mQ, .ref ms, .int hs, .int (nI (u.1)), .ref mo, .ref mW, .ref mD, .ref mB, .ref mR, .ref mS])), (mo, .inl (cB, 320, .inl u.2.1)), (mW, .inl (cI, 64, .inl u.2.2.1)), (mD, .inl (cI, 8, .inl u.2.2.2.1)), (mB, .inl (cI, 8, .inl u.2.2.2.2))])) A) ([.ref o] : List Value).toArray s 0 0 A) (F0 m 12 ls []) := by
    intro n12
    induction n12 with
    | zero => intro k12; intros; omega
    | succ n12 ih12 =>
      intro k12 f1 H locs ls hi12 hn12 hb9 hdy hl
      refine lv_iload_n hx hb zd_N_reckon_12 rfl (lv_at hl 0 rfl) ?_
      refine lv_bipush (v := (nI (8))) hx hb zd_N_reckon_13 (by decide) ?_
      refine lv_icmp_ge (tgt := 36) hx hb zd_N_reckon_15 (by decide) (fun hc15 => ?_) (fun hc15 => ?_)
      · have hc15 : 8 ≤ k12 := (nI_leI (by omega) (by omega)).mp hc15
        refine lv_iload_n hx hb zd_N_reckon_36 rfl (lv_at hl 1 rfl) ?_
        refine lv_bipush (v := (nI (9))) hx hb zd_N_reckon_37 (by decide) ?_
        refine kz_iadd hx hb zd_N_reckon_39 (nI_add _ _) ?_
        refine lv_bipush (v := (nI (63))) hx hb zd_N_reckon_40 (by decide) ?_
        refine kz_iadd hx hb zd_N_reckon_42 (nI_add _ _) ?_
        refine lv_bipush (v := (nI (64))) hx hb zd_N_reckon_43 (by decide) ?_
        refine kz_idiv hx hb zd_N_reckon_45 (by decide) (pk_div (by omega) (by omega) (by omega)) ?_
        refine lv_bipush (v := (nI (64))) hx hb zd_N_reckon_46 (by decide) ?_
        refine kz_imul hx hb zd_N_reckon_48 (pk_mul _ _) ?_
        refine lv_istore_n (lv' := [(2, .int (nI (((sz_ + 9 + 63) / 64) * 64))), (1, .int (nI (sz_))), (0, .ref o)]) hx hb zd_N_reckon_49 rfl hl (by decide) rfl (fun ls hl => ?_)
        refine lv_iload_n hx hb zd_N_reckon_50 rfl (lv_at hl 1 rfl) ?_
        refine lv_istore_n (lv' := [(3, .int (nI (sz_))), (2, .int (nI (((sz_ + 9 + 63) / 64) * 64))), (1, .int (nI (sz_))), (0, .ref o)]) hx hb zd_N_reckon_51 rfl hl (by decide) rfl (fun ls hl => ?_)
        have lp52 : ∀ (n52 k52 : Nat) (f2 : Nat → Int32) (H : Heap) (locs : List Loc) (ls : Array Slot), k52 ≤ ((sz_ + 9 + 63) / 64 * 64) → ((sz_ + 9 + 63) / 64 * 64) - k52 < n52 → (sz_ ≤ k52) → (∀ j, j < k52 → f2 j = kd_pd gmo sz_ j) → kz_dy (dC, dI) vwCl A s.heap H locs [(o, .inr (4, [.int th, .int sta, .ref mt, .ref mn, .ref ml, .ref mc, .ref mh, .ref mk, .ref mp, .ref mm, .ref mb, .ref mw, .ref mr, .ref mx, .ref me, .ref mP, .ref mQ, .ref ms, .int hs, .int (nI (0)), .ref mo, .ref mW, .ref mD, .ref mB, .ref mR, .ref mS])), (mo, .inl (cB, 320, .inl f2)), (mW, .inl (cI, 64, .inl gmW)), (mD, .inl (cI, 8, .inl f1)), (mB, .inl (cI, 8, .inl gmB))] → lv_has ls 6 [(3, .int (nI (k52))), (2, .int (nI (((sz_ + 9 + 63) / 64) * 64))), (1, .int (nI (sz_))), (0, .ref o)] → W p l e { frames := 2, cells := 0, slots := 0, locals := 47 } s m ([.ref o] : List Value).toArray below meth c H locs 0 0 (MQ below (va_Qv (fun (u : Nat × (Nat → Int32) × (Nat → Int32) × (Nat → Int32) × (Nat → Int32)) => (u.1 = 0) ∧ (∀ j, j < 8 → u.2.2.2.1 j = kd_H gmR gmS (kd_wd (kd_pd gmo sz_)) ((sz_ + 9 + 63) / 64) j) ∧ True) (kz_B (dC, dI) vwCl A (fun u : Nat × (Nat → Int32) × (Nat → Int32) × (Nat → Int32) × (Nat → Int32) => [(o, .inr (4, [.int th, .int sta, .ref mt, .ref mn, .ref ml, .ref mc, .ref mh, .ref mk, .ref mp, .ref mm, .ref mb, .ref mw, .ref mr, .ref mx, .ref me, .ref mP, .ref mQ, .ref ms, .int hs, .int (nI (u.1)), .ref mo, .ref mW, .ref mD, .ref mB, .ref mR, .ref mS])), (mo, .inl (cB, 320, .inl u.2.1)), (mW, .inl (cI, 64, .inl u.2.2.1)), (mD, .inl (cI, 8, .inl u.2.2.2.1)), (mB, .inl (cI, 8, .inl u.2.2.2.2))])) A) ([.ref o] : List Value).toArray s 0 0 A) (F0 m 52 ls []) := by
          intro n52
          induction n52 with
          | zero => intro k52; intros; omega
          | succ n52 ih52 =>
            intro k52 f2 H locs ls hi52 hn52 hlo9 hp9 hdy hl
            refine lv_iload_n hx hb zd_N_reckon_52 rfl (lv_at hl 0 rfl) ?_
            refine lv_iload_n hx hb zd_N_reckon_53 rfl (lv_at hl 1 rfl) ?_
            refine lv_icmp_ge (tgt := 105) hx hb zd_N_reckon_54 (by decide) (fun hc54 => ?_) (fun hc54 => ?_)
            · have hc54 : (((sz_ + 9 + 63) / 64) * 64) ≤ k52 := (nI_leI (by omega) (by omega)).mp hc54
              refine lv_iconst (v := (nI (0))) hx hb zd_N_reckon_105 (by decide) ?_
              refine lv_istore_n (lv' := [(3, .int (nI (0))), (2, .int (nI (((sz_ + 9 + 63) / 64) * 64))), (1, .int (nI (sz_))), (0, .ref o)]) hx hb zd_N_reckon_106 rfl hl (by decide) rfl (fun ls hl => ?_)
              have lp107 : ∀ (n107 k107 : Nat) (f3 : Nat → Int32) (f4 : Nat → Int32) (f5 : Nat → Int32) (H : Heap) (locs : List Loc) (ls : Array Slot), k107 ≤ ((sz_ + 9 + 63) / 64 * 64) → ((sz_ + 9 + 63) / 64 * 64) - k107 < n107 → ((k107) % 64 = 0) → (∀ j, j < 8 → f4 j = kd_H gmR gmS (kd_wd (kd_pd gmo sz_)) ((k107) / 64) j) → kz_dy (dC, dI) vwCl A s.heap H locs [(o, .inr (4, [.int th, .int sta, .ref mt, .ref mn, .ref ml, .ref mc, .ref mh, .ref mk, .ref mp, .ref mm, .ref mb, .ref mw, .ref mr, .ref mx, .ref me, .ref mP, .ref mQ, .ref ms, .int hs, .int (nI (0)), .ref mo, .ref mW, .ref mD, .ref mB, .ref mR, .ref mS])), (mo, .inl (cB, 320, .inl f2)), (mW, .inl (cI, 64, .inl f3)), (mD, .inl (cI, 8, .inl f4)), (mB, .inl (cI, 8, .inl f5))] → lv_has ls 6 [(3, .int (nI (k107))), (2, .int (nI (((sz_ + 9 + 63) / 64) * 64))), (1, .int (nI (sz_))), (0, .ref o)] → W p l e { frames := 2, cells := 0, slots := 0, locals := 47 } s m ([.ref o] : List Value).toArray below meth c H locs 0 0 (MQ below (va_Qv (fun (u : Nat × (Nat → Int32) × (Nat → Int32) × (Nat → Int32) × (Nat → Int32)) => (u.1 = 0) ∧ (∀ j, j < 8 → u.2.2.2.1 j = kd_H gmR gmS (kd_wd (kd_pd gmo sz_)) ((sz_ + 9 + 63) / 64) j) ∧ True) (kz_B (dC, dI) vwCl A (fun u : Nat × (Nat → Int32) × (Nat → Int32) × (Nat → Int32) × (Nat → Int32) => [(o, .inr (4, [.int th, .int sta, .ref mt, .ref mn, .ref ml, .ref mc, .ref mh, .ref mk, .ref mp, .ref mm, .ref mb, .ref mw, .ref mr, .ref mx, .ref me, .ref mP, .ref mQ, .ref ms, .int hs, .int (nI (u.1)), .ref mo, .ref mW, .ref mD, .ref mB, .ref mR, .ref mS])), (mo, .inl (cB, 320, .inl u.2.1)), (mW, .inl (cI, 64, .inl u.2.2.1)), (mD, .inl (cI, 8, .inl u.2.2.2.1)), (mB, .inl (cI, 8, .inl u.2.2.2.2))])) A) ([.ref o] : List Value).toArray s 0 0 A) (F0 m 107 ls []) := by
                intro n107
                induction n107 with
                | zero => intro k107; intros; omega
                | succ n107 ih107 =>
                  intro k107 f3 f4 f5 H locs ls hi107 hn107 h64 hH9 hdy hl
                  refine lv_iload_n hx hb zd_N_reckon_107 rfl (lv_at hl 0 rfl) ?_
                  refine lv_iload_n hx hb zd_N_reckon_108 rfl (lv_at hl 1 rfl) ?_
                  refine lv_icmp_ge (tgt := 197) hx hb zd_N_reckon_109 (by decide) (fun hc109 => ?_) (fun hc109 => ?_)
                  · have hc109 : (((sz_ + 9 + 63) / 64) * 64) ≤ k107 := (nI_leI (by omega) (by omega)).mp hc109
                    exact kz_vret F (0, f2, f3, f4, f5) hdy (⟨by first | assumption | rfl | omega, by have h9 : k107 / 64 = (sz_ + 9 + 63) / 64 := (by omega); rw [← h9]; exact hH9, trivial⟩) zd_N_reckon_197
                  · have hc109 : ¬ (((sz_ + 9 + 63) / 64) * 64) ≤ k107 := fun h9 => hc109 ((nI_leI (by omega) (by omega)).mpr h9)
                    refine lv_iconst (v := (nI (0))) hx hb zd_N_reckon_112 (by decide) ?_
                    refine lv_istore (lv' := [(4, .int (nI (0))), (3, .int (nI (k107))), (2, .int (nI (((sz_ + 9 + 63) / 64) * 64))), (1, .int (nI (sz_))), (0, .ref o)]) hx hb zd_N_reckon_113 hl (by decide) rfl (fun ls hl => ?_)
                    have lp115 : ∀ (n115 k115 : Nat) (f6 : Nat → Int32) (H : Heap) (locs : List Loc) (ls : Array Slot), k115 ≤ 16 → 16 - k115 < n115 → (∀ j, j < k115 → f6 j = kd_wd (kd_pd gmo sz_) (k107 / 4 + j)) → kz_dy (dC, dI) vwCl A s.heap H locs [(o, .inr (4, [.int th, .int sta, .ref mt, .ref mn, .ref ml, .ref mc, .ref mh, .ref mk, .ref mp, .ref mm, .ref mb, .ref mw, .ref mr, .ref mx, .ref me, .ref mP, .ref mQ, .ref ms, .int hs, .int (nI (0)), .ref mo, .ref mW, .ref mD, .ref mB, .ref mR, .ref mS])), (mo, .inl (cB, 320, .inl f2)), (mW, .inl (cI, 64, .inl f6)), (mD, .inl (cI, 8, .inl f4)), (mB, .inl (cI, 8, .inl f5))] → lv_has ls 6 [(4, .int (nI (k115))), (3, .int (nI (k107))), (2, .int (nI (((sz_ + 9 + 63) / 64) * 64))), (1, .int (nI (sz_))), (0, .ref o)] → W p l e { frames := 2, cells := 0, slots := 0, locals := 47 } s m ([.ref o] : List Value).toArray below meth c H locs 0 0 (MQ below (va_Qv (fun (u : Nat × (Nat → Int32) × (Nat → Int32) × (Nat → Int32) × (Nat → Int32)) => (u.1 = 0) ∧ (∀ j, j < 8 → u.2.2.2.1 j = kd_H gmR gmS (kd_wd (kd_pd gmo sz_)) ((sz_ + 9 + 63) / 64) j) ∧ True) (kz_B (dC, dI) vwCl A (fun u : Nat × (Nat → Int32) × (Nat → Int32) × (Nat → Int32) × (Nat → Int32) => [(o, .inr (4, [.int th, .int sta, .ref mt, .ref mn, .ref ml, .ref mc, .ref mh, .ref mk, .ref mp, .ref mm, .ref mb, .ref mw, .ref mr, .ref mx, .ref me, .ref mP, .ref mQ, .ref ms, .int hs, .int (nI (u.1)), .ref mo, .ref mW, .ref mD, .ref mB, .ref mR, .ref mS])), (mo, .inl (cB, 320, .inl u.2.1)), (mW, .inl (cI, 64, .inl u.2.2.1)), (mD, .inl (cI, 8, .inl u.2.2.2.1)), (mB, .inl (cI, 8, .inl u.2.2.2.2))])) A) ([.ref o] : List Value).toArray s 0 0 A) (F0 m 115 ls []) := by
                      intro n115
                      induction n115 with
                      | zero => intro k115; intros; omega
                      | succ n115 ih115 =>
                        intro k115 f6 H locs ls hi115 hn115 hw9 hdy hl
                        refine lv_iload hx hb zd_N_reckon_115 (lv_at hl 0 rfl) ?_
                        refine lv_bipush (v := (nI (16))) hx hb zd_N_reckon_117 (by decide) ?_
                        refine lv_icmp_ge (tgt := 187) hx hb zd_N_reckon_119 (by decide) (fun hc119 => ?_) (fun hc119 => ?_)
                        · have hc119 : 16 ≤ k115 := (nI_leI (by omega) (by omega)).mp hc119
                          refine lv_aload_n hx hb zd_N_reckon_187 rfl (lv_at hl 4 rfl) ?_
                          refine kz_callv (wk := [(o, .inr (4, [.int th, .int sta, .ref mt, .ref mn, .ref ml, .ref mc, .ref mh, .ref mk, .ref mp, .ref mm, .ref mb, .ref mw, .ref mr, .ref mx, .ref me, .ref mP, .ref mQ, .ref ms, .int hs, .int (nI (0)), .ref mo, .ref mW, .ref mD, .ref mB, .ref mR, .ref mS])), (mo, .inl (cB, 320, .inl f2))]) (va_runV (As := []) (rest := []) ⟨hx, hb, hml, hown, hts⟩ (c_G_mix l dC dI cI cAA cB cL mW mD mB o mt mn ml mc mh mk mp mm mb mw mr mx me mP mQ ms mo mR mS f6 f4 f5 (th) (sta) (hs) 0 gmR _) (cwV 0 hts (kz_g (kz_mc mw_760 (kz_mc mw_762 (kz_mc mw_33 (kz_mc mw_43 kz_mn)))) mw_763) rfl rfl rfl (by decide +kernel) ⟨Nat.le_of_ble_eq_true rfl, Nat.le_of_ble_eq_true rfl⟩) (kz_preV hdy hA hK hro hZ hN [2, 3, 4] (by decide) rfl [(false, 0), (true, 0)] rfl (by decide) [0, 1, 2, 3] rfl (fun _ h => by cases h) (fun _ h => by cases h) rfl (ci := 4) (q0 := 0) rfl rfl rfl) rfl rfl hl.1 rfl (lv_room (Nat.le_of_ble_eq_true rfl)) zd_N_reckon_188 ⟨Nat.le_of_ble_eq_true rfl, Nat.le_of_ble_eq_true rfl⟩) hdy hA [2, 3, 4] [0, 1] rfl rfl (by decide) (by decide) (fun u H locs hw hdy => ?_)
                          obtain ⟨f7, f8, f9⟩ := u
                          try dsimp only at hw
                          obtain ⟨q10, -⟩ := hw
                          have hdy : kz_dy (dC, dI) vwCl A s.heap H locs [(o, .inr (4, [.int th, .int sta, .ref mt, .ref mn, .ref ml, .ref mc, .ref mh, .ref mk, .ref mp, .ref mm, .ref mb, .ref mw, .ref mr, .ref mx, .ref me, .ref mP, .ref mQ, .ref ms, .int hs, .int (nI (0)), .ref mo, .ref mW, .ref mD, .ref mB, .ref mR, .ref mS])), (mo, .inl (cB, 320, .inl f2)), (mW, .inl (cI, 64, .inl f7)), (mD, .inl (cI, 8, .inl f8)), (mB, .inl (cI, 8, .inl f9))] := hdy.sub [0, 1, 2, 3, 4] (by decide) rfl
                          refine lv_iinc (v := (nI (k107 + 64))) (lv' := [(3, .int (nI (k107 + 64))), (4, .int (nI (k115))), (2, .int (nI (((sz_ + 9 + 63) / 64) * 64))), (1, .int (nI (sz_))), (0, .ref o)]) hx hb zd_N_reckon_191 hl (k := 1) rfl (by exact nI_add _ _) (by decide) rfl (fun ls hl => ?_)
                          refine lv_goto (tgt := 107) hx hb zd_N_reckon_194 (by decide) ?_
                          have hi9_h6411 : (k107 + 64) % 64 = 0 := by omega
                          have hi9_hH912 : ∀ j, j < 8 → f8 j = kd_H gmR gmS (kd_wd (kd_pd gmo sz_)) ((k107 + 64) / 64) j := by intro j hj; rw [show (k107 + 64) / 64 = k107 / 64 + 1 by omega]; exact kd_blk hH9 q10 (fun i hi => (hw9 i (by omega)).trans (by congr 1; omega)) j hj
                          exact ih107 (k107 + 64) f7 f8 f9 _ _ _ (by omega) (by omega) hi9_h6411 hi9_hH912 hdy (lv_sub hl [0, 2, 3, 4] rfl)
                        · have hc119 : ¬ 16 ≤ k115 := fun h9 => hc119 ((nI_leI (by omega) (by omega)).mpr h9)
                          refine lv_aload_n hx hb zd_N_reckon_122 rfl (lv_at hl 4 rfl) ?_
                          refine va_get (D := (dC, dI)) (ci := 4) (v := .ref mW) (C := zR_N) (T := zT_N) (N := 26) hx hb hts (fun w h => kz_c (zi_N w h)) hown hK hdy.1 0 rfl rfl 21 (by decide) (hts _ (kz_c mw_612)) (fun _ h9 => h9) rfl zd_N_reckon_123 ?_
                          refine lv_iload hx hb zd_N_reckon_126 (lv_at hl 0 rfl) ?_
                          refine lv_iconst (v := (nI (0))) hx hb zd_N_reckon_128 (by decide) ?_
                          refine va_iast hx hb hK hdy.1 hdy.2.1 hdy.2.2 2 0 rfl rfl (vp_in_nI (by omega) (by omega)) zd_N_reckon_129 (fun H locs hP hD hS => ?_)
                          rw [nI_clamp (by omega)] at hP hD
                          obtain ⟨f13, ef13, hdy⟩ : ∃ f13 : Nat → Int32, f13 = upd f6 k115 ((nI (0))) ∧ kz_dy (dC, dI) vwCl A s.heap H locs [(o, .inr (4, [.int th, .int sta, .ref mt, .ref mn, .ref ml, .ref mc, .ref mh, .ref mk, .ref mp, .ref mm, .ref mb, .ref mw, .ref mr, .ref mx, .ref me, .ref mP, .ref mQ, .ref ms, .int hs, .int (nI (0)), .ref mo, .ref mW, .ref mD, .ref mB, .ref mR, .ref mS])), (mo, .inl (cB, 320, .inl f2)), (mW, .inl (cI, 64, .inl f13)), (mD, .inl (cI, 8, .inl f4)), (mB, .inl (cI, 8, .inl f5))] := ⟨_, rfl, hP, hD, hS⟩
                          refine lv_iconst (v := (nI (0))) hx hb zd_N_reckon_130 (by decide) ?_
                          refine lv_istore (lv' := [(5, .int (nI (0))), (4, .int (nI (k115))), (3, .int (nI (k107))), (2, .int (nI (((sz_ + 9 + 63) / 64) * 64))), (1, .int (nI (sz_))), (0, .ref o)]) hx hb zd_N_reckon_131 hl (by decide) rfl (fun ls hl => ?_)
                          have lp133 : ∀ (n133 k133 : Nat) (f14 : Nat → Int32) (H : Heap) (locs : List Loc) (ls : Array Slot), k133 ≤ 4 → 4 - k133 < n133 → (f14 k115 = kd_f4 f2 (k107 + 4 * k115) (k133)) → (∀ j, j ≠ k115 → f14 j = f6 j) → kz_dy (dC, dI) vwCl A s.heap H locs [(o, .inr (4, [.int th, .int sta, .ref mt, .ref mn, .ref ml, .ref mc, .ref mh, .ref mk, .ref mp, .ref mm, .ref mb, .ref mw, .ref mr, .ref mx, .ref me, .ref mP, .ref mQ, .ref ms, .int hs, .int (nI (0)), .ref mo, .ref mW, .ref mD, .ref mB, .ref mR, .ref mS])), (mo, .inl (cB, 320, .inl f2)), (mW, .inl (cI, 64, .inl f14)), (mD, .inl (cI, 8, .inl f4)), (mB, .inl (cI, 8, .inl f5))] → lv_has ls 6 [(5, .int (nI (k133))), (4, .int (nI (k115))), (3, .int (nI (k107))), (2, .int (nI (((sz_ + 9 + 63) / 64) * 64))), (1, .int (nI (sz_))), (0, .ref o)] → W p l e { frames := 2, cells := 0, slots := 0, locals := 47 } s m ([.ref o] : List Value).toArray below meth c H locs 0 0 (MQ below (va_Qv (fun (u : Nat × (Nat → Int32) × (Nat → Int32) × (Nat → Int32) × (Nat → Int32)) => (u.1 = 0) ∧ (∀ j, j < 8 → u.2.2.2.1 j = kd_H gmR gmS (kd_wd (kd_pd gmo sz_)) ((sz_ + 9 + 63) / 64) j) ∧ True) (kz_B (dC, dI) vwCl A (fun u : Nat × (Nat → Int32) × (Nat → Int32) × (Nat → Int32) × (Nat → Int32) => [(o, .inr (4, [.int th, .int sta, .ref mt, .ref mn, .ref ml, .ref mc, .ref mh, .ref mk, .ref mp, .ref mm, .ref mb, .ref mw, .ref mr, .ref mx, .ref me, .ref mP, .ref mQ, .ref ms, .int hs, .int (nI (u.1)), .ref mo, .ref mW, .ref mD, .ref mB, .ref mR, .ref mS])), (mo, .inl (cB, 320, .inl u.2.1)), (mW, .inl (cI, 64, .inl u.2.2.1)), (mD, .inl (cI, 8, .inl u.2.2.2.1)), (mB, .inl (cI, 8, .inl u.2.2.2.2))])) A) ([.ref o] : List Value).toArray s 0 0 A) (F0 m 133 ls []) := by
                            intro n133
                            induction n133 with
                            | zero => intro k133; intros; omega
                            | succ n133 ih133 =>
                              intro k133 f14 H locs ls hi133 hn133 hf9 hk9 hdy hl
                              refine lv_iload hx hb zd_N_reckon_133 (lv_at hl 0 rfl) ?_
                              refine lv_iconst (v := (nI (4))) hx hb zd_N_reckon_135 (by decide) ?_
                              refine lv_icmp_ge (tgt := 181) hx hb zd_N_reckon_136 (by decide) (fun hc136 => ?_) (fun hc136 => ?_)
                              · have hc136 : 4 ≤ k133 := (nI_leI (by omega) (by omega)).mp hc136
                                refine lv_iinc (v := (nI (k115 + 1))) (lv' := [(4, .int (nI (k115 + 1))), (5, .int (nI (k133))), (3, .int (nI (k107))), (2, .int (nI (((sz_ + 9 + 63) / 64) * 64))), (1, .int (nI (sz_))), (0, .ref o)]) hx hb zd_N_reckon_181 hl (k := 1) rfl (nI_1 _) (by decide) rfl (fun ls hl => ?_)
                                refine lv_goto (tgt := 115) hx hb zd_N_reckon_184 (by decide) ?_
                                have hi9_hw915 : ∀ j, j < k115 + 1 → f14 j = kd_wd (kd_pd gmo sz_) (k107 / 4 + j) := by intro j hj; by_cases h9 : j = k115; (rw [h9]; have h4 : k133 = 4 := (by omega); rw [h4] at hf9; rw [hf9]; unfold kd_wd; exact kd_f4_ext 4 (fun i hi => by rw [hp9 _ (by omega)]; congr 1; omega)); (rw [hk9 j h9]; exact hw9 j (by omega))
                                exact ih115 (k115 + 1) f14 _ _ _ (by omega) (by omega) hi9_hw915 hdy (lv_sub hl [0, 2, 3, 4, 5] rfl)
                              · have hc136 : ¬ 4 ≤ k133 := fun h9 => hc136 ((nI_leI (by omega) (by omega)).mpr h9)
                                refine lv_aload_n hx hb zd_N_reckon_139 rfl (lv_at hl 5 rfl) ?_
                                refine va_get (D := (dC, dI)) (ci := 4) (v := .ref mW) (C := zR_N) (T := zT_N) (N := 26) hx hb hts (fun w h => kz_c (zi_N w h)) hown hK hdy.1 0 rfl rfl 21 (by decide) (hts _ (kz_c mw_612)) (fun _ h9 => h9) rfl zd_N_reckon_140 ?_
                                refine lv_iload hx hb zd_N_reckon_143 (lv_at hl 1 rfl) ?_
                                refine lv_aload_n hx hb zd_N_reckon_145 rfl (lv_at hl 5 rfl) ?_
                                refine va_get (D := (dC, dI)) (ci := 4) (v := .ref mW) (C := zR_N) (T := zT_N) (N := 26) hx hb hts (fun w h => kz_c (zi_N w h)) hown hK hdy.1 0 rfl rfl 21 (by decide) (hts _ (kz_c mw_612)) (fun _ h9 => h9) rfl zd_N_reckon_146 ?_
                                refine lv_iload hx hb zd_N_reckon_149 (lv_at hl 1 rfl) ?_
                                refine va_iald hx hb hK hdy.1 2 0 rfl rfl (vp_in_nI (by omega) (by omega)) zd_N_reckon_151 ?_
                                refine lv_topi (fun x16 h9 => ?_)
                                obtain rfl : x16 = f14 k115 := h9.trans (by rw [nI_clamp (by omega)])
                                refine lv_bipush (v := (nI (8))) hx hb zd_N_reckon_152 (by decide) ?_
                                refine lv_ishl hx hb zd_N_reckon_154 ?_
                                refine lv_aload_n hx hb zd_N_reckon_155 rfl (lv_at hl 5 rfl) ?_
                                refine va_get (D := (dC, dI)) (ci := 4) (v := .ref mo) (C := zR_N) (T := zT_N) (N := 26) hx hb hts (fun w h => kz_c (zi_N w h)) hown hK hdy.1 0 rfl rfl 20 (by decide) (hts _ (kz_c mw_611)) (fun _ h9 => h9) rfl zd_N_reckon_156 ?_
                                refine lv_iload_n hx hb zd_N_reckon_159 rfl (lv_at hl 2 rfl) ?_
                                refine lv_iconst (v := (nI (4))) hx hb zd_N_reckon_160 (by decide) ?_
                                refine lv_iload hx hb zd_N_reckon_161 (lv_at hl 1 rfl) ?_
                                refine kz_imul hx hb zd_N_reckon_163 (pk_mul _ _) ?_
                                refine kz_iadd hx hb zd_N_reckon_164 (nI_add _ _) ?_
                                refine lv_iload hx hb zd_N_reckon_165 (lv_at hl 0 rfl) ?_
                                refine kz_iadd hx hb zd_N_reckon_167 (nI_add _ _) ?_
                                refine va_bald hx hb hK hdy.1 1 2 rfl rfl (vp_in_nI (by omega) (by omega)) zd_N_reckon_168 ?_
                                refine lv_topi (fun x17 h9 => ?_)
                                obtain rfl : x17 = f2 (k107 + (4 * k115) + k133) := h9.trans (by rw [nI_clamp (by omega)])
                                refine lv_sipush (v := (nI (255))) hx hb zd_N_reckon_169 (by decide) ?_
                                refine lv_iand hx hb zd_N_reckon_172 ?_
                                refine lv_ior hx hb zd_N_reckon_173 ?_
                                refine va_iast hx hb hK hdy.1 hdy.2.1 hdy.2.2 2 0 rfl rfl (vp_in_nI (by omega) (by omega)) zd_N_reckon_174 (fun H locs hP hD hS => ?_)
                                rw [nI_clamp (by omega)] at hP hD
                                obtain ⟨f18, ef18, hdy⟩ : ∃ f18 : Nat → Int32, f18 = upd f14 k115 ((((f14 k115) <<< ((nI (8)) &&& 31)) ||| ((f2 (k107 + (4 * k115) + k133)) &&& (nI (255))))) ∧ kz_dy (dC, dI) vwCl A s.heap H locs [(o, .inr (4, [.int th, .int sta, .ref mt, .ref mn, .ref ml, .ref mc, .ref mh, .ref mk, .ref mp, .ref mm, .ref mb, .ref mw, .ref mr, .ref mx, .ref me, .ref mP, .ref mQ, .ref ms, .int hs, .int (nI (0)), .ref mo, .ref mW, .ref mD, .ref mB, .ref mR, .ref mS])), (mo, .inl (cB, 320, .inl f2)), (mW, .inl (cI, 64, .inl f18)), (mD, .inl (cI, 8, .inl f4)), (mB, .inl (cI, 8, .inl f5))] := ⟨_, rfl, hP, hD, hS⟩
                                refine lv_iinc (v := (nI (k133 + 1))) (lv' := [(5, .int (nI (k133 + 1))), (4, .int (nI (k115))), (3, .int (nI (k107))), (2, .int (nI (((sz_ + 9 + 63) / 64) * 64))), (1, .int (nI (sz_))), (0, .ref o)]) hx hb zd_N_reckon_175 hl (k := 0) rfl (nI_1 _) (by decide) rfl (fun ls hl => ?_)
                                refine lv_goto (tgt := 133) hx hb zd_N_reckon_178 (by decide) ?_
                                have hi9_hf919 : f18 k115 = kd_f4 f2 (k107 + 4 * k115) (k133 + 1) := by rw [ef18]; unfold upd; rw [if_pos rfl, hf9]; rfl
                                have hi9_hk920 : ∀ j, j ≠ k115 → f18 j = f6 j := by intro j hj; rw [ef18]; unfold upd; rw [if_neg hj]; exact hk9 j hj
                                exact ih133 (k133 + 1) f18 _ _ _ (by omega) (by omega) hi9_hf919 hi9_hk920 hdy (lv_sub hl [0, 1, 2, 3, 4, 5] rfl)
                          have hi9_hf921 : f13 k115 = kd_f4 f2 (k107 + 4 * k115) (0) := by rw [ef13]; exact if_pos rfl
                          have hi9_hk922 : ∀ j, j ≠ k115 → f13 j = f6 j := by intro j hj; rw [ef13]; unfold upd; rw [if_neg hj]
                          exact lp133 (4 - 0 + 1) 0 f13 _ _ _ (by omega) (by omega) hi9_hf921 hi9_hk922 hdy (lv_sub hl [0, 1, 2, 3, 4, 5] rfl)
                    have hi9_hw923 : ∀ j, j < 0 → f3 j = kd_wd (kd_pd gmo sz_) (k107 / 4 + j) := by intro j hj; omega
                    exact lp115 (16 - 0 + 1) 0 f3 _ _ _ (by omega) (by omega) hi9_hw923 hdy (lv_sub hl [0, 1, 2, 3, 4] rfl)
              have hi9_h6424 : (0) % 64 = 0 := by omega
              have hi9_hH925 : ∀ j, j < 8 → f1 j = kd_H gmR gmS (kd_wd (kd_pd gmo sz_)) ((0) / 64) j := by intro j hj; exact hb9 j (by omega)
              exact lp107 (((sz_ + 9 + 63) / 64 * 64) - 0 + 1) 0 gmW f1 gmB _ _ _ (by omega) (by omega) hi9_h6424 hi9_hH925 hdy (lv_sub hl [0, 1, 2, 3] rfl)
            · have hc54 : ¬ (((sz_ + 9 + 63) / 64) * 64) ≤ k52 := fun h9 => hc54 ((nI_leI (by omega) (by omega)).mpr h9)
              refine lv_aload_n hx hb zd_N_reckon_57 rfl (lv_at hl 3 rfl) ?_
              refine va_get (D := (dC, dI)) (ci := 4) (v := .ref mo) (C := zR_N) (T := zT_N) (N := 26) hx hb hts (fun w h => kz_c (zi_N w h)) hown hK hdy.1 0 rfl rfl 20 (by decide) (hts _ (kz_c mw_611)) (fun _ h9 => h9) rfl zd_N_reckon_58 ?_
              refine lv_iload_n hx hb zd_N_reckon_61 rfl (lv_at hl 0 rfl) ?_
              refine lv_iload_n hx hb zd_N_reckon_62 rfl (lv_at hl 0 rfl) ?_
              refine lv_iload_n hx hb zd_N_reckon_63 rfl (lv_at hl 2 rfl) ?_
              refine lv_icmp_ne (tgt := 73) hx hb zd_N_reckon_64 (by decide) (fun hc64 => ?_) (fun hc64 => ?_)
              · have hc64 : ¬ k52 = sz_ := fun h9 => hc64 ((nI_eq (by omega) (by omega)).mpr h9)
                refine lv_iload_n hx hb zd_N_reckon_73 rfl (lv_at hl 0 rfl) ?_
                refine lv_iload_n hx hb zd_N_reckon_74 rfl (lv_at hl 1 rfl) ?_
                refine lv_iconst (v := (nI (4))) hx hb zd_N_reckon_75 (by decide) ?_
                refine kz_isub hx hb zd_N_reckon_76 (pk_sub (by omega)) ?_
                refine lv_icmp_ge (tgt := 84) hx hb zd_N_reckon_77 (by decide) (fun hc77 => ?_) (fun hc77 => ?_)
                · have hc77 : (((sz_ + 9 + 63) / 64) * 64 - 4) ≤ k52 := (nI_leI (by omega) (by omega)).mp hc77
                  refine lv_bipush (v := (nI (8))) hx hb zd_N_reckon_84 (by decide) ?_
                  refine lv_iload_n hx hb zd_N_reckon_86 rfl (lv_at hl 2 rfl) ?_
                  refine kz_imul hx hb zd_N_reckon_87 (pk_mul _ _) ?_
                  refine lv_bipush (v := (nI (8))) hx hb zd_N_reckon_88 (by decide) ?_
                  refine lv_iload_n hx hb zd_N_reckon_90 rfl (lv_at hl 1 rfl) ?_
                  refine lv_iconst (v := (nI (1))) hx hb zd_N_reckon_91 (by decide) ?_
                  refine kz_isub hx hb zd_N_reckon_92 (pk_sub (by omega)) ?_
                  refine lv_iload_n hx hb zd_N_reckon_93 rfl (lv_at hl 0 rfl) ?_
                  refine kz_isub hx hb zd_N_reckon_94 (pk_sub (by omega)) ?_
                  refine kz_imul hx hb zd_N_reckon_95 (pk_mul _ _) ?_
                  refine lv_ishr hx hb zd_N_reckon_96 ?_
                  refine lv_i2b (v := (((nI (8 * sz_)) >>> ((nI (8 * (((sz_ + 9 + 63) / 64) * 64 - 1 - k52))) &&& 31))).toInt8.toInt32) hx hb zd_N_reckon_97 rfl ?_
                  refine va_bast hx hb hK hdy.1 hdy.2.1 hdy.2.2 1 2 rfl rfl (vp_in_nI (by omega) (by omega)) zd_N_reckon_98 (fun H locs hP hD hS => ?_)
                  rw [nI_clamp (by omega)] at hP hD
                  obtain ⟨f26, ef26, hdy⟩ : ∃ f26 : Nat → Int32, f26 = upd f2 k52 (vp_nar .byte ((((nI (8 * sz_)) >>> ((nI (8 * (((sz_ + 9 + 63) / 64) * 64 - 1 - k52))) &&& 31))).toInt8.toInt32)) ∧ kz_dy (dC, dI) vwCl A s.heap H locs [(o, .inr (4, [.int th, .int sta, .ref mt, .ref mn, .ref ml, .ref mc, .ref mh, .ref mk, .ref mp, .ref mm, .ref mb, .ref mw, .ref mr, .ref mx, .ref me, .ref mP, .ref mQ, .ref ms, .int hs, .int (nI (0)), .ref mo, .ref mW, .ref mD, .ref mB, .ref mR, .ref mS])), (mo, .inl (cB, 320, .inl f26)), (mW, .inl (cI, 64, .inl gmW)), (mD, .inl (cI, 8, .inl f1)), (mB, .inl (cI, 8, .inl gmB))] := ⟨_, rfl, hP, hD, hS⟩
                  refine lv_iinc (v := (nI (k52 + 1))) (lv' := [(3, .int (nI (k52 + 1))), (2, .int (nI (((sz_ + 9 + 63) / 64) * 64))), (1, .int (nI (sz_))), (0, .ref o)]) hx hb zd_N_reckon_99 hl (k := 0) rfl (nI_1 _) (by decide) rfl (fun ls hl => ?_)
                  refine lv_goto (tgt := 52) hx hb zd_N_reckon_102 (by decide) ?_
                  have hi9_hlo927 : sz_ ≤ k52 + 1 := by omega
                  have hi9_hp928 : ∀ j, j < k52 + 1 → f26 j = kd_pd gmo sz_ j := by intro j hj; rw [ef26]; unfold upd; by_cases h9 : j = k52; (rw [if_pos h9, pk_vb, h9]; first | exact kd_pdA (by omega) | exact kd_pdB (by omega) (by unfold kd_all; omega) | exact kd_pdC (by omega) (by unfold kd_all; omega)); (rw [if_neg h9]; exact hp9 j (by omega))
                  exact ih52 (k52 + 1) f26 _ _ _ (by omega) (by omega) hi9_hlo927 hi9_hp928 hdy (lv_sub hl [0, 1, 2, 3] rfl)
                · have hc77 : ¬ (((sz_ + 9 + 63) / 64) * 64 - 4) ≤ k52 := fun h9 => hc77 ((nI_leI (by omega) (by omega)).mpr h9)
                  refine lv_iconst (v := (nI (0))) hx hb zd_N_reckon_80 (by decide) ?_
                  refine lv_goto (tgt := 97) hx hb zd_N_reckon_81 (by decide) ?_
                  refine lv_i2b (v := ((nI (0))).toInt8.toInt32) hx hb zd_N_reckon_97 rfl ?_
                  refine va_bast hx hb hK hdy.1 hdy.2.1 hdy.2.2 1 2 rfl rfl (vp_in_nI (by omega) (by omega)) zd_N_reckon_98 (fun H locs hP hD hS => ?_)
                  rw [nI_clamp (by omega)] at hP hD
                  obtain ⟨f29, ef29, hdy⟩ : ∃ f29 : Nat → Int32, f29 = upd f2 k52 (vp_nar .byte (((nI (0))).toInt8.toInt32)) ∧ kz_dy (dC, dI) vwCl A s.heap H locs [(o, .inr (4, [.int th, .int sta, .ref mt, .ref mn, .ref ml, .ref mc, .ref mh, .ref mk, .ref mp, .ref mm, .ref mb, .ref mw, .ref mr, .ref mx, .ref me, .ref mP, .ref mQ, .ref ms, .int hs, .int (nI (0)), .ref mo, .ref mW, .ref mD, .ref mB, .ref mR, .ref mS])), (mo, .inl (cB, 320, .inl f29)), (mW, .inl (cI, 64, .inl gmW)), (mD, .inl (cI, 8, .inl f1)), (mB, .inl (cI, 8, .inl gmB))] := ⟨_, rfl, hP, hD, hS⟩
                  refine lv_iinc (v := (nI (k52 + 1))) (lv' := [(3, .int (nI (k52 + 1))), (2, .int (nI (((sz_ + 9 + 63) / 64) * 64))), (1, .int (nI (sz_))), (0, .ref o)]) hx hb zd_N_reckon_99 hl (k := 0) rfl (nI_1 _) (by decide) rfl (fun ls hl => ?_)
                  refine lv_goto (tgt := 52) hx hb zd_N_reckon_102 (by decide) ?_
                  have hi9_hlo930 : sz_ ≤ k52 + 1 := by omega
                  have hi9_hp931 : ∀ j, j < k52 + 1 → f29 j = kd_pd gmo sz_ j := by intro j hj; rw [ef29]; unfold upd; by_cases h9 : j = k52; (rw [if_pos h9, pk_vb, h9]; first | exact kd_pdA (by omega) | exact kd_pdB (by omega) (by unfold kd_all; omega) | exact kd_pdC (by omega) (by unfold kd_all; omega)); (rw [if_neg h9]; exact hp9 j (by omega))
                  exact ih52 (k52 + 1) f29 _ _ _ (by omega) (by omega) hi9_hlo930 hi9_hp931 hdy (lv_sub hl [0, 1, 2, 3] rfl)
              · have hc64 : k52 = sz_ := (nI_eq (by omega) (by omega)).mp hc64
                refine lv_sipush (v := (nI (128))) hx hb zd_N_reckon_67 (by decide) ?_
                refine lv_goto (tgt := 97) hx hb zd_N_reckon_70 (by decide) ?_
                refine lv_i2b (v := ((nI (128))).toInt8.toInt32) hx hb zd_N_reckon_97 rfl ?_
                refine va_bast hx hb hK hdy.1 hdy.2.1 hdy.2.2 1 2 rfl rfl (vp_in_nI (by omega) (by omega)) zd_N_reckon_98 (fun H locs hP hD hS => ?_)
                rw [nI_clamp (by omega)] at hP hD
                obtain ⟨f32, ef32, hdy⟩ : ∃ f32 : Nat → Int32, f32 = upd f2 k52 (vp_nar .byte (((nI (128))).toInt8.toInt32)) ∧ kz_dy (dC, dI) vwCl A s.heap H locs [(o, .inr (4, [.int th, .int sta, .ref mt, .ref mn, .ref ml, .ref mc, .ref mh, .ref mk, .ref mp, .ref mm, .ref mb, .ref mw, .ref mr, .ref mx, .ref me, .ref mP, .ref mQ, .ref ms, .int hs, .int (nI (0)), .ref mo, .ref mW, .ref mD, .ref mB, .ref mR, .ref mS])), (mo, .inl (cB, 320, .inl f32)), (mW, .inl (cI, 64, .inl gmW)), (mD, .inl (cI, 8, .inl f1)), (mB, .inl (cI, 8, .inl gmB))] := ⟨_, rfl, hP, hD, hS⟩
                refine lv_iinc (v := (nI (k52 + 1))) (lv' := [(3, .int (nI (k52 + 1))), (2, .int (nI (((sz_ + 9 + 63) / 64) * 64))), (1, .int (nI (sz_))), (0, .ref o)]) hx hb zd_N_reckon_99 hl (k := 0) rfl (nI_1 _) (by decide) rfl (fun ls hl => ?_)
                refine lv_goto (tgt := 52) hx hb zd_N_reckon_102 (by decide) ?_
                have hi9_hlo933 : sz_ ≤ k52 + 1 := by omega
                have hi9_hp934 : ∀ j, j < k52 + 1 → f32 j = kd_pd gmo sz_ j := by intro j hj; rw [ef32]; unfold upd; by_cases h9 : j = k52; (rw [if_pos h9, pk_vb, h9]; first | exact kd_pdA (by omega) | exact kd_pdB (by omega) (by unfold kd_all; omega) | exact kd_pdC (by omega) (by unfold kd_all; omega)); (rw [if_neg h9]; exact hp9 j (by omega))
                exact ih52 (k52 + 1) f32 _ _ _ (by omega) (by omega) hi9_hlo933 hi9_hp934 hdy (lv_sub hl [0, 1, 2, 3] rfl)
        have hi9_hlo935 : sz_ ≤ sz_ := by omega
        have hi9_hp936 : ∀ j, j < sz_ → gmo j = kd_pd gmo sz_ j := by intro j hj; unfold kd_pd; rw [if_pos hj]
        exact lp52 (((sz_ + 9 + 63) / 64 * 64) - sz_ + 1) sz_ gmo _ _ _ (by omega) (by omega) hi9_hlo935 hi9_hp936 hdy (lv_sub hl [0, 1, 2, 3] rfl)
      · have hc15 : ¬ 8 ≤ k12 := fun h9 => hc15 ((nI_leI (by omega) (by omega)).mpr h9)
        refine lv_aload_n hx hb zd_N_reckon_18 rfl (lv_at hl 2 rfl) ?_
        refine va_get (D := (dC, dI)) (ci := 4) (v := .ref mD) (C := zR_N) (T := zT_N) (N := 26) hx hb hts (fun w h => kz_c (zi_N w h)) hown hK hdy.1 0 rfl rfl 22 (by decide) (hts _ (kz_c mw_613)) (fun _ h9 => h9) rfl zd_N_reckon_19 ?_
        refine lv_iload_n hx hb zd_N_reckon_22 rfl (lv_at hl 0 rfl) ?_
        refine lv_aload_n hx hb zd_N_reckon_23 rfl (lv_at hl 2 rfl) ?_
        refine va_get (D := (dC, dI)) (ci := 4) (v := .ref mS) (C := zR_N) (T := zT_N) (N := 26) hx hb hts (fun w h => kz_c (zi_N w h)) hown hK hdy.1 0 rfl rfl 25 (by decide) (hts _ (kz_c mw_616)) (fun _ h9 => h9) rfl zd_N_reckon_24 ?_
        refine lv_iload_n hx hb zd_N_reckon_27 rfl (lv_at hl 0 rfl) ?_
        refine kz_riald hx hb hK hro hdy.2.2 1 0 rfl rfl (vp_in_nI (by omega) (by omega)) zd_N_reckon_28 ?_
        refine lv_topi (fun x37 h9 => ?_)
        obtain rfl : x37 = gmS k12 := h9.trans (by rw [nI_clamp (by omega)])
        refine va_iast hx hb hK hdy.1 hdy.2.1 hdy.2.2 3 0 rfl rfl (vp_in_nI (by omega) (by omega)) zd_N_reckon_29 (fun H locs hP hD hS => ?_)
        rw [nI_clamp (by omega)] at hP hD
        obtain ⟨f38, ef38, hdy⟩ : ∃ f38 : Nat → Int32, f38 = upd f1 k12 ((gmS k12)) ∧ kz_dy (dC, dI) vwCl A s.heap H locs [(o, .inr (4, [.int th, .int sta, .ref mt, .ref mn, .ref ml, .ref mc, .ref mh, .ref mk, .ref mp, .ref mm, .ref mb, .ref mw, .ref mr, .ref mx, .ref me, .ref mP, .ref mQ, .ref ms, .int hs, .int (nI (0)), .ref mo, .ref mW, .ref mD, .ref mB, .ref mR, .ref mS])), (mo, .inl (cB, 320, .inl gmo)), (mW, .inl (cI, 64, .inl gmW)), (mD, .inl (cI, 8, .inl f38)), (mB, .inl (cI, 8, .inl gmB))] := ⟨_, rfl, hP, hD, hS⟩
        refine lv_iinc (v := (nI (k12 + 1))) (lv' := [(2, .int (nI (k12 + 1))), (1, .int (nI (sz_))), (0, .ref o)]) hx hb zd_N_reckon_30 hl (k := 0) rfl (nI_1 _) (by decide) rfl (fun ls hl => ?_)
        refine lv_goto (tgt := 12) hx hb zd_N_reckon_33 (by decide) ?_
        have hi9_hb939 : ∀ j, j < k12 + 1 → f38 j = gmS j := by rw [ef38]; exact kz_fillI hb9 rfl
        exact ih12 (k12 + 1) f38 _ _ _ (by omega) (by omega) hi9_hb939 hdy (lv_sub hl [0, 1, 2] rfl)
  have hi9_hb940 : ∀ j, j < 0 → gmD j = gmS j := by intro j hj; omega
  exact lp12 (8 - 0 + 1) 0 gmD _ _ _ (by omega) (by omega) hi9_hb940 hdy (lv_sub hl [0, 1, 2] rfl)

set_option maxHeartbeats 4000000 in
set_option maxRecDepth 100000 in
/-- KeyMeetingModel.hash(I[I)V -/
theorem c_G_hash1 (l : Launch) (dC : Nat → ClassId) (dI : Nat → Nat → Nat) (cI cAA cB cL : ClassId) (o mt mn ml mc mh mk mp mm mb mw mr mx me mP mQ ms mo mW mD mB mR mS : Nat) (th : Int32) (sta : Int32) (hs : Int32) (sz_ : Nat) (gmo : Nat → Int32) (gmW : Nat → Int32) (gmD : Nat → Int32) (gmB : Nat → Int32) (gmh : Nat → Int32) (gmt : Nat → Int32) (gmn : Nat → Int32) (gml : Nat → Int32) (gmc : Nat → Int32) (gmR : Nat → Int32) (gmS : Nat → Int32) (sz : Nat) (hs0 : sz_ = 0) : Met l zy_N_hash zw_N_hash { frames := 3, cells := 0, slots := 0, locals := 72 } (kz_Pc (dC, dI) vwCl [(cI, .int), (cAA, .array .int), (cB, .byte), (cL, .long)] [] [] [.ref o, .int (nI (1)), .ref mn] [(o, .inr (4, [.int th, .int sta, .ref mt, .ref mn, .ref ml, .ref mc, .ref mh, .ref mk, .ref mp, .ref mm, .ref mb, .ref mw, .ref mr, .ref mx, .ref me, .ref mP, .ref mQ, .ref ms, .int hs, .int (nI (sz_)), .ref mo, .ref mW, .ref mD, .ref mB, .ref mR, .ref mS])), (mo, .inl (cB, 320, .inl gmo)), (mW, .inl (cI, 64, .inl gmW)), (mD, .inl (cI, 8, .inl gmD)), (mB, .inl (cI, 8, .inl gmB)), (mh, .inl (cI, 16, .inl gmh))] [(mt, .inl (cI, 56, .inl gmt)), (mn, .inl (cI, 32, .inl gmn)), (ml, .inl (cI, 8, .inl gml)), (mc, .inl (cI, 16, .inl gmc)), (mR, .inl (cI, 64, .inl gmR)), (mS, .inl (cI, 8, .inl gmS))] sz) (va_Qv (fun (u : Nat × (Nat → Int32) × (Nat → Int32) × (Nat → Int32) × (Nat → Int32) × (Nat → Int32)) => (u.1 = 0) ∧ (∀ j, j < 8 → u.2.2.2.2.2 (8 * 1 + j) = kd_H gmR gmS (kd_hx (fun i => gmt (0 + i)) (fun i => gmt (8 + i)) (fun i => gmn (8 + i)) (fun i => gmn (0 + i)) (fun i => gmn (16 + i)) (fun i => gmc (8 * 1 + i)) kd_wh) 4 j) ∧ (∀ j, (j < 8 * 1 ∨ 8 * 1 + 8 ≤ j) → u.2.2.2.2.2 j = gmh j) ∧ True) (kz_B (dC, dI) vwCl (va_A [(o, .inr (4, [.int th, .int sta, .ref mt, .ref mn, .ref ml, .ref mc, .ref mh, .ref mk, .ref mp, .ref mm, .ref mb, .ref mw, .ref mr, .ref mx, .ref me, .ref mP, .ref mQ, .ref ms, .int hs, .int (nI (sz_)), .ref mo, .ref mW, .ref mD, .ref mB, .ref mR, .ref mS])), (mo, .inl (cB, 320, .inl gmo)), (mW, .inl (cI, 64, .inl gmW)), (mD, .inl (cI, 8, .inl gmD)), (mB, .inl (cI, 8, .inl gmB)), (mh, .inl (cI, 16, .inl gmh))] sz) (fun u : Nat × (Nat → Int32) × (Nat → Int32) × (Nat → Int32) × (Nat → Int32) × (Nat → Int32) => [(o, .inr (4, [.int th, .int sta, .ref mt, .ref mn, .ref ml, .ref mc, .ref mh, .ref mk, .ref mp, .ref mm, .ref mb, .ref mw, .ref mr, .ref mx, .ref me, .ref mP, .ref mQ, .ref ms, .int hs, .int (nI (u.1)), .ref mo, .ref mW, .ref mD, .ref mB, .ref mR, .ref mS])), (mo, .inl (cB, 320, .inl u.2.1)), (mW, .inl (cI, 64, .inl u.2.2.1)), (mD, .inl (cI, 8, .inl u.2.2.2.1)), (mB, .inl (cI, 8, .inl u.2.2.2.2.1)), (mh, .inl (cI, 16, .inl u.2.2.2.2.2))])) (va_A [(o, .inr (4, [.int th, .int sta, .ref mt, .ref mn, .ref ml, .ref mc, .ref mh, .ref mk, .ref mp, .ref mm, .ref mb, .ref mw, .ref mr, .ref mx, .ref me, .ref mP, .ref mQ, .ref ms, .int hs, .int (nI (sz_)), .ref mo, .ref mW, .ref mD, .ref mB, .ref mR, .ref mS])), (mo, .inl (cB, 320, .inl gmo)), (mW, .inl (cI, 64, .inl gmW)), (mD, .inl (cI, 8, .inl gmD)), (mB, .inl (cI, 8, .inl gmB)), (mh, .inl (cI, 16, .inl gmh))] sz)) 0 0 (va_A [(o, .inr (4, [.int th, .int sta, .ref mt, .ref mn, .ref ml, .ref mc, .ref mh, .ref mk, .ref mp, .ref mm, .ref mb, .ref mw, .ref mr, .ref mx, .ref me, .ref mP, .ref mQ, .ref ms, .int hs, .int (nI (sz_)), .ref mo, .ref mW, .ref mD, .ref mB, .ref mR, .ref mS])), (mo, .inl (cB, 320, .inl gmo)), (mW, .inl (cI, 64, .inl gmW)), (mD, .inl (cI, 8, .inl gmD)), (mB, .inl (cI, 8, .inl gmB)), (mh, .inl (cI, 16, .inl gmh))] sz) := by
  refine kz_met (y := zy_N_hash) (ws := zw_N_hash) (av := [.ref o, .int (nI (1)), .ref mn]) (sz := sz) (Qc := fun A => va_Qv (fun (u : Nat × (Nat → Int32) × (Nat → Int32) × (Nat → Int32) × (Nat → Int32) × (Nat → Int32)) => (u.1 = 0) ∧ (∀ j, j < 8 → u.2.2.2.2.2 (8 * 1 + j) = kd_H gmR gmS (kd_hx (fun i => gmt (0 + i)) (fun i => gmt (8 + i)) (fun i => gmn (8 + i)) (fun i => gmn (0 + i)) (fun i => gmn (16 + i)) (fun i => gmc (8 * 1 + i)) kd_wh) 4 j) ∧ (∀ j, (j < 8 * 1 ∨ 8 * 1 + 8 ≤ j) → u.2.2.2.2.2 j = gmh j) ∧ True) (kz_B (dC, dI) vwCl A (fun u : Nat × (Nat → Int32) × (Nat → Int32) × (Nat → Int32) × (Nat → Int32) × (Nat → Int32) => [(o, .inr (4, [.int th, .int sta, .ref mt, .ref mn, .ref ml, .ref mc, .ref mh, .ref mk, .ref mp, .ref mm, .ref mb, .ref mw, .ref mr, .ref mx, .ref me, .ref mP, .ref mQ, .ref ms, .int hs, .int (nI (u.1)), .ref mo, .ref mW, .ref mD, .ref mB, .ref mR, .ref mS])), (mo, .inl (cB, 320, .inl u.2.1)), (mW, .inl (cI, 64, .inl u.2.2.1)), (mD, .inl (cI, 8, .inl u.2.2.2.1)), (mB, .inl (cI, 8, .inl u.2.2.2.2.1)), (mh, .inl (cI, 16, .inl u.2.2.2.2.2))])) A) (cc := zc_N_hash) (maxL := 4) (ret := none) (by decide) rfl (Nat.le_of_ble_eq_true rfl) ?_
  intro p e s m below meth c A ls F hA hdy hK hro hZ hN hl
  obtain ⟨hx, hb, hml, hr, hown, hlocks, hts, hnm⟩ := id F
  have hl : lv_has ls 4 [(0, .ref o), (1, .int (nI (1))), (2, .ref mn)] := hl
  refine lv_aload_n hx hb zd_N_hash_0 rfl (lv_at hl 0 rfl) ?_
  refine lv_aload_n hx hb zd_N_hash_1 rfl (lv_at hl 0 rfl) ?_
  refine va_get (D := (dC, dI)) (ci := 4) (v := .ref mt) (C := zR_N) (T := zT_N) (N := 26) hx hb hts (fun w h => kz_c (zi_N w h)) hown hK hdy.1 0 rfl rfl 2 (by decide) (hts _ (kz_c mw_593)) (fun _ h9 => h9) rfl zd_N_hash_2 ?_
  refine lv_iconst (v := (nI (0))) hx hb zd_N_hash_5 (by decide) ?_
  refine kz_callv (wk := [(mW, .inl (cI, 64, .inl gmW)), (mD, .inl (cI, 8, .inl gmD)), (mB, .inl (cI, 8, .inl gmB)), (mh, .inl (cI, 16, .inl gmh))]) (va_runV (As := [.ref mt, .int (nI (0))]) (rest := []) ⟨hx, hb, hml, hown, hts⟩ (c_G_addWords56 l dC dI cI cAA cB cL o mt mn ml mc mh mk mp mm mb mw mr mx me mP mQ ms mo mW mD mB mR mS mt (th) (sta) (hs) sz_ gmo gmt 0 _ (by first | omega | assumption) (by first | omega | assumption)) (cwV 2 hts (kz_g (kz_mc mw_752 (kz_mc mw_754 (kz_mc mw_31 (kz_mc mw_43 kz_mn)))) mw_755) rfl rfl rfl (by decide +kernel) ⟨Nat.le_of_ble_eq_true rfl, Nat.le_of_ble_eq_true rfl⟩) (kz_preV hdy hA hK hro hZ hN [0, 1] (by decide) rfl [(true, 0)] rfl (by decide) [0, 1, 2, 3] rfl (fun _ h => by cases h) (fun _ h => by cases h) rfl (ci := 4) (q0 := 0) rfl rfl rfl) rfl rfl hl.1 rfl (lv_room (Nat.le_of_ble_eq_true rfl)) zd_N_hash_6 ⟨Nat.le_of_ble_eq_true rfl, Nat.le_of_ble_eq_true rfl⟩) hdy hA [0, 1] [2, 3, 4, 5] rfl rfl (by decide) (by decide) (fun u H locs hw hdy => ?_)
  obtain ⟨c1, f2⟩ := u
  try dsimp only at hw
  obtain ⟨q3, q4, q5, -⟩ := hw
  have hdy : kz_dy (dC, dI) vwCl A s.heap H locs [(o, .inr (4, [.int th, .int sta, .ref mt, .ref mn, .ref ml, .ref mc, .ref mh, .ref mk, .ref mp, .ref mm, .ref mb, .ref mw, .ref mr, .ref mx, .ref me, .ref mP, .ref mQ, .ref ms, .int hs, .int (nI (c1)), .ref mo, .ref mW, .ref mD, .ref mB, .ref mR, .ref mS])), (mo, .inl (cB, 320, .inl f2)), (mW, .inl (cI, 64, .inl gmW)), (mD, .inl (cI, 8, .inl gmD)), (mB, .inl (cI, 8, .inl gmB)), (mh, .inl (cI, 16, .inl gmh))] := hdy.sub [4, 5, 0, 1, 2, 3] (by decide) rfl
  have hh0 : kd_has f2 0 (fun i => gmt (0 + i)) := kd_hasAt q4 (by omega)
  refine lv_aload_n hx hb zd_N_hash_9 rfl (lv_at hl 0 rfl) ?_
  refine lv_aload_n hx hb zd_N_hash_10 rfl (lv_at hl 0 rfl) ?_
  refine va_get (D := (dC, dI)) (ci := 4) (v := .ref mt) (C := zR_N) (T := zT_N) (N := 26) hx hb hts (fun w h => kz_c (zi_N w h)) hown hK hdy.1 0 rfl rfl 2 (by decide) (hts _ (kz_c mw_593)) (fun _ h9 => h9) rfl zd_N_hash_11 ?_
  refine lv_bipush (v := (nI (8))) hx hb zd_N_hash_14 (by decide) ?_
  refine kz_callv (wk := [(mW, .inl (cI, 64, .inl gmW)), (mD, .inl (cI, 8, .inl gmD)), (mB, .inl (cI, 8, .inl gmB)), (mh, .inl (cI, 16, .inl gmh))]) (va_runV (As := [.ref mt, .int (nI (8))]) (rest := []) ⟨hx, hb, hml, hown, hts⟩ (c_G_addWords56 l dC dI cI cAA cB cL o mt mn ml mc mh mk mp mm mb mw mr mx me mP mQ ms mo mW mD mB mR mS mt (th) (sta) (hs) c1 f2 gmt 8 _ (by first | omega | assumption) (by first | omega | assumption)) (cwV 2 hts (kz_g (kz_mc mw_752 (kz_mc mw_754 (kz_mc mw_31 (kz_mc mw_43 kz_mn)))) mw_755) rfl rfl rfl (by decide +kernel) ⟨Nat.le_of_ble_eq_true rfl, Nat.le_of_ble_eq_true rfl⟩) (kz_preV hdy hA hK hro hZ hN [0, 1] (by decide) rfl [(true, 0)] rfl (by decide) [0, 1, 2, 3] rfl (fun _ h => by cases h) (fun _ h => by cases h) rfl (ci := 4) (q0 := 0) rfl rfl rfl) rfl rfl hl.1 rfl (lv_room (Nat.le_of_ble_eq_true rfl)) zd_N_hash_16 ⟨Nat.le_of_ble_eq_true rfl, Nat.le_of_ble_eq_true rfl⟩) hdy hA [0, 1] [2, 3, 4, 5] rfl rfl (by decide) (by decide) (fun u H locs hw hdy => ?_)
  obtain ⟨c6, f7⟩ := u
  try dsimp only at hw
  obtain ⟨q8, q9, q10, -⟩ := hw
  have hdy : kz_dy (dC, dI) vwCl A s.heap H locs [(o, .inr (4, [.int th, .int sta, .ref mt, .ref mn, .ref ml, .ref mc, .ref mh, .ref mk, .ref mp, .ref mm, .ref mb, .ref mw, .ref mr, .ref mx, .ref me, .ref mP, .ref mQ, .ref ms, .int hs, .int (nI (c6)), .ref mo, .ref mW, .ref mD, .ref mB, .ref mR, .ref mS])), (mo, .inl (cB, 320, .inl f7)), (mW, .inl (cI, 64, .inl gmW)), (mD, .inl (cI, 8, .inl gmD)), (mB, .inl (cI, 8, .inl gmB)), (mh, .inl (cI, 16, .inl gmh))] := hdy.sub [4, 5, 0, 1, 2, 3] (by decide) rfl
  have hh0 : kd_has f7 0 (fun i => gmt (0 + i)) := kd_hasKeep hh0 q10 (by omega)
  have hh1 : kd_has f7 32 (fun i => gmt (8 + i)) := kd_hasAt q9 (by omega)
  refine lv_aload_n hx hb zd_N_hash_19 rfl (lv_at hl 0 rfl) ?_
  refine lv_aload_n hx hb zd_N_hash_20 rfl (lv_at hl 0 rfl) ?_
  refine va_get (D := (dC, dI)) (ci := 4) (v := .ref mn) (C := zR_N) (T := zT_N) (N := 26) hx hb hts (fun w h => kz_c (zi_N w h)) hown hK hdy.1 0 rfl rfl 3 (by decide) (hts _ (kz_c mw_594)) (fun _ h9 => h9) rfl zd_N_hash_21 ?_
  refine lv_bipush (v := (nI (8))) hx hb zd_N_hash_24 (by decide) ?_
  refine kz_callv (wk := [(mW, .inl (cI, 64, .inl gmW)), (mD, .inl (cI, 8, .inl gmD)), (mB, .inl (cI, 8, .inl gmB)), (mh, .inl (cI, 16, .inl gmh))]) (va_runV (As := [.ref mn, .int (nI (8))]) (rest := []) ⟨hx, hb, hml, hown, hts⟩ (c_G_addWords32 l dC dI cI cAA cB cL o mt mn ml mc mh mk mp mm mb mw mr mx me mP mQ ms mo mW mD mB mR mS mn (th) (sta) (hs) c6 f7 gmn 8 _ (by first | omega | assumption) (by first | omega | assumption)) (cwV 2 hts (kz_g (kz_mc mw_752 (kz_mc mw_754 (kz_mc mw_31 (kz_mc mw_43 kz_mn)))) mw_755) rfl rfl rfl (by decide +kernel) ⟨Nat.le_of_ble_eq_true rfl, Nat.le_of_ble_eq_true rfl⟩) (kz_preV hdy hA hK hro hZ hN [0, 1] (by decide) rfl [(true, 1)] rfl (by decide) [0, 1, 2, 3] rfl (fun _ h => by cases h) (fun _ h => by cases h) rfl (ci := 4) (q0 := 0) rfl rfl rfl) rfl rfl hl.1 rfl (lv_room (Nat.le_of_ble_eq_true rfl)) zd_N_hash_26 ⟨Nat.le_of_ble_eq_true rfl, Nat.le_of_ble_eq_true rfl⟩) hdy hA [0, 1] [2, 3, 4, 5] rfl rfl (by decide) (by decide) (fun u H locs hw hdy => ?_)
  obtain ⟨c11, f12⟩ := u
  try dsimp only at hw
  obtain ⟨q13, q14, q15, -⟩ := hw
  have hdy : kz_dy (dC, dI) vwCl A s.heap H locs [(o, .inr (4, [.int th, .int sta, .ref mt, .ref mn, .ref ml, .ref mc, .ref mh, .ref mk, .ref mp, .ref mm, .ref mb, .ref mw, .ref mr, .ref mx, .ref me, .ref mP, .ref mQ, .ref ms, .int hs, .int (nI (c11)), .ref mo, .ref mW, .ref mD, .ref mB, .ref mR, .ref mS])), (mo, .inl (cB, 320, .inl f12)), (mW, .inl (cI, 64, .inl gmW)), (mD, .inl (cI, 8, .inl gmD)), (mB, .inl (cI, 8, .inl gmB)), (mh, .inl (cI, 16, .inl gmh))] := hdy.sub [4, 5, 0, 1, 2, 3] (by decide) rfl
  have hh0 : kd_has f12 0 (fun i => gmt (0 + i)) := kd_hasKeep hh0 q15 (by omega)
  have hh1 : kd_has f12 32 (fun i => gmt (8 + i)) := kd_hasKeep hh1 q15 (by omega)
  have hh2 : kd_has f12 64 (fun i => gmn (8 + i)) := kd_hasAt q14 (by omega)
  refine lv_aload_n hx hb zd_N_hash_29 rfl (lv_at hl 0 rfl) ?_
  refine lv_aload_n hx hb zd_N_hash_30 rfl (lv_at hl 2 rfl) ?_
  refine lv_iconst (v := (nI (0))) hx hb zd_N_hash_31 (by decide) ?_
  refine kz_callv (wk := [(mW, .inl (cI, 64, .inl gmW)), (mD, .inl (cI, 8, .inl gmD)), (mB, .inl (cI, 8, .inl gmB)), (mh, .inl (cI, 16, .inl gmh))]) (va_runV (As := [.ref mn, .int (nI (0))]) (rest := []) ⟨hx, hb, hml, hown, hts⟩ (c_G_addWords32 l dC dI cI cAA cB cL o mt mn ml mc mh mk mp mm mb mw mr mx me mP mQ ms mo mW mD mB mR mS mn (th) (sta) (hs) c11 f12 gmn 0 _ (by first | omega | assumption) (by first | omega | assumption)) (cwV 2 hts (kz_g (kz_mc mw_752 (kz_mc mw_754 (kz_mc mw_31 (kz_mc mw_43 kz_mn)))) mw_755) rfl rfl rfl (by decide +kernel) ⟨Nat.le_of_ble_eq_true rfl, Nat.le_of_ble_eq_true rfl⟩) (kz_preV hdy hA hK hro hZ hN [0, 1] (by decide) rfl [(true, 1)] rfl (by decide) [0, 1, 2, 3] rfl (fun _ h => by cases h) (fun _ h => by cases h) rfl (ci := 4) (q0 := 0) rfl rfl rfl) rfl rfl hl.1 rfl (lv_room (Nat.le_of_ble_eq_true rfl)) zd_N_hash_32 ⟨Nat.le_of_ble_eq_true rfl, Nat.le_of_ble_eq_true rfl⟩) hdy hA [0, 1] [2, 3, 4, 5] rfl rfl (by decide) (by decide) (fun u H locs hw hdy => ?_)
  obtain ⟨c16, f17⟩ := u
  try dsimp only at hw
  obtain ⟨q18, q19, q20, -⟩ := hw
  have hdy : kz_dy (dC, dI) vwCl A s.heap H locs [(o, .inr (4, [.int th, .int sta, .ref mt, .ref mn, .ref ml, .ref mc, .ref mh, .ref mk, .ref mp, .ref mm, .ref mb, .ref mw, .ref mr, .ref mx, .ref me, .ref mP, .ref mQ, .ref ms, .int hs, .int (nI (c16)), .ref mo, .ref mW, .ref mD, .ref mB, .ref mR, .ref mS])), (mo, .inl (cB, 320, .inl f17)), (mW, .inl (cI, 64, .inl gmW)), (mD, .inl (cI, 8, .inl gmD)), (mB, .inl (cI, 8, .inl gmB)), (mh, .inl (cI, 16, .inl gmh))] := hdy.sub [4, 5, 0, 1, 2, 3] (by decide) rfl
  have hh0 : kd_has f17 0 (fun i => gmt (0 + i)) := kd_hasKeep hh0 q20 (by omega)
  have hh1 : kd_has f17 32 (fun i => gmt (8 + i)) := kd_hasKeep hh1 q20 (by omega)
  have hh2 : kd_has f17 64 (fun i => gmn (8 + i)) := kd_hasKeep hh2 q20 (by omega)
  have hh3 : kd_has f17 96 (fun i => gmn (0 + i)) := kd_hasAt q19 (by omega)
  refine lv_aload_n hx hb zd_N_hash_35 rfl (lv_at hl 0 rfl) ?_
  refine lv_aload_n hx hb zd_N_hash_36 rfl (lv_at hl 0 rfl) ?_
  refine va_get (D := (dC, dI)) (ci := 4) (v := .ref mn) (C := zR_N) (T := zT_N) (N := 26) hx hb hts (fun w h => kz_c (zi_N w h)) hown hK hdy.1 0 rfl rfl 3 (by decide) (hts _ (kz_c mw_594)) (fun _ h9 => h9) rfl zd_N_hash_37 ?_
  refine lv_bipush (v := (nI (16))) hx hb zd_N_hash_40 (by decide) ?_
  refine kz_callv (wk := [(mW, .inl (cI, 64, .inl gmW)), (mD, .inl (cI, 8, .inl gmD)), (mB, .inl (cI, 8, .inl gmB)), (mh, .inl (cI, 16, .inl gmh))]) (va_runV (As := [.ref mn, .int (nI (16))]) (rest := []) ⟨hx, hb, hml, hown, hts⟩ (c_G_addWords32 l dC dI cI cAA cB cL o mt mn ml mc mh mk mp mm mb mw mr mx me mP mQ ms mo mW mD mB mR mS mn (th) (sta) (hs) c16 f17 gmn 16 _ (by first | omega | assumption) (by first | omega | assumption)) (cwV 2 hts (kz_g (kz_mc mw_752 (kz_mc mw_754 (kz_mc mw_31 (kz_mc mw_43 kz_mn)))) mw_755) rfl rfl rfl (by decide +kernel) ⟨Nat.le_of_ble_eq_true rfl, Nat.le_of_ble_eq_true rfl⟩) (kz_preV hdy hA hK hro hZ hN [0, 1] (by decide) rfl [(true, 1)] rfl (by decide) [0, 1, 2, 3] rfl (fun _ h => by cases h) (fun _ h => by cases h) rfl (ci := 4) (q0 := 0) rfl rfl rfl) rfl rfl hl.1 rfl (lv_room (Nat.le_of_ble_eq_true rfl)) zd_N_hash_42 ⟨Nat.le_of_ble_eq_true rfl, Nat.le_of_ble_eq_true rfl⟩) hdy hA [0, 1] [2, 3, 4, 5] rfl rfl (by decide) (by decide) (fun u H locs hw hdy => ?_)
  obtain ⟨c21, f22⟩ := u
  try dsimp only at hw
  obtain ⟨q23, q24, q25, -⟩ := hw
  have hdy : kz_dy (dC, dI) vwCl A s.heap H locs [(o, .inr (4, [.int th, .int sta, .ref mt, .ref mn, .ref ml, .ref mc, .ref mh, .ref mk, .ref mp, .ref mm, .ref mb, .ref mw, .ref mr, .ref mx, .ref me, .ref mP, .ref mQ, .ref ms, .int hs, .int (nI (c21)), .ref mo, .ref mW, .ref mD, .ref mB, .ref mR, .ref mS])), (mo, .inl (cB, 320, .inl f22)), (mW, .inl (cI, 64, .inl gmW)), (mD, .inl (cI, 8, .inl gmD)), (mB, .inl (cI, 8, .inl gmB)), (mh, .inl (cI, 16, .inl gmh))] := hdy.sub [4, 5, 0, 1, 2, 3] (by decide) rfl
  have hh0 : kd_has f22 0 (fun i => gmt (0 + i)) := kd_hasKeep hh0 q25 (by omega)
  have hh1 : kd_has f22 32 (fun i => gmt (8 + i)) := kd_hasKeep hh1 q25 (by omega)
  have hh2 : kd_has f22 64 (fun i => gmn (8 + i)) := kd_hasKeep hh2 q25 (by omega)
  have hh3 : kd_has f22 96 (fun i => gmn (0 + i)) := kd_hasKeep hh3 q25 (by omega)
  have hh4 : kd_has f22 128 (fun i => gmn (16 + i)) := kd_hasAt q24 (by omega)
  refine lv_aload_n hx hb zd_N_hash_45 rfl (lv_at hl 0 rfl) ?_
  refine lv_aload_n hx hb zd_N_hash_46 rfl (lv_at hl 0 rfl) ?_
  refine va_get (D := (dC, dI)) (ci := 4) (v := .ref mc) (C := zR_N) (T := zT_N) (N := 26) hx hb hts (fun w h => kz_c (zi_N w h)) hown hK hdy.1 0 rfl rfl 5 (by decide) (hts _ (kz_c mw_596)) (fun _ h9 => h9) rfl zd_N_hash_47 ?_
  refine lv_bipush (v := (nI (8))) hx hb zd_N_hash_50 (by decide) ?_
  refine lv_iload_n hx hb zd_N_hash_52 rfl (lv_at hl 1 rfl) ?_
  refine kz_imul hx hb zd_N_hash_53 (pk_mul _ _) ?_
  refine kz_callv (wk := [(mW, .inl (cI, 64, .inl gmW)), (mD, .inl (cI, 8, .inl gmD)), (mB, .inl (cI, 8, .inl gmB)), (mh, .inl (cI, 16, .inl gmh))]) (va_runV (As := [.ref mc, .int (nI (8 * 1))]) (rest := []) ⟨hx, hb, hml, hown, hts⟩ (c_G_addWords16 l dC dI cI cAA cB cL o mt mn ml mc mh mk mp mm mb mw mr mx me mP mQ ms mo mW mD mB mR mS mc (th) (sta) (hs) c21 f22 gmc (8 * 1) _ (by first | omega | assumption) (by first | omega | assumption)) (cwV 2 hts (kz_g (kz_mc mw_752 (kz_mc mw_754 (kz_mc mw_31 (kz_mc mw_43 kz_mn)))) mw_755) rfl rfl rfl (by decide +kernel) ⟨Nat.le_of_ble_eq_true rfl, Nat.le_of_ble_eq_true rfl⟩) (kz_preV hdy hA hK hro hZ hN [0, 1] (by decide) rfl [(true, 3)] rfl (by decide) [0, 1, 2, 3] rfl (fun _ h => by cases h) (fun _ h => by cases h) rfl (ci := 4) (q0 := 0) rfl rfl rfl) rfl rfl hl.1 rfl (lv_room (Nat.le_of_ble_eq_true rfl)) zd_N_hash_54 ⟨Nat.le_of_ble_eq_true rfl, Nat.le_of_ble_eq_true rfl⟩) hdy hA [0, 1] [2, 3, 4, 5] rfl rfl (by decide) (by decide) (fun u H locs hw hdy => ?_)
  obtain ⟨c26, f27⟩ := u
  try dsimp only at hw
  obtain ⟨q28, q29, q30, -⟩ := hw
  have hdy : kz_dy (dC, dI) vwCl A s.heap H locs [(o, .inr (4, [.int th, .int sta, .ref mt, .ref mn, .ref ml, .ref mc, .ref mh, .ref mk, .ref mp, .ref mm, .ref mb, .ref mw, .ref mr, .ref mx, .ref me, .ref mP, .ref mQ, .ref ms, .int hs, .int (nI (c26)), .ref mo, .ref mW, .ref mD, .ref mB, .ref mR, .ref mS])), (mo, .inl (cB, 320, .inl f27)), (mW, .inl (cI, 64, .inl gmW)), (mD, .inl (cI, 8, .inl gmD)), (mB, .inl (cI, 8, .inl gmB)), (mh, .inl (cI, 16, .inl gmh))] := hdy.sub [4, 5, 0, 1, 2, 3] (by decide) rfl
  have hh0 : kd_has f27 0 (fun i => gmt (0 + i)) := kd_hasKeep hh0 q30 (by omega)
  have hh1 : kd_has f27 32 (fun i => gmt (8 + i)) := kd_hasKeep hh1 q30 (by omega)
  have hh2 : kd_has f27 64 (fun i => gmn (8 + i)) := kd_hasKeep hh2 q30 (by omega)
  have hh3 : kd_has f27 96 (fun i => gmn (0 + i)) := kd_hasKeep hh3 q30 (by omega)
  have hh4 : kd_has f27 128 (fun i => gmn (16 + i)) := kd_hasKeep hh4 q30 (by omega)
  have hh5 : kd_has f27 160 (fun i => gmc (8 * 1 + i)) := kd_hasAt q29 (by omega)
  refine lv_aload_n hx hb zd_N_hash_57 rfl (lv_at hl 0 rfl) ?_
  refine kz_callv (wk := [(mh, .inl (cI, 16, .inl gmh))]) (va_runV (As := []) (rest := []) ⟨hx, hb, hml, hown, hts⟩ (c_G_reckon l dC dI cI cAA cB cL o mt mn ml mc mh mk mp mm mb mw mr mx me mP mQ ms mo mW mD mB mR mS (th) (sta) (hs) c26 f27 gmW gmD gmB gmR gmS _ (by first | omega | assumption)) (cwV 0 hts (kz_g (kz_mc mw_756 (kz_mc mw_758 (kz_mc mw_32 (kz_mc mw_43 kz_mn)))) mw_759) rfl rfl rfl (by decide +kernel) ⟨Nat.le_of_ble_eq_true rfl, Nat.le_of_ble_eq_true rfl⟩) (kz_preV hdy hA hK hro hZ hN [0, 1, 2, 3, 4] (by decide) rfl [(true, 4), (true, 5)] rfl (by decide) [0, 1, 2, 3] rfl (fun _ h => by cases h) (fun _ h => by cases h) rfl (ci := 4) (q0 := 0) rfl rfl rfl) rfl rfl hl.1 rfl (lv_room (Nat.le_of_ble_eq_true rfl)) zd_N_hash_58 ⟨Nat.le_of_ble_eq_true rfl, Nat.le_of_ble_eq_true rfl⟩) hdy hA [0, 1, 2, 3, 4] [5] rfl rfl (by decide) (by decide) (fun u H locs hw hdy => ?_)
  obtain ⟨c31, f32, f33, f34, f35⟩ := u
  try dsimp only at hw
  obtain ⟨q36, q37, -⟩ := hw
  have hdy : kz_dy (dC, dI) vwCl A s.heap H locs [(o, .inr (4, [.int th, .int sta, .ref mt, .ref mn, .ref ml, .ref mc, .ref mh, .ref mk, .ref mp, .ref mm, .ref mb, .ref mw, .ref mr, .ref mx, .ref me, .ref mP, .ref mQ, .ref ms, .int hs, .int (nI (c31)), .ref mo, .ref mW, .ref mD, .ref mB, .ref mR, .ref mS])), (mo, .inl (cB, 320, .inl f32)), (mW, .inl (cI, 64, .inl f33)), (mD, .inl (cI, 8, .inl f34)), (mB, .inl (cI, 8, .inl f35)), (mh, .inl (cI, 16, .inl gmh))] := hdy.sub [1, 2, 3, 4, 5, 0] (by decide) rfl
  have hHs : ∀ j, j < 8 → f34 j = kd_H gmR gmS (kd_hx (fun i => gmt (0 + i)) (fun i => gmt (8 + i)) (fun i => gmn (8 + i)) (fun i => gmn (0 + i)) (fun i => gmn (16 + i)) (fun i => gmc (8 * 1 + i)) kd_wh) 4 j := kd_hashM (Y := gmR) q37 (by omega) (kd_hashW hh0 hh1 hh2 hh3 hh4 hh5)
  refine lv_iconst (v := (nI (0))) hx hb zd_N_hash_61 (by decide) ?_
  refine lv_istore_n (lv' := [(3, .int (nI (0))), (0, .ref o), (1, .int (nI (1))), (2, .ref mn)]) hx hb zd_N_hash_62 rfl hl (by decide) rfl (fun ls hl => ?_)
  have lp63 : ∀ (n63 k63 : Nat) (f38 : Nat → Int32) (H : Heap) (locs : List Loc) (ls : Array Slot), k63 ≤ 8 → 8 - k63 < n63 → (∀ j, j < k63 → f38 (8 * 1 + j) = f34 j) → (∀ j, (j < 8 * 1 ∨ 8 * 1 + 8 ≤ j) → f38 j = gmh j) → kz_dy (dC, dI) vwCl A s.heap H locs [(o, .inr (4, [.int th, .int sta, .ref mt, .ref mn, .ref ml, .ref mc, .ref mh, .ref mk, .ref mp, .ref mm, .ref mb, .ref mw, .ref mr, .ref mx, .ref me, .ref mP, .ref mQ, .ref ms, .int hs, .int (nI (c31)), .ref mo, .ref mW, .ref mD, .ref mB, .ref mR, .ref mS])), (mo, .inl (cB, 320, .inl f32)), (mW, .inl (cI, 64, .inl f33)), (mD, .inl (cI, 8, .inl f34)), (mB, .inl (cI, 8, .inl f35)), (mh, .inl (cI, 16, .inl f38))] → lv_has ls 4 [(3, .int (nI (k63))), (0, .ref o), (1, .int (nI (1))), (2, .ref mn)] → W p l e { frames := 3, cells := 0, slots := 0, locals := 72 } s m ([.ref o, .int (nI (1)), .ref mn] : List Value).toArray below meth c H locs 0 0 (MQ below (va_Qv (fun (u : Nat × (Nat → Int32) × (Nat → Int32) × (Nat → Int32) × (Nat → Int32) × (Nat → Int32)) => (u.1 = 0) ∧ (∀ j, j < 8 → u.2.2.2.2.2 (8 * 1 + j) = kd_H gmR gmS (kd_hx (fun i => gmt (0 + i)) (fun i => gmt (8 + i)) (fun i => gmn (8 + i)) (fun i => gmn (0 + i)) (fun i => gmn (16 + i)) (fun i => gmc (8 * 1 + i)) kd_wh) 4 j) ∧ (∀ j, (j < 8 * 1 ∨ 8 * 1 + 8 ≤ j) → u.2.2.2.2.2 j = gmh j) ∧ True) (kz_B (dC, dI) vwCl A (fun u : Nat × (Nat → Int32) × (Nat → Int32) × (Nat → Int32) × (Nat → Int32) × (Nat → Int32) => [(o, .inr (4, [.int th, .int sta, .ref mt, .ref mn, .ref ml, .ref mc, .ref mh, .ref mk, .ref mp, .ref mm, .ref mb, .ref mw, .ref mr, .ref mx, .ref me, .ref mP, .ref mQ, .ref ms, .int hs, .int (nI (u.1)), .ref mo, .ref mW, .ref mD, .ref mB, .ref mR, .ref mS])), (mo, .inl (cB, 320, .inl u.2.1)), (mW, .inl (cI, 64, .inl u.2.2.1)), (mD, .inl (cI, 8, .inl u.2.2.2.1)), (mB, .inl (cI, 8, .inl u.2.2.2.2.1)), (mh, .inl (cI, 16, .inl u.2.2.2.2.2))])) A) ([.ref o, .int (nI (1)), .ref mn] : List Value).toArray s 0 0 A) (F0 m 63 ls []) := by
    intro n63
    induction n63 with
    | zero => intro k63; intros; omega
    | succ n63 ih63 =>
      intro k63 f38 H locs ls hi63 hn63 hA9 hB9 hdy hl
      refine lv_iload_n hx hb zd_N_hash_63 rfl (lv_at hl 0 rfl) ?_
      refine lv_bipush (v := (nI (8))) hx hb zd_N_hash_64 (by decide) ?_
      refine lv_icmp_ge (tgt := 92) hx hb zd_N_hash_66 (by decide) (fun hc66 => ?_) (fun hc66 => ?_)
      · have hc66 : 8 ≤ k63 := (nI_leI (by omega) (by omega)).mp hc66
        exact kz_vret F (c31, f32, f33, f34, f35, f38) hdy (⟨by first | assumption | rfl | omega, by exact fun j hj => (hA9 j (by omega)).trans (hHs j hj), by exact hB9, trivial⟩) zd_N_hash_92
      · have hc66 : ¬ 8 ≤ k63 := fun h9 => hc66 ((nI_leI (by omega) (by omega)).mpr h9)
        refine lv_aload_n hx hb zd_N_hash_69 rfl (lv_at hl 1 rfl) ?_
        refine va_get (D := (dC, dI)) (ci := 4) (v := .ref mh) (C := zR_N) (T := zT_N) (N := 26) hx hb hts (fun w h => kz_c (zi_N w h)) hown hK hdy.1 0 rfl rfl 6 (by decide) (hts _ (kz_c mw_597)) (fun _ h9 => h9) rfl zd_N_hash_70 ?_
        refine lv_bipush (v := (nI (8))) hx hb zd_N_hash_73 (by decide) ?_
        refine lv_iload_n hx hb zd_N_hash_75 rfl (lv_at hl 2 rfl) ?_
        refine kz_imul hx hb zd_N_hash_76 (pk_mul _ _) ?_
        refine lv_iload_n hx hb zd_N_hash_77 rfl (lv_at hl 0 rfl) ?_
        refine kz_iadd hx hb zd_N_hash_78 (nI_add _ _) ?_
        refine lv_aload_n hx hb zd_N_hash_79 rfl (lv_at hl 1 rfl) ?_
        refine va_get (D := (dC, dI)) (ci := 4) (v := .ref mD) (C := zR_N) (T := zT_N) (N := 26) hx hb hts (fun w h => kz_c (zi_N w h)) hown hK hdy.1 0 rfl rfl 22 (by decide) (hts _ (kz_c mw_613)) (fun _ h9 => h9) rfl zd_N_hash_80 ?_
        refine lv_iload_n hx hb zd_N_hash_83 rfl (lv_at hl 0 rfl) ?_
        refine va_iald hx hb hK hdy.1 3 0 rfl rfl (vp_in_nI (by omega) (by omega)) zd_N_hash_84 ?_
        refine lv_topi (fun x39 h9 => ?_)
        obtain rfl : x39 = f34 k63 := h9.trans (by rw [nI_clamp (by omega)])
        refine va_iast hx hb hK hdy.1 hdy.2.1 hdy.2.2 5 0 rfl rfl (vp_in_nI (by omega) (by omega)) zd_N_hash_85 (fun H locs hP hD hS => ?_)
        rw [nI_clamp (by omega)] at hP hD
        obtain ⟨f40, ef40, hdy⟩ : ∃ f40 : Nat → Int32, f40 = upd f38 (8 * 1 + k63) ((f34 k63)) ∧ kz_dy (dC, dI) vwCl A s.heap H locs [(o, .inr (4, [.int th, .int sta, .ref mt, .ref mn, .ref ml, .ref mc, .ref mh, .ref mk, .ref mp, .ref mm, .ref mb, .ref mw, .ref mr, .ref mx, .ref me, .ref mP, .ref mQ, .ref ms, .int hs, .int (nI (c31)), .ref mo, .ref mW, .ref mD, .ref mB, .ref mR, .ref mS])), (mo, .inl (cB, 320, .inl f32)), (mW, .inl (cI, 64, .inl f33)), (mD, .inl (cI, 8, .inl f34)), (mB, .inl (cI, 8, .inl f35)), (mh, .inl (cI, 16, .inl f40))] := ⟨_, rfl, hP, hD, hS⟩
        refine lv_iinc (v := (nI (k63 + 1))) (lv' := [(3, .int (nI (k63 + 1))), (0, .ref o), (1, .int (nI (1))), (2, .ref mn)]) hx hb zd_N_hash_86 hl (k := 0) rfl (nI_1 _) (by decide) rfl (fun ls hl => ?_)
        refine lv_goto (tgt := 63) hx hb zd_N_hash_89 (by decide) ?_
        have hi9_hA941 : ∀ j, j < k63 + 1 → f40 (8 * 1 + j) = f34 j := by rw [ef40]; exact kz_fillw hA9 rfl
        have hi9_hB942 : ∀ j, (j < 8 * 1 ∨ 8 * 1 + 8 ≤ j) → f40 j = gmh j := by rw [ef40]; exact kz_keepw (by omega) hB9
        exact ih63 (k63 + 1) f40 _ _ _ (by omega) (by omega) hi9_hA941 hi9_hB942 hdy (lv_sub hl [0, 1, 2, 3] rfl)
  have hi9_hA943 : ∀ j, j < 0 → gmh (8 * 1 + j) = f34 j := by intro j hj; omega
  have hi9_hB944 : ∀ j, (j < 8 * 1 ∨ 8 * 1 + 8 ≤ j) → gmh j = gmh j := by exact fun _ _ => rfl
  exact lp63 (8 - 0 + 1) 0 gmh _ _ _ (by omega) (by omega) hi9_hA943 hi9_hB944 hdy (lv_sub hl [0, 1, 2, 3] rfl)

set_option maxHeartbeats 4000000 in
set_option maxRecDepth 100000 in
/-- KeyMeetingModel.hash(I[I)V -/
theorem c_G_hash0 (l : Launch) (dC : Nat → ClassId) (dI : Nat → Nat → Nat) (cI cAA cB cL : ClassId) (o mt mn ml mc mh mk mp mm mb mw mr mx me mP mQ ms mo mW mD mB mR mS : Nat) (th : Int32) (sta : Int32) (hs : Int32) (sz_ : Nat) (gmo : Nat → Int32) (gmW : Nat → Int32) (gmD : Nat → Int32) (gmB : Nat → Int32) (gmh : Nat → Int32) (gmt : Nat → Int32) (gmn : Nat → Int32) (gml : Nat → Int32) (gmc : Nat → Int32) (gmR : Nat → Int32) (gmS : Nat → Int32) (sz : Nat) (hs0 : sz_ = 0) : Met l zy_N_hash zw_N_hash { frames := 3, cells := 0, slots := 0, locals := 72 } (kz_Pc (dC, dI) vwCl [(cI, .int), (cAA, .array .int), (cB, .byte), (cL, .long)] [] [] [.ref o, .int (nI (0)), .ref ml] [(o, .inr (4, [.int th, .int sta, .ref mt, .ref mn, .ref ml, .ref mc, .ref mh, .ref mk, .ref mp, .ref mm, .ref mb, .ref mw, .ref mr, .ref mx, .ref me, .ref mP, .ref mQ, .ref ms, .int hs, .int (nI (sz_)), .ref mo, .ref mW, .ref mD, .ref mB, .ref mR, .ref mS])), (mo, .inl (cB, 320, .inl gmo)), (mW, .inl (cI, 64, .inl gmW)), (mD, .inl (cI, 8, .inl gmD)), (mB, .inl (cI, 8, .inl gmB)), (mh, .inl (cI, 16, .inl gmh))] [(mt, .inl (cI, 56, .inl gmt)), (mn, .inl (cI, 32, .inl gmn)), (ml, .inl (cI, 8, .inl gml)), (mc, .inl (cI, 16, .inl gmc)), (mR, .inl (cI, 64, .inl gmR)), (mS, .inl (cI, 8, .inl gmS))] sz) (va_Qv (fun (u : Nat × (Nat → Int32) × (Nat → Int32) × (Nat → Int32) × (Nat → Int32) × (Nat → Int32)) => (u.1 = 0) ∧ (∀ j, j < 8 → u.2.2.2.2.2 (8 * 0 + j) = kd_H gmR gmS (kd_hx (fun i => gmt (0 + i)) (fun i => gmt (8 + i)) (fun i => gmn (8 + i)) (fun i => gml (0 + i)) (fun i => gmn (16 + i)) (fun i => gmc (8 * 0 + i)) kd_wh) 4 j) ∧ (∀ j, (j < 8 * 0 ∨ 8 * 0 + 8 ≤ j) → u.2.2.2.2.2 j = gmh j) ∧ True) (kz_B (dC, dI) vwCl (va_A [(o, .inr (4, [.int th, .int sta, .ref mt, .ref mn, .ref ml, .ref mc, .ref mh, .ref mk, .ref mp, .ref mm, .ref mb, .ref mw, .ref mr, .ref mx, .ref me, .ref mP, .ref mQ, .ref ms, .int hs, .int (nI (sz_)), .ref mo, .ref mW, .ref mD, .ref mB, .ref mR, .ref mS])), (mo, .inl (cB, 320, .inl gmo)), (mW, .inl (cI, 64, .inl gmW)), (mD, .inl (cI, 8, .inl gmD)), (mB, .inl (cI, 8, .inl gmB)), (mh, .inl (cI, 16, .inl gmh))] sz) (fun u : Nat × (Nat → Int32) × (Nat → Int32) × (Nat → Int32) × (Nat → Int32) × (Nat → Int32) => [(o, .inr (4, [.int th, .int sta, .ref mt, .ref mn, .ref ml, .ref mc, .ref mh, .ref mk, .ref mp, .ref mm, .ref mb, .ref mw, .ref mr, .ref mx, .ref me, .ref mP, .ref mQ, .ref ms, .int hs, .int (nI (u.1)), .ref mo, .ref mW, .ref mD, .ref mB, .ref mR, .ref mS])), (mo, .inl (cB, 320, .inl u.2.1)), (mW, .inl (cI, 64, .inl u.2.2.1)), (mD, .inl (cI, 8, .inl u.2.2.2.1)), (mB, .inl (cI, 8, .inl u.2.2.2.2.1)), (mh, .inl (cI, 16, .inl u.2.2.2.2.2))])) (va_A [(o, .inr (4, [.int th, .int sta, .ref mt, .ref mn, .ref ml, .ref mc, .ref mh, .ref mk, .ref mp, .ref mm, .ref mb, .ref mw, .ref mr, .ref mx, .ref me, .ref mP, .ref mQ, .ref ms, .int hs, .int (nI (sz_)), .ref mo, .ref mW, .ref mD, .ref mB, .ref mR, .ref mS])), (mo, .inl (cB, 320, .inl gmo)), (mW, .inl (cI, 64, .inl gmW)), (mD, .inl (cI, 8, .inl gmD)), (mB, .inl (cI, 8, .inl gmB)), (mh, .inl (cI, 16, .inl gmh))] sz)) 0 0 (va_A [(o, .inr (4, [.int th, .int sta, .ref mt, .ref mn, .ref ml, .ref mc, .ref mh, .ref mk, .ref mp, .ref mm, .ref mb, .ref mw, .ref mr, .ref mx, .ref me, .ref mP, .ref mQ, .ref ms, .int hs, .int (nI (sz_)), .ref mo, .ref mW, .ref mD, .ref mB, .ref mR, .ref mS])), (mo, .inl (cB, 320, .inl gmo)), (mW, .inl (cI, 64, .inl gmW)), (mD, .inl (cI, 8, .inl gmD)), (mB, .inl (cI, 8, .inl gmB)), (mh, .inl (cI, 16, .inl gmh))] sz) := by
  refine kz_met (y := zy_N_hash) (ws := zw_N_hash) (av := [.ref o, .int (nI (0)), .ref ml]) (sz := sz) (Qc := fun A => va_Qv (fun (u : Nat × (Nat → Int32) × (Nat → Int32) × (Nat → Int32) × (Nat → Int32) × (Nat → Int32)) => (u.1 = 0) ∧ (∀ j, j < 8 → u.2.2.2.2.2 (8 * 0 + j) = kd_H gmR gmS (kd_hx (fun i => gmt (0 + i)) (fun i => gmt (8 + i)) (fun i => gmn (8 + i)) (fun i => gml (0 + i)) (fun i => gmn (16 + i)) (fun i => gmc (8 * 0 + i)) kd_wh) 4 j) ∧ (∀ j, (j < 8 * 0 ∨ 8 * 0 + 8 ≤ j) → u.2.2.2.2.2 j = gmh j) ∧ True) (kz_B (dC, dI) vwCl A (fun u : Nat × (Nat → Int32) × (Nat → Int32) × (Nat → Int32) × (Nat → Int32) × (Nat → Int32) => [(o, .inr (4, [.int th, .int sta, .ref mt, .ref mn, .ref ml, .ref mc, .ref mh, .ref mk, .ref mp, .ref mm, .ref mb, .ref mw, .ref mr, .ref mx, .ref me, .ref mP, .ref mQ, .ref ms, .int hs, .int (nI (u.1)), .ref mo, .ref mW, .ref mD, .ref mB, .ref mR, .ref mS])), (mo, .inl (cB, 320, .inl u.2.1)), (mW, .inl (cI, 64, .inl u.2.2.1)), (mD, .inl (cI, 8, .inl u.2.2.2.1)), (mB, .inl (cI, 8, .inl u.2.2.2.2.1)), (mh, .inl (cI, 16, .inl u.2.2.2.2.2))])) A) (cc := zc_N_hash) (maxL := 4) (ret := none) (by decide) rfl (Nat.le_of_ble_eq_true rfl) ?_
  intro p e s m below meth c A ls F hA hdy hK hro hZ hN hl
  obtain ⟨hx, hb, hml, hr, hown, hlocks, hts, hnm⟩ := id F
  have hl : lv_has ls 4 [(0, .ref o), (1, .int (nI (0))), (2, .ref ml)] := hl
  refine lv_aload_n hx hb zd_N_hash_0 rfl (lv_at hl 0 rfl) ?_
  refine lv_aload_n hx hb zd_N_hash_1 rfl (lv_at hl 0 rfl) ?_
  refine va_get (D := (dC, dI)) (ci := 4) (v := .ref mt) (C := zR_N) (T := zT_N) (N := 26) hx hb hts (fun w h => kz_c (zi_N w h)) hown hK hdy.1 0 rfl rfl 2 (by decide) (hts _ (kz_c mw_593)) (fun _ h9 => h9) rfl zd_N_hash_2 ?_
  refine lv_iconst (v := (nI (0))) hx hb zd_N_hash_5 (by decide) ?_
  refine kz_callv (wk := [(mW, .inl (cI, 64, .inl gmW)), (mD, .inl (cI, 8, .inl gmD)), (mB, .inl (cI, 8, .inl gmB)), (mh, .inl (cI, 16, .inl gmh))]) (va_runV (As := [.ref mt, .int (nI (0))]) (rest := []) ⟨hx, hb, hml, hown, hts⟩ (c_G_addWords56 l dC dI cI cAA cB cL o mt mn ml mc mh mk mp mm mb mw mr mx me mP mQ ms mo mW mD mB mR mS mt (th) (sta) (hs) sz_ gmo gmt 0 _ (by first | omega | assumption) (by first | omega | assumption)) (cwV 2 hts (kz_g (kz_mc mw_752 (kz_mc mw_754 (kz_mc mw_31 (kz_mc mw_43 kz_mn)))) mw_755) rfl rfl rfl (by decide +kernel) ⟨Nat.le_of_ble_eq_true rfl, Nat.le_of_ble_eq_true rfl⟩) (kz_preV hdy hA hK hro hZ hN [0, 1] (by decide) rfl [(true, 0)] rfl (by decide) [0, 1, 2, 3] rfl (fun _ h => by cases h) (fun _ h => by cases h) rfl (ci := 4) (q0 := 0) rfl rfl rfl) rfl rfl hl.1 rfl (lv_room (Nat.le_of_ble_eq_true rfl)) zd_N_hash_6 ⟨Nat.le_of_ble_eq_true rfl, Nat.le_of_ble_eq_true rfl⟩) hdy hA [0, 1] [2, 3, 4, 5] rfl rfl (by decide) (by decide) (fun u H locs hw hdy => ?_)
  obtain ⟨c1, f2⟩ := u
  try dsimp only at hw
  obtain ⟨q3, q4, q5, -⟩ := hw
  have hdy : kz_dy (dC, dI) vwCl A s.heap H locs [(o, .inr (4, [.int th, .int sta, .ref mt, .ref mn, .ref ml, .ref mc, .ref mh, .ref mk, .ref mp, .ref mm, .ref mb, .ref mw, .ref mr, .ref mx, .ref me, .ref mP, .ref mQ, .ref ms, .int hs, .int (nI (c1)), .ref mo, .ref mW, .ref mD, .ref mB, .ref mR, .ref mS])), (mo, .inl (cB, 320, .inl f2)), (mW, .inl (cI, 64, .inl gmW)), (mD, .inl (cI, 8, .inl gmD)), (mB, .inl (cI, 8, .inl gmB)), (mh, .inl (cI, 16, .inl gmh))] := hdy.sub [4, 5, 0, 1, 2, 3] (by decide) rfl
  have hh0 : kd_has f2 0 (fun i => gmt (0 + i)) := kd_hasAt q4 (by omega)
  refine lv_aload_n hx hb zd_N_hash_9 rfl (lv_at hl 0 rfl) ?_
  refine lv_aload_n hx hb zd_N_hash_10 rfl (lv_at hl 0 rfl) ?_
  refine va_get (D := (dC, dI)) (ci := 4) (v := .ref mt) (C := zR_N) (T := zT_N) (N := 26) hx hb hts (fun w h => kz_c (zi_N w h)) hown hK hdy.1 0 rfl rfl 2 (by decide) (hts _ (kz_c mw_593)) (fun _ h9 => h9) rfl zd_N_hash_11 ?_
  refine lv_bipush (v := (nI (8))) hx hb zd_N_hash_14 (by decide) ?_
  refine kz_callv (wk := [(mW, .inl (cI, 64, .inl gmW)), (mD, .inl (cI, 8, .inl gmD)), (mB, .inl (cI, 8, .inl gmB)), (mh, .inl (cI, 16, .inl gmh))]) (va_runV (As := [.ref mt, .int (nI (8))]) (rest := []) ⟨hx, hb, hml, hown, hts⟩ (c_G_addWords56 l dC dI cI cAA cB cL o mt mn ml mc mh mk mp mm mb mw mr mx me mP mQ ms mo mW mD mB mR mS mt (th) (sta) (hs) c1 f2 gmt 8 _ (by first | omega | assumption) (by first | omega | assumption)) (cwV 2 hts (kz_g (kz_mc mw_752 (kz_mc mw_754 (kz_mc mw_31 (kz_mc mw_43 kz_mn)))) mw_755) rfl rfl rfl (by decide +kernel) ⟨Nat.le_of_ble_eq_true rfl, Nat.le_of_ble_eq_true rfl⟩) (kz_preV hdy hA hK hro hZ hN [0, 1] (by decide) rfl [(true, 0)] rfl (by decide) [0, 1, 2, 3] rfl (fun _ h => by cases h) (fun _ h => by cases h) rfl (ci := 4) (q0 := 0) rfl rfl rfl) rfl rfl hl.1 rfl (lv_room (Nat.le_of_ble_eq_true rfl)) zd_N_hash_16 ⟨Nat.le_of_ble_eq_true rfl, Nat.le_of_ble_eq_true rfl⟩) hdy hA [0, 1] [2, 3, 4, 5] rfl rfl (by decide) (by decide) (fun u H locs hw hdy => ?_)
  obtain ⟨c6, f7⟩ := u
  try dsimp only at hw
  obtain ⟨q8, q9, q10, -⟩ := hw
  have hdy : kz_dy (dC, dI) vwCl A s.heap H locs [(o, .inr (4, [.int th, .int sta, .ref mt, .ref mn, .ref ml, .ref mc, .ref mh, .ref mk, .ref mp, .ref mm, .ref mb, .ref mw, .ref mr, .ref mx, .ref me, .ref mP, .ref mQ, .ref ms, .int hs, .int (nI (c6)), .ref mo, .ref mW, .ref mD, .ref mB, .ref mR, .ref mS])), (mo, .inl (cB, 320, .inl f7)), (mW, .inl (cI, 64, .inl gmW)), (mD, .inl (cI, 8, .inl gmD)), (mB, .inl (cI, 8, .inl gmB)), (mh, .inl (cI, 16, .inl gmh))] := hdy.sub [4, 5, 0, 1, 2, 3] (by decide) rfl
  have hh0 : kd_has f7 0 (fun i => gmt (0 + i)) := kd_hasKeep hh0 q10 (by omega)
  have hh1 : kd_has f7 32 (fun i => gmt (8 + i)) := kd_hasAt q9 (by omega)
  refine lv_aload_n hx hb zd_N_hash_19 rfl (lv_at hl 0 rfl) ?_
  refine lv_aload_n hx hb zd_N_hash_20 rfl (lv_at hl 0 rfl) ?_
  refine va_get (D := (dC, dI)) (ci := 4) (v := .ref mn) (C := zR_N) (T := zT_N) (N := 26) hx hb hts (fun w h => kz_c (zi_N w h)) hown hK hdy.1 0 rfl rfl 3 (by decide) (hts _ (kz_c mw_594)) (fun _ h9 => h9) rfl zd_N_hash_21 ?_
  refine lv_bipush (v := (nI (8))) hx hb zd_N_hash_24 (by decide) ?_
  refine kz_callv (wk := [(mW, .inl (cI, 64, .inl gmW)), (mD, .inl (cI, 8, .inl gmD)), (mB, .inl (cI, 8, .inl gmB)), (mh, .inl (cI, 16, .inl gmh))]) (va_runV (As := [.ref mn, .int (nI (8))]) (rest := []) ⟨hx, hb, hml, hown, hts⟩ (c_G_addWords32 l dC dI cI cAA cB cL o mt mn ml mc mh mk mp mm mb mw mr mx me mP mQ ms mo mW mD mB mR mS mn (th) (sta) (hs) c6 f7 gmn 8 _ (by first | omega | assumption) (by first | omega | assumption)) (cwV 2 hts (kz_g (kz_mc mw_752 (kz_mc mw_754 (kz_mc mw_31 (kz_mc mw_43 kz_mn)))) mw_755) rfl rfl rfl (by decide +kernel) ⟨Nat.le_of_ble_eq_true rfl, Nat.le_of_ble_eq_true rfl⟩) (kz_preV hdy hA hK hro hZ hN [0, 1] (by decide) rfl [(true, 1)] rfl (by decide) [0, 1, 2, 3] rfl (fun _ h => by cases h) (fun _ h => by cases h) rfl (ci := 4) (q0 := 0) rfl rfl rfl) rfl rfl hl.1 rfl (lv_room (Nat.le_of_ble_eq_true rfl)) zd_N_hash_26 ⟨Nat.le_of_ble_eq_true rfl, Nat.le_of_ble_eq_true rfl⟩) hdy hA [0, 1] [2, 3, 4, 5] rfl rfl (by decide) (by decide) (fun u H locs hw hdy => ?_)
  obtain ⟨c11, f12⟩ := u
  try dsimp only at hw
  obtain ⟨q13, q14, q15, -⟩ := hw
  have hdy : kz_dy (dC, dI) vwCl A s.heap H locs [(o, .inr (4, [.int th, .int sta, .ref mt, .ref mn, .ref ml, .ref mc, .ref mh, .ref mk, .ref mp, .ref mm, .ref mb, .ref mw, .ref mr, .ref mx, .ref me, .ref mP, .ref mQ, .ref ms, .int hs, .int (nI (c11)), .ref mo, .ref mW, .ref mD, .ref mB, .ref mR, .ref mS])), (mo, .inl (cB, 320, .inl f12)), (mW, .inl (cI, 64, .inl gmW)), (mD, .inl (cI, 8, .inl gmD)), (mB, .inl (cI, 8, .inl gmB)), (mh, .inl (cI, 16, .inl gmh))] := hdy.sub [4, 5, 0, 1, 2, 3] (by decide) rfl
  have hh0 : kd_has f12 0 (fun i => gmt (0 + i)) := kd_hasKeep hh0 q15 (by omega)
  have hh1 : kd_has f12 32 (fun i => gmt (8 + i)) := kd_hasKeep hh1 q15 (by omega)
  have hh2 : kd_has f12 64 (fun i => gmn (8 + i)) := kd_hasAt q14 (by omega)
  refine lv_aload_n hx hb zd_N_hash_29 rfl (lv_at hl 0 rfl) ?_
  refine lv_aload_n hx hb zd_N_hash_30 rfl (lv_at hl 2 rfl) ?_
  refine lv_iconst (v := (nI (0))) hx hb zd_N_hash_31 (by decide) ?_
  refine kz_callv (wk := [(mW, .inl (cI, 64, .inl gmW)), (mD, .inl (cI, 8, .inl gmD)), (mB, .inl (cI, 8, .inl gmB)), (mh, .inl (cI, 16, .inl gmh))]) (va_runV (As := [.ref ml, .int (nI (0))]) (rest := []) ⟨hx, hb, hml, hown, hts⟩ (c_G_addWords8 l dC dI cI cAA cB cL o mt mn ml mc mh mk mp mm mb mw mr mx me mP mQ ms mo mW mD mB mR mS ml (th) (sta) (hs) c11 f12 gml 0 _ (by first | omega | assumption) (by first | omega | assumption)) (cwV 2 hts (kz_g (kz_mc mw_752 (kz_mc mw_754 (kz_mc mw_31 (kz_mc mw_43 kz_mn)))) mw_755) rfl rfl rfl (by decide +kernel) ⟨Nat.le_of_ble_eq_true rfl, Nat.le_of_ble_eq_true rfl⟩) (kz_preV hdy hA hK hro hZ hN [0, 1] (by decide) rfl [(true, 2)] rfl (by decide) [0, 1, 2, 3] rfl (fun _ h => by cases h) (fun _ h => by cases h) rfl (ci := 4) (q0 := 0) rfl rfl rfl) rfl rfl hl.1 rfl (lv_room (Nat.le_of_ble_eq_true rfl)) zd_N_hash_32 ⟨Nat.le_of_ble_eq_true rfl, Nat.le_of_ble_eq_true rfl⟩) hdy hA [0, 1] [2, 3, 4, 5] rfl rfl (by decide) (by decide) (fun u H locs hw hdy => ?_)
  obtain ⟨c16, f17⟩ := u
  try dsimp only at hw
  obtain ⟨q18, q19, q20, -⟩ := hw
  have hdy : kz_dy (dC, dI) vwCl A s.heap H locs [(o, .inr (4, [.int th, .int sta, .ref mt, .ref mn, .ref ml, .ref mc, .ref mh, .ref mk, .ref mp, .ref mm, .ref mb, .ref mw, .ref mr, .ref mx, .ref me, .ref mP, .ref mQ, .ref ms, .int hs, .int (nI (c16)), .ref mo, .ref mW, .ref mD, .ref mB, .ref mR, .ref mS])), (mo, .inl (cB, 320, .inl f17)), (mW, .inl (cI, 64, .inl gmW)), (mD, .inl (cI, 8, .inl gmD)), (mB, .inl (cI, 8, .inl gmB)), (mh, .inl (cI, 16, .inl gmh))] := hdy.sub [4, 5, 0, 1, 2, 3] (by decide) rfl
  have hh0 : kd_has f17 0 (fun i => gmt (0 + i)) := kd_hasKeep hh0 q20 (by omega)
  have hh1 : kd_has f17 32 (fun i => gmt (8 + i)) := kd_hasKeep hh1 q20 (by omega)
  have hh2 : kd_has f17 64 (fun i => gmn (8 + i)) := kd_hasKeep hh2 q20 (by omega)
  have hh3 : kd_has f17 96 (fun i => gml (0 + i)) := kd_hasAt q19 (by omega)
  refine lv_aload_n hx hb zd_N_hash_35 rfl (lv_at hl 0 rfl) ?_
  refine lv_aload_n hx hb zd_N_hash_36 rfl (lv_at hl 0 rfl) ?_
  refine va_get (D := (dC, dI)) (ci := 4) (v := .ref mn) (C := zR_N) (T := zT_N) (N := 26) hx hb hts (fun w h => kz_c (zi_N w h)) hown hK hdy.1 0 rfl rfl 3 (by decide) (hts _ (kz_c mw_594)) (fun _ h9 => h9) rfl zd_N_hash_37 ?_
  refine lv_bipush (v := (nI (16))) hx hb zd_N_hash_40 (by decide) ?_
  refine kz_callv (wk := [(mW, .inl (cI, 64, .inl gmW)), (mD, .inl (cI, 8, .inl gmD)), (mB, .inl (cI, 8, .inl gmB)), (mh, .inl (cI, 16, .inl gmh))]) (va_runV (As := [.ref mn, .int (nI (16))]) (rest := []) ⟨hx, hb, hml, hown, hts⟩ (c_G_addWords32 l dC dI cI cAA cB cL o mt mn ml mc mh mk mp mm mb mw mr mx me mP mQ ms mo mW mD mB mR mS mn (th) (sta) (hs) c16 f17 gmn 16 _ (by first | omega | assumption) (by first | omega | assumption)) (cwV 2 hts (kz_g (kz_mc mw_752 (kz_mc mw_754 (kz_mc mw_31 (kz_mc mw_43 kz_mn)))) mw_755) rfl rfl rfl (by decide +kernel) ⟨Nat.le_of_ble_eq_true rfl, Nat.le_of_ble_eq_true rfl⟩) (kz_preV hdy hA hK hro hZ hN [0, 1] (by decide) rfl [(true, 1)] rfl (by decide) [0, 1, 2, 3] rfl (fun _ h => by cases h) (fun _ h => by cases h) rfl (ci := 4) (q0 := 0) rfl rfl rfl) rfl rfl hl.1 rfl (lv_room (Nat.le_of_ble_eq_true rfl)) zd_N_hash_42 ⟨Nat.le_of_ble_eq_true rfl, Nat.le_of_ble_eq_true rfl⟩) hdy hA [0, 1] [2, 3, 4, 5] rfl rfl (by decide) (by decide) (fun u H locs hw hdy => ?_)
  obtain ⟨c21, f22⟩ := u
  try dsimp only at hw
  obtain ⟨q23, q24, q25, -⟩ := hw
  have hdy : kz_dy (dC, dI) vwCl A s.heap H locs [(o, .inr (4, [.int th, .int sta, .ref mt, .ref mn, .ref ml, .ref mc, .ref mh, .ref mk, .ref mp, .ref mm, .ref mb, .ref mw, .ref mr, .ref mx, .ref me, .ref mP, .ref mQ, .ref ms, .int hs, .int (nI (c21)), .ref mo, .ref mW, .ref mD, .ref mB, .ref mR, .ref mS])), (mo, .inl (cB, 320, .inl f22)), (mW, .inl (cI, 64, .inl gmW)), (mD, .inl (cI, 8, .inl gmD)), (mB, .inl (cI, 8, .inl gmB)), (mh, .inl (cI, 16, .inl gmh))] := hdy.sub [4, 5, 0, 1, 2, 3] (by decide) rfl
  have hh0 : kd_has f22 0 (fun i => gmt (0 + i)) := kd_hasKeep hh0 q25 (by omega)
  have hh1 : kd_has f22 32 (fun i => gmt (8 + i)) := kd_hasKeep hh1 q25 (by omega)
  have hh2 : kd_has f22 64 (fun i => gmn (8 + i)) := kd_hasKeep hh2 q25 (by omega)
  have hh3 : kd_has f22 96 (fun i => gml (0 + i)) := kd_hasKeep hh3 q25 (by omega)
  have hh4 : kd_has f22 128 (fun i => gmn (16 + i)) := kd_hasAt q24 (by omega)
  refine lv_aload_n hx hb zd_N_hash_45 rfl (lv_at hl 0 rfl) ?_
  refine lv_aload_n hx hb zd_N_hash_46 rfl (lv_at hl 0 rfl) ?_
  refine va_get (D := (dC, dI)) (ci := 4) (v := .ref mc) (C := zR_N) (T := zT_N) (N := 26) hx hb hts (fun w h => kz_c (zi_N w h)) hown hK hdy.1 0 rfl rfl 5 (by decide) (hts _ (kz_c mw_596)) (fun _ h9 => h9) rfl zd_N_hash_47 ?_
  refine lv_bipush (v := (nI (8))) hx hb zd_N_hash_50 (by decide) ?_
  refine lv_iload_n hx hb zd_N_hash_52 rfl (lv_at hl 1 rfl) ?_
  refine kz_imul hx hb zd_N_hash_53 (pk_mul _ _) ?_
  refine kz_callv (wk := [(mW, .inl (cI, 64, .inl gmW)), (mD, .inl (cI, 8, .inl gmD)), (mB, .inl (cI, 8, .inl gmB)), (mh, .inl (cI, 16, .inl gmh))]) (va_runV (As := [.ref mc, .int (nI (8 * 0))]) (rest := []) ⟨hx, hb, hml, hown, hts⟩ (c_G_addWords16 l dC dI cI cAA cB cL o mt mn ml mc mh mk mp mm mb mw mr mx me mP mQ ms mo mW mD mB mR mS mc (th) (sta) (hs) c21 f22 gmc (8 * 0) _ (by first | omega | assumption) (by first | omega | assumption)) (cwV 2 hts (kz_g (kz_mc mw_752 (kz_mc mw_754 (kz_mc mw_31 (kz_mc mw_43 kz_mn)))) mw_755) rfl rfl rfl (by decide +kernel) ⟨Nat.le_of_ble_eq_true rfl, Nat.le_of_ble_eq_true rfl⟩) (kz_preV hdy hA hK hro hZ hN [0, 1] (by decide) rfl [(true, 3)] rfl (by decide) [0, 1, 2, 3] rfl (fun _ h => by cases h) (fun _ h => by cases h) rfl (ci := 4) (q0 := 0) rfl rfl rfl) rfl rfl hl.1 rfl (lv_room (Nat.le_of_ble_eq_true rfl)) zd_N_hash_54 ⟨Nat.le_of_ble_eq_true rfl, Nat.le_of_ble_eq_true rfl⟩) hdy hA [0, 1] [2, 3, 4, 5] rfl rfl (by decide) (by decide) (fun u H locs hw hdy => ?_)
  obtain ⟨c26, f27⟩ := u
  try dsimp only at hw
  obtain ⟨q28, q29, q30, -⟩ := hw
  have hdy : kz_dy (dC, dI) vwCl A s.heap H locs [(o, .inr (4, [.int th, .int sta, .ref mt, .ref mn, .ref ml, .ref mc, .ref mh, .ref mk, .ref mp, .ref mm, .ref mb, .ref mw, .ref mr, .ref mx, .ref me, .ref mP, .ref mQ, .ref ms, .int hs, .int (nI (c26)), .ref mo, .ref mW, .ref mD, .ref mB, .ref mR, .ref mS])), (mo, .inl (cB, 320, .inl f27)), (mW, .inl (cI, 64, .inl gmW)), (mD, .inl (cI, 8, .inl gmD)), (mB, .inl (cI, 8, .inl gmB)), (mh, .inl (cI, 16, .inl gmh))] := hdy.sub [4, 5, 0, 1, 2, 3] (by decide) rfl
  have hh0 : kd_has f27 0 (fun i => gmt (0 + i)) := kd_hasKeep hh0 q30 (by omega)
  have hh1 : kd_has f27 32 (fun i => gmt (8 + i)) := kd_hasKeep hh1 q30 (by omega)
  have hh2 : kd_has f27 64 (fun i => gmn (8 + i)) := kd_hasKeep hh2 q30 (by omega)
  have hh3 : kd_has f27 96 (fun i => gml (0 + i)) := kd_hasKeep hh3 q30 (by omega)
  have hh4 : kd_has f27 128 (fun i => gmn (16 + i)) := kd_hasKeep hh4 q30 (by omega)
  have hh5 : kd_has f27 160 (fun i => gmc (8 * 0 + i)) := kd_hasAt q29 (by omega)
  refine lv_aload_n hx hb zd_N_hash_57 rfl (lv_at hl 0 rfl) ?_
  refine kz_callv (wk := [(mh, .inl (cI, 16, .inl gmh))]) (va_runV (As := []) (rest := []) ⟨hx, hb, hml, hown, hts⟩ (c_G_reckon l dC dI cI cAA cB cL o mt mn ml mc mh mk mp mm mb mw mr mx me mP mQ ms mo mW mD mB mR mS (th) (sta) (hs) c26 f27 gmW gmD gmB gmR gmS _ (by first | omega | assumption)) (cwV 0 hts (kz_g (kz_mc mw_756 (kz_mc mw_758 (kz_mc mw_32 (kz_mc mw_43 kz_mn)))) mw_759) rfl rfl rfl (by decide +kernel) ⟨Nat.le_of_ble_eq_true rfl, Nat.le_of_ble_eq_true rfl⟩) (kz_preV hdy hA hK hro hZ hN [0, 1, 2, 3, 4] (by decide) rfl [(true, 4), (true, 5)] rfl (by decide) [0, 1, 2, 3] rfl (fun _ h => by cases h) (fun _ h => by cases h) rfl (ci := 4) (q0 := 0) rfl rfl rfl) rfl rfl hl.1 rfl (lv_room (Nat.le_of_ble_eq_true rfl)) zd_N_hash_58 ⟨Nat.le_of_ble_eq_true rfl, Nat.le_of_ble_eq_true rfl⟩) hdy hA [0, 1, 2, 3, 4] [5] rfl rfl (by decide) (by decide) (fun u H locs hw hdy => ?_)
  obtain ⟨c31, f32, f33, f34, f35⟩ := u
  try dsimp only at hw
  obtain ⟨q36, q37, -⟩ := hw
  have hdy : kz_dy (dC, dI) vwCl A s.heap H locs [(o, .inr (4, [.int th, .int sta, .ref mt, .ref mn, .ref ml, .ref mc, .ref mh, .ref mk, .ref mp, .ref mm, .ref mb, .ref mw, .ref mr, .ref mx, .ref me, .ref mP, .ref mQ, .ref ms, .int hs, .int (nI (c31)), .ref mo, .ref mW, .ref mD, .ref mB, .ref mR, .ref mS])), (mo, .inl (cB, 320, .inl f32)), (mW, .inl (cI, 64, .inl f33)), (mD, .inl (cI, 8, .inl f34)), (mB, .inl (cI, 8, .inl f35)), (mh, .inl (cI, 16, .inl gmh))] := hdy.sub [1, 2, 3, 4, 5, 0] (by decide) rfl
  have hHs : ∀ j, j < 8 → f34 j = kd_H gmR gmS (kd_hx (fun i => gmt (0 + i)) (fun i => gmt (8 + i)) (fun i => gmn (8 + i)) (fun i => gml (0 + i)) (fun i => gmn (16 + i)) (fun i => gmc (8 * 0 + i)) kd_wh) 4 j := kd_hashM (Y := gmR) q37 (by omega) (kd_hashW hh0 hh1 hh2 hh3 hh4 hh5)
  refine lv_iconst (v := (nI (0))) hx hb zd_N_hash_61 (by decide) ?_
  refine lv_istore_n (lv' := [(3, .int (nI (0))), (0, .ref o), (1, .int (nI (0))), (2, .ref ml)]) hx hb zd_N_hash_62 rfl hl (by decide) rfl (fun ls hl => ?_)
  have lp63 : ∀ (n63 k63 : Nat) (f38 : Nat → Int32) (H : Heap) (locs : List Loc) (ls : Array Slot), k63 ≤ 8 → 8 - k63 < n63 → (∀ j, j < k63 → f38 (8 * 0 + j) = f34 j) → (∀ j, (j < 8 * 0 ∨ 8 * 0 + 8 ≤ j) → f38 j = gmh j) → kz_dy (dC, dI) vwCl A s.heap H locs [(o, .inr (4, [.int th, .int sta, .ref mt, .ref mn, .ref ml, .ref mc, .ref mh, .ref mk, .ref mp, .ref mm, .ref mb, .ref mw, .ref mr, .ref mx, .ref me, .ref mP, .ref mQ, .ref ms, .int hs, .int (nI (c31)), .ref mo, .ref mW, .ref mD, .ref mB, .ref mR, .ref mS])), (mo, .inl (cB, 320, .inl f32)), (mW, .inl (cI, 64, .inl f33)), (mD, .inl (cI, 8, .inl f34)), (mB, .inl (cI, 8, .inl f35)), (mh, .inl (cI, 16, .inl f38))] → lv_has ls 4 [(3, .int (nI (k63))), (0, .ref o), (1, .int (nI (0))), (2, .ref ml)] → W p l e { frames := 3, cells := 0, slots := 0, locals := 72 } s m ([.ref o, .int (nI (0)), .ref ml] : List Value).toArray below meth c H locs 0 0 (MQ below (va_Qv (fun (u : Nat × (Nat → Int32) × (Nat → Int32) × (Nat → Int32) × (Nat → Int32) × (Nat → Int32)) => (u.1 = 0) ∧ (∀ j, j < 8 → u.2.2.2.2.2 (8 * 0 + j) = kd_H gmR gmS (kd_hx (fun i => gmt (0 + i)) (fun i => gmt (8 + i)) (fun i => gmn (8 + i)) (fun i => gml (0 + i)) (fun i => gmn (16 + i)) (fun i => gmc (8 * 0 + i)) kd_wh) 4 j) ∧ (∀ j, (j < 8 * 0 ∨ 8 * 0 + 8 ≤ j) → u.2.2.2.2.2 j = gmh j) ∧ True) (kz_B (dC, dI) vwCl A (fun u : Nat × (Nat → Int32) × (Nat → Int32) × (Nat → Int32) × (Nat → Int32) × (Nat → Int32) => [(o, .inr (4, [.int th, .int sta, .ref mt, .ref mn, .ref ml, .ref mc, .ref mh, .ref mk, .ref mp, .ref mm, .ref mb, .ref mw, .ref mr, .ref mx, .ref me, .ref mP, .ref mQ, .ref ms, .int hs, .int (nI (u.1)), .ref mo, .ref mW, .ref mD, .ref mB, .ref mR, .ref mS])), (mo, .inl (cB, 320, .inl u.2.1)), (mW, .inl (cI, 64, .inl u.2.2.1)), (mD, .inl (cI, 8, .inl u.2.2.2.1)), (mB, .inl (cI, 8, .inl u.2.2.2.2.1)), (mh, .inl (cI, 16, .inl u.2.2.2.2.2))])) A) ([.ref o, .int (nI (0)), .ref ml] : List Value).toArray s 0 0 A) (F0 m 63 ls []) := by
    intro n63
    induction n63 with
    | zero => intro k63; intros; omega
    | succ n63 ih63 =>
      intro k63 f38 H locs ls hi63 hn63 hA9 hB9 hdy hl
      refine lv_iload_n hx hb zd_N_hash_63 rfl (lv_at hl 0 rfl) ?_
      refine lv_bipush (v := (nI (8))) hx hb zd_N_hash_64 (by decide) ?_
      refine lv_icmp_ge (tgt := 92) hx hb zd_N_hash_66 (by decide) (fun hc66 => ?_) (fun hc66 => ?_)
      · have hc66 : 8 ≤ k63 := (nI_leI (by omega) (by omega)).mp hc66
        exact kz_vret F (c31, f32, f33, f34, f35, f38) hdy (⟨by first | assumption | rfl | omega, by exact fun j hj => (hA9 j (by omega)).trans (hHs j hj), by exact hB9, trivial⟩) zd_N_hash_92
      · have hc66 : ¬ 8 ≤ k63 := fun h9 => hc66 ((nI_leI (by omega) (by omega)).mpr h9)
        refine lv_aload_n hx hb zd_N_hash_69 rfl (lv_at hl 1 rfl) ?_
        refine va_get (D := (dC, dI)) (ci := 4) (v := .ref mh) (C := zR_N) (T := zT_N) (N := 26) hx hb hts (fun w h => kz_c (zi_N w h)) hown hK hdy.1 0 rfl rfl 6 (by decide) (hts _ (kz_c mw_597)) (fun _ h9 => h9) rfl zd_N_hash_70 ?_
        refine lv_bipush (v := (nI (8))) hx hb zd_N_hash_73 (by decide) ?_
        refine lv_iload_n hx hb zd_N_hash_75 rfl (lv_at hl 2 rfl) ?_
        refine kz_imul hx hb zd_N_hash_76 (pk_mul _ _) ?_
        refine lv_iload_n hx hb zd_N_hash_77 rfl (lv_at hl 0 rfl) ?_
        refine kz_iadd hx hb zd_N_hash_78 (nI_add _ _) ?_
        refine lv_aload_n hx hb zd_N_hash_79 rfl (lv_at hl 1 rfl) ?_
        refine va_get (D := (dC, dI)) (ci := 4) (v := .ref mD) (C := zR_N) (T := zT_N) (N := 26) hx hb hts (fun w h => kz_c (zi_N w h)) hown hK hdy.1 0 rfl rfl 22 (by decide) (hts _ (kz_c mw_613)) (fun _ h9 => h9) rfl zd_N_hash_80 ?_
        refine lv_iload_n hx hb zd_N_hash_83 rfl (lv_at hl 0 rfl) ?_
        refine va_iald hx hb hK hdy.1 3 0 rfl rfl (vp_in_nI (by omega) (by omega)) zd_N_hash_84 ?_
        refine lv_topi (fun x39 h9 => ?_)
        obtain rfl : x39 = f34 k63 := h9.trans (by rw [nI_clamp (by omega)])
        refine va_iast hx hb hK hdy.1 hdy.2.1 hdy.2.2 5 0 rfl rfl (vp_in_nI (by omega) (by omega)) zd_N_hash_85 (fun H locs hP hD hS => ?_)
        rw [nI_clamp (by omega)] at hP hD
        obtain ⟨f40, ef40, hdy⟩ : ∃ f40 : Nat → Int32, f40 = upd f38 (8 * 0 + k63) ((f34 k63)) ∧ kz_dy (dC, dI) vwCl A s.heap H locs [(o, .inr (4, [.int th, .int sta, .ref mt, .ref mn, .ref ml, .ref mc, .ref mh, .ref mk, .ref mp, .ref mm, .ref mb, .ref mw, .ref mr, .ref mx, .ref me, .ref mP, .ref mQ, .ref ms, .int hs, .int (nI (c31)), .ref mo, .ref mW, .ref mD, .ref mB, .ref mR, .ref mS])), (mo, .inl (cB, 320, .inl f32)), (mW, .inl (cI, 64, .inl f33)), (mD, .inl (cI, 8, .inl f34)), (mB, .inl (cI, 8, .inl f35)), (mh, .inl (cI, 16, .inl f40))] := ⟨_, rfl, hP, hD, hS⟩
        refine lv_iinc (v := (nI (k63 + 1))) (lv' := [(3, .int (nI (k63 + 1))), (0, .ref o), (1, .int (nI (0))), (2, .ref ml)]) hx hb zd_N_hash_86 hl (k := 0) rfl (nI_1 _) (by decide) rfl (fun ls hl => ?_)
        refine lv_goto (tgt := 63) hx hb zd_N_hash_89 (by decide) ?_
        have hi9_hA941 : ∀ j, j < k63 + 1 → f40 (8 * 0 + j) = f34 j := by rw [ef40]; exact kz_fillw hA9 rfl
        have hi9_hB942 : ∀ j, (j < 8 * 0 ∨ 8 * 0 + 8 ≤ j) → f40 j = gmh j := by rw [ef40]; exact kz_keepw (by omega) hB9
        exact ih63 (k63 + 1) f40 _ _ _ (by omega) (by omega) hi9_hA941 hi9_hB942 hdy (lv_sub hl [0, 1, 2, 3] rfl)
  have hi9_hA943 : ∀ j, j < 0 → gmh (8 * 0 + j) = f34 j := by intro j hj; omega
  have hi9_hB944 : ∀ j, (j < 8 * 0 ∨ 8 * 0 + 8 ≤ j) → gmh j = gmh j := by exact fun _ _ => rfl
  exact lp63 (8 - 0 + 1) 0 gmh _ _ _ (by omega) (by omega) hi9_hA943 hi9_hB944 hdy (lv_sub hl [0, 1, 2, 3] rfl)

set_option maxHeartbeats 4000000 in
set_option maxRecDepth 100000 in
/-- KeyMeetingModel.makeKeys(I)V -/
theorem c_G_makeKeys (l : Launch) (dC : Nat → ClassId) (dI : Nat → Nat → Nat) (cI cAA cB cL : ClassId) (o mt mn ml mc mh mk mp mm mb mw mr mx me mP mQ ms mo mW mD mB mR mS : Nat) (th : Int32) (sta : Int32) (hs : Int32) (sz_ : Nat) (gmo : Nat → Int32) (gmW : Nat → Int32) (gmD : Nat → Int32) (gmB : Nat → Int32) (gmk : Nat → Int32) (gmc : Nat → Int32) (gmh : Nat → Int32) (gmR : Nat → Int32) (gmS : Nat → Int32) (sd : Nat) (sz : Nat) (hsd : sd < 2) (hs0 : sz_ = 0) : Met l zy_N_makeKeys zw_N_makeKeys { frames := 3, cells := 0, slots := 0, locals := 72 } (kz_Pc (dC, dI) vwCl [(cI, .int), (cAA, .array .int), (cB, .byte), (cL, .long)] [] [] [.ref o, .int (nI (sd))] [(o, .inr (4, [.int th, .int sta, .ref mt, .ref mn, .ref ml, .ref mc, .ref mh, .ref mk, .ref mp, .ref mm, .ref mb, .ref mw, .ref mr, .ref mx, .ref me, .ref mP, .ref mQ, .ref ms, .int hs, .int (nI (sz_)), .ref mo, .ref mW, .ref mD, .ref mB, .ref mR, .ref mS])), (mo, .inl (cB, 320, .inl gmo)), (mW, .inl (cI, 64, .inl gmW)), (mD, .inl (cI, 8, .inl gmD)), (mB, .inl (cI, 8, .inl gmB)), (mk, .inl (cI, 32, .inl gmk))] [(mc, .inl (cI, 16, .inl gmc)), (mh, .inl (cI, 16, .inl gmh)), (mR, .inl (cI, 64, .inl gmR)), (mS, .inl (cI, 8, .inl gmS))] sz) (va_Qv (fun (u : Nat × (Nat → Int32) × (Nat → Int32) × (Nat → Int32) × (Nat → Int32) × (Nat → Int32)) => (u.1 = 0) ∧ (∀ j, j < 16 → u.2.2.2.2.2 (16 * sd + j) = kd_H gmR gmS (kd_kx (fun i => gmc (8 * sd + i)) (fun i => gmh (8 * sd + i)) (kd_wk (j / 8))) 2 (j % 8)) ∧ (∀ j, (j < 16 * sd ∨ 16 * sd + 16 ≤ j) → u.2.2.2.2.2 j = gmk j) ∧ True) (kz_B (dC, dI) vwCl (va_A [(o, .inr (4, [.int th, .int sta, .ref mt, .ref mn, .ref ml, .ref mc, .ref mh, .ref mk, .ref mp, .ref mm, .ref mb, .ref mw, .ref mr, .ref mx, .ref me, .ref mP, .ref mQ, .ref ms, .int hs, .int (nI (sz_)), .ref mo, .ref mW, .ref mD, .ref mB, .ref mR, .ref mS])), (mo, .inl (cB, 320, .inl gmo)), (mW, .inl (cI, 64, .inl gmW)), (mD, .inl (cI, 8, .inl gmD)), (mB, .inl (cI, 8, .inl gmB)), (mk, .inl (cI, 32, .inl gmk))] sz) (fun u : Nat × (Nat → Int32) × (Nat → Int32) × (Nat → Int32) × (Nat → Int32) × (Nat → Int32) => [(o, .inr (4, [.int th, .int sta, .ref mt, .ref mn, .ref ml, .ref mc, .ref mh, .ref mk, .ref mp, .ref mm, .ref mb, .ref mw, .ref mr, .ref mx, .ref me, .ref mP, .ref mQ, .ref ms, .int hs, .int (nI (u.1)), .ref mo, .ref mW, .ref mD, .ref mB, .ref mR, .ref mS])), (mo, .inl (cB, 320, .inl u.2.1)), (mW, .inl (cI, 64, .inl u.2.2.1)), (mD, .inl (cI, 8, .inl u.2.2.2.1)), (mB, .inl (cI, 8, .inl u.2.2.2.2.1)), (mk, .inl (cI, 32, .inl u.2.2.2.2.2))])) (va_A [(o, .inr (4, [.int th, .int sta, .ref mt, .ref mn, .ref ml, .ref mc, .ref mh, .ref mk, .ref mp, .ref mm, .ref mb, .ref mw, .ref mr, .ref mx, .ref me, .ref mP, .ref mQ, .ref ms, .int hs, .int (nI (sz_)), .ref mo, .ref mW, .ref mD, .ref mB, .ref mR, .ref mS])), (mo, .inl (cB, 320, .inl gmo)), (mW, .inl (cI, 64, .inl gmW)), (mD, .inl (cI, 8, .inl gmD)), (mB, .inl (cI, 8, .inl gmB)), (mk, .inl (cI, 32, .inl gmk))] sz)) 0 0 (va_A [(o, .inr (4, [.int th, .int sta, .ref mt, .ref mn, .ref ml, .ref mc, .ref mh, .ref mk, .ref mp, .ref mm, .ref mb, .ref mw, .ref mr, .ref mx, .ref me, .ref mP, .ref mQ, .ref ms, .int hs, .int (nI (sz_)), .ref mo, .ref mW, .ref mD, .ref mB, .ref mR, .ref mS])), (mo, .inl (cB, 320, .inl gmo)), (mW, .inl (cI, 64, .inl gmW)), (mD, .inl (cI, 8, .inl gmD)), (mB, .inl (cI, 8, .inl gmB)), (mk, .inl (cI, 32, .inl gmk))] sz) := by
  refine kz_met (y := zy_N_makeKeys) (ws := zw_N_makeKeys) (av := [.ref o, .int (nI (sd))]) (sz := sz) (Qc := fun A => va_Qv (fun (u : Nat × (Nat → Int32) × (Nat → Int32) × (Nat → Int32) × (Nat → Int32) × (Nat → Int32)) => (u.1 = 0) ∧ (∀ j, j < 16 → u.2.2.2.2.2 (16 * sd + j) = kd_H gmR gmS (kd_kx (fun i => gmc (8 * sd + i)) (fun i => gmh (8 * sd + i)) (kd_wk (j / 8))) 2 (j % 8)) ∧ (∀ j, (j < 16 * sd ∨ 16 * sd + 16 ≤ j) → u.2.2.2.2.2 j = gmk j) ∧ True) (kz_B (dC, dI) vwCl A (fun u : Nat × (Nat → Int32) × (Nat → Int32) × (Nat → Int32) × (Nat → Int32) × (Nat → Int32) => [(o, .inr (4, [.int th, .int sta, .ref mt, .ref mn, .ref ml, .ref mc, .ref mh, .ref mk, .ref mp, .ref mm, .ref mb, .ref mw, .ref mr, .ref mx, .ref me, .ref mP, .ref mQ, .ref ms, .int hs, .int (nI (u.1)), .ref mo, .ref mW, .ref mD, .ref mB, .ref mR, .ref mS])), (mo, .inl (cB, 320, .inl u.2.1)), (mW, .inl (cI, 64, .inl u.2.2.1)), (mD, .inl (cI, 8, .inl u.2.2.2.1)), (mB, .inl (cI, 8, .inl u.2.2.2.2.1)), (mk, .inl (cI, 32, .inl u.2.2.2.2.2))])) A) (cc := zc_N_makeKeys) (maxL := 4) (ret := none) (by decide) rfl (Nat.le_of_ble_eq_true rfl) ?_
  intro p e s m below meth c A ls F hA hdy hK hro hZ hN hl
  obtain ⟨hx, hb, hml, hr, hown, hlocks, hts, hnm⟩ := id F
  have hl : lv_has ls 4 [(0, .ref o), (1, .int (nI (sd)))] := hl
  refine lv_iconst (v := (nI (0))) hx hb zd_N_makeKeys_0 (by decide) ?_
  refine lv_istore_n (lv' := [(2, .int (nI (0))), (0, .ref o), (1, .int (nI (sd)))]) hx hb zd_N_makeKeys_1 rfl hl (by decide) rfl (fun ls hl => ?_)
  have lp2 : ∀ (n2 k2 : Nat) (c1 : Nat) (f2 : Nat → Int32) (f3 : Nat → Int32) (f4 : Nat → Int32) (f5 : Nat → Int32) (f6 : Nat → Int32) (H : Heap) (locs : List Loc) (ls : Array Slot), k2 ≤ 2 → 2 - k2 < n2 → c1 = 0 → (∀ j, j < 8 * (k2) → f6 (16 * sd + j) = kd_H gmR gmS (kd_kx (fun i => gmc (8 * sd + i)) (fun i => gmh (8 * sd + i)) (kd_wk (j / 8))) 2 (j % 8)) → (∀ j, (j < 16 * sd ∨ 16 * sd + 16 ≤ j) → f6 j = gmk j) → kz_dy (dC, dI) vwCl A s.heap H locs [(o, .inr (4, [.int th, .int sta, .ref mt, .ref mn, .ref ml, .ref mc, .ref mh, .ref mk, .ref mp, .ref mm, .ref mb, .ref mw, .ref mr, .ref mx, .ref me, .ref mP, .ref mQ, .ref ms, .int hs, .int (nI (c1)), .ref mo, .ref mW, .ref mD, .ref mB, .ref mR, .ref mS])), (mo, .inl (cB, 320, .inl f2)), (mW, .inl (cI, 64, .inl f3)), (mD, .inl (cI, 8, .inl f4)), (mB, .inl (cI, 8, .inl f5)), (mk, .inl (cI, 32, .inl f6))] → lv_has ls 4 [(2, .int (nI (k2))), (0, .ref o), (1, .int (nI (sd)))] → W p l e { frames := 3, cells := 0, slots := 0, locals := 72 } s m ([.ref o, .int (nI (sd))] : List Value).toArray below meth c H locs 0 0 (MQ below (va_Qv (fun (u : Nat × (Nat → Int32) × (Nat → Int32) × (Nat → Int32) × (Nat → Int32) × (Nat → Int32)) => (u.1 = 0) ∧ (∀ j, j < 16 → u.2.2.2.2.2 (16 * sd + j) = kd_H gmR gmS (kd_kx (fun i => gmc (8 * sd + i)) (fun i => gmh (8 * sd + i)) (kd_wk (j / 8))) 2 (j % 8)) ∧ (∀ j, (j < 16 * sd ∨ 16 * sd + 16 ≤ j) → u.2.2.2.2.2 j = gmk j) ∧ True) (kz_B (dC, dI) vwCl A (fun u : Nat × (Nat → Int32) × (Nat → Int32) × (Nat → Int32) × (Nat → Int32) × (Nat → Int32) => [(o, .inr (4, [.int th, .int sta, .ref mt, .ref mn, .ref ml, .ref mc, .ref mh, .ref mk, .ref mp, .ref mm, .ref mb, .ref mw, .ref mr, .ref mx, .ref me, .ref mP, .ref mQ, .ref ms, .int hs, .int (nI (u.1)), .ref mo, .ref mW, .ref mD, .ref mB, .ref mR, .ref mS])), (mo, .inl (cB, 320, .inl u.2.1)), (mW, .inl (cI, 64, .inl u.2.2.1)), (mD, .inl (cI, 8, .inl u.2.2.2.1)), (mB, .inl (cI, 8, .inl u.2.2.2.2.1)), (mk, .inl (cI, 32, .inl u.2.2.2.2.2))])) A) ([.ref o, .int (nI (sd))] : List Value).toArray s 0 0 A) (F0 m 2 ls []) := by
    intro n2
    induction n2 with
    | zero => intro k2; intros; omega
    | succ n2 ih2 =>
      intro k2 c1 f2 f3 f4 f5 f6 H locs ls hi2 hn2 hbc1 hA9 hB9 hdy hl
      refine lv_iload_n hx hb zd_N_makeKeys_2 rfl (lv_at hl 0 rfl) ?_
      refine lv_iconst (v := (nI (2))) hx hb zd_N_makeKeys_3 (by decide) ?_
      refine lv_icmp_ge (tgt := 101) hx hb zd_N_makeKeys_4 (by decide) (fun hc4 => ?_) (fun hc4 => ?_)
      · have hc4 : 2 ≤ k2 := (nI_leI (by omega) (by omega)).mp hc4
        exact kz_vret F (c1, f2, f3, f4, f5, f6) hdy (⟨by first | assumption | rfl | omega, by exact fun j hj => hA9 j (by omega), by exact hB9, trivial⟩) zd_N_makeKeys_101
      · have hc4 : ¬ 2 ≤ k2 := fun h9 => hc4 ((nI_leI (by omega) (by omega)).mpr h9)
        refine lv_aload_n hx hb zd_N_makeKeys_7 rfl (lv_at hl 1 rfl) ?_
        refine lv_aload_n hx hb zd_N_makeKeys_8 rfl (lv_at hl 1 rfl) ?_
        refine va_get (D := (dC, dI)) (ci := 4) (v := .ref mc) (C := zR_N) (T := zT_N) (N := 26) hx hb hts (fun w h => kz_c (zi_N w h)) hown hK hdy.1 0 rfl rfl 5 (by decide) (hts _ (kz_c mw_596)) (fun _ h9 => h9) rfl zd_N_makeKeys_9 ?_
        refine lv_bipush (v := (nI (8))) hx hb zd_N_makeKeys_12 (by decide) ?_
        refine lv_iload_n hx hb zd_N_makeKeys_14 rfl (lv_at hl 2 rfl) ?_
        refine kz_imul hx hb zd_N_makeKeys_15 (pk_mul _ _) ?_
        refine kz_callv (wk := [(mW, .inl (cI, 64, .inl f3)), (mD, .inl (cI, 8, .inl f4)), (mB, .inl (cI, 8, .inl f5)), (mk, .inl (cI, 32, .inl f6))]) (va_runV (As := [.ref mc, .int (nI (8 * sd))]) (rest := []) ⟨hx, hb, hml, hown, hts⟩ (c_G_addWords16 l dC dI cI cAA cB cL o mt mn ml mc mh mk mp mm mb mw mr mx me mP mQ ms mo mW mD mB mR mS mc (th) (sta) (hs) c1 f2 gmc (8 * sd) _ (by first | omega | assumption) (by first | omega | assumption)) (cwV 2 hts (kz_g (kz_mc mw_752 (kz_mc mw_754 (kz_mc mw_31 (kz_mc mw_43 kz_mn)))) mw_755) rfl rfl rfl (by decide +kernel) ⟨Nat.le_of_ble_eq_true rfl, Nat.le_of_ble_eq_true rfl⟩) (kz_preV hdy hA hK hro hZ hN [0, 1] (by decide) rfl [(true, 0)] rfl (by decide) [0, 1, 2, 3] rfl (fun _ h => by cases h) (fun _ h => by cases h) rfl (ci := 4) (q0 := 0) rfl rfl rfl) rfl rfl hl.1 rfl (lv_room (Nat.le_of_ble_eq_true rfl)) zd_N_makeKeys_16 ⟨Nat.le_of_ble_eq_true rfl, Nat.le_of_ble_eq_true rfl⟩) hdy hA [0, 1] [2, 3, 4, 5] rfl rfl (by decide) (by decide) (fun u H locs hw hdy => ?_)
        obtain ⟨c7, f8⟩ := u
        try dsimp only at hw
        obtain ⟨q9, q10, q11, -⟩ := hw
        have hdy : kz_dy (dC, dI) vwCl A s.heap H locs [(o, .inr (4, [.int th, .int sta, .ref mt, .ref mn, .ref ml, .ref mc, .ref mh, .ref mk, .ref mp, .ref mm, .ref mb, .ref mw, .ref mr, .ref mx, .ref me, .ref mP, .ref mQ, .ref ms, .int hs, .int (nI (c7)), .ref mo, .ref mW, .ref mD, .ref mB, .ref mR, .ref mS])), (mo, .inl (cB, 320, .inl f8)), (mW, .inl (cI, 64, .inl f3)), (mD, .inl (cI, 8, .inl f4)), (mB, .inl (cI, 8, .inl f5)), (mk, .inl (cI, 32, .inl f6))] := hdy.sub [4, 5, 0, 1, 2, 3] (by decide) rfl
        have hh0 : kd_has f8 0 (fun i => gmc (8 * sd + i)) := kd_hasAt q10 (by omega)
        refine lv_aload_n hx hb zd_N_makeKeys_19 rfl (lv_at hl 1 rfl) ?_
        refine lv_aload_n hx hb zd_N_makeKeys_20 rfl (lv_at hl 1 rfl) ?_
        refine va_get (D := (dC, dI)) (ci := 4) (v := .ref mh) (C := zR_N) (T := zT_N) (N := 26) hx hb hts (fun w h => kz_c (zi_N w h)) hown hK hdy.1 0 rfl rfl 6 (by decide) (hts _ (kz_c mw_597)) (fun _ h9 => h9) rfl zd_N_makeKeys_21 ?_
        refine lv_bipush (v := (nI (8))) hx hb zd_N_makeKeys_24 (by decide) ?_
        refine lv_iload_n hx hb zd_N_makeKeys_26 rfl (lv_at hl 2 rfl) ?_
        refine kz_imul hx hb zd_N_makeKeys_27 (pk_mul _ _) ?_
        refine kz_callv (wk := [(mW, .inl (cI, 64, .inl f3)), (mD, .inl (cI, 8, .inl f4)), (mB, .inl (cI, 8, .inl f5)), (mk, .inl (cI, 32, .inl f6))]) (va_runV (As := [.ref mh, .int (nI (8 * sd))]) (rest := []) ⟨hx, hb, hml, hown, hts⟩ (c_G_addWords16 l dC dI cI cAA cB cL o mt mn ml mc mh mk mp mm mb mw mr mx me mP mQ ms mo mW mD mB mR mS mh (th) (sta) (hs) c7 f8 gmh (8 * sd) _ (by first | omega | assumption) (by first | omega | assumption)) (cwV 2 hts (kz_g (kz_mc mw_752 (kz_mc mw_754 (kz_mc mw_31 (kz_mc mw_43 kz_mn)))) mw_755) rfl rfl rfl (by decide +kernel) ⟨Nat.le_of_ble_eq_true rfl, Nat.le_of_ble_eq_true rfl⟩) (kz_preV hdy hA hK hro hZ hN [0, 1] (by decide) rfl [(true, 1)] rfl (by decide) [0, 1, 2, 3] rfl (fun _ h => by cases h) (fun _ h => by cases h) rfl (ci := 4) (q0 := 0) rfl rfl rfl) rfl rfl hl.1 rfl (lv_room (Nat.le_of_ble_eq_true rfl)) zd_N_makeKeys_28 ⟨Nat.le_of_ble_eq_true rfl, Nat.le_of_ble_eq_true rfl⟩) hdy hA [0, 1] [2, 3, 4, 5] rfl rfl (by decide) (by decide) (fun u H locs hw hdy => ?_)
        obtain ⟨c12, f13⟩ := u
        try dsimp only at hw
        obtain ⟨q14, q15, q16, -⟩ := hw
        have hdy : kz_dy (dC, dI) vwCl A s.heap H locs [(o, .inr (4, [.int th, .int sta, .ref mt, .ref mn, .ref ml, .ref mc, .ref mh, .ref mk, .ref mp, .ref mm, .ref mb, .ref mw, .ref mr, .ref mx, .ref me, .ref mP, .ref mQ, .ref ms, .int hs, .int (nI (c12)), .ref mo, .ref mW, .ref mD, .ref mB, .ref mR, .ref mS])), (mo, .inl (cB, 320, .inl f13)), (mW, .inl (cI, 64, .inl f3)), (mD, .inl (cI, 8, .inl f4)), (mB, .inl (cI, 8, .inl f5)), (mk, .inl (cI, 32, .inl f6))] := hdy.sub [4, 5, 0, 1, 2, 3] (by decide) rfl
        have hh0 : kd_has f13 0 (fun i => gmc (8 * sd + i)) := kd_hasKeep hh0 q16 (by omega)
        have hh1 : kd_has f13 32 (fun i => gmh (8 * sd + i)) := kd_hasAt q15 (by omega)
        refine lv_aload_n hx hb zd_N_makeKeys_31 rfl (lv_at hl 1 rfl) ?_
        refine va_get (D := (dC, dI)) (ci := 4) (v := .ref mo) (C := zR_N) (T := zT_N) (N := 26) hx hb hts (fun w h => kz_c (zi_N w h)) hown hK hdy.1 0 rfl rfl 20 (by decide) (hts _ (kz_c mw_611)) (fun _ h9 => h9) rfl zd_N_makeKeys_32 ?_
        refine lv_aload_n hx hb zd_N_makeKeys_35 rfl (lv_at hl 1 rfl) ?_
        refine va_get (D := (dC, dI)) (ci := 4) (v := .int (nI (c12))) (C := zR_N) (T := zT_N) (N := 26) hx hb hts (fun w h => kz_c (zi_N w h)) hown hK hdy.1 0 rfl rfl 19 (by decide) (hts _ (kz_c mw_610)) (fun _ h9 => h9) rfl zd_N_makeKeys_36 ?_
        refine lv_bipush (v := (nI (65))) hx hb zd_N_makeKeys_39 (by decide) ?_
        refine lv_iload_n hx hb zd_N_makeKeys_41 rfl (lv_at hl 0 rfl) ?_
        refine kz_iadd hx hb zd_N_makeKeys_42 (nI_add _ _) ?_
        refine lv_i2b (v := ((nI (65 + k2))).toInt8.toInt32) hx hb zd_N_makeKeys_43 rfl ?_
        refine va_bast hx hb hK hdy.1 hdy.2.1 hdy.2.2 1 2 rfl rfl (vp_in_nI (by omega) (by omega)) zd_N_makeKeys_44 (fun H locs hP hD hS => ?_)
        rw [nI_clamp (by omega)] at hP hD
        obtain ⟨f17, ef17, hdy⟩ : ∃ f17 : Nat → Int32, f17 = upd f13 c12 (vp_nar .byte (((nI (65 + k2))).toInt8.toInt32)) ∧ kz_dy (dC, dI) vwCl A s.heap H locs [(o, .inr (4, [.int th, .int sta, .ref mt, .ref mn, .ref ml, .ref mc, .ref mh, .ref mk, .ref mp, .ref mm, .ref mb, .ref mw, .ref mr, .ref mx, .ref me, .ref mP, .ref mQ, .ref ms, .int hs, .int (nI (c12)), .ref mo, .ref mW, .ref mD, .ref mB, .ref mR, .ref mS])), (mo, .inl (cB, 320, .inl f17)), (mW, .inl (cI, 64, .inl f3)), (mD, .inl (cI, 8, .inl f4)), (mB, .inl (cI, 8, .inl f5)), (mk, .inl (cI, 32, .inl f6))] := ⟨_, rfl, hP, hD, hS⟩
        refine lv_aload_n hx hb zd_N_makeKeys_45 rfl (lv_at hl 1 rfl) ?_
        refine lv_dup hx hb zd_N_makeKeys_46 rfl ?_
        refine va_get (D := (dC, dI)) (ci := 4) (v := .int (nI (c12))) (C := zR_N) (T := zT_N) (N := 26) hx hb hts (fun w h => kz_c (zi_N w h)) hown hK hdy.1 0 rfl rfl 19 (by decide) (hts _ (kz_c mw_610)) (fun _ h9 => h9) rfl zd_N_makeKeys_47 ?_
        refine lv_iconst (v := (nI (1))) hx hb zd_N_makeKeys_50 (by decide) ?_
        refine kz_iadd hx hb zd_N_makeKeys_51 (nI_add _ _) ?_
        refine va_put (D := (dC, dI)) (ci := 4) (v := .int (nI (c12 + 1))) (ty := .int) (C := zR_N) (T := zT_N) (N := 26) hx hb hts (fun w h => kz_c (zi_N w h)) zt_N zo_N zn_N hown hK hdy.1 hdy.2.1 hdy.2.2 0 rfl rfl 19 (by decide) (hts _ (kz_c mw_610)) (fun _ h9 => h9) rfl (by decide +kernel) rfl rfl (Nat.le_of_ble_eq_true rfl) zd_N_makeKeys_52 (fun H locs hP hD hS => ?_)
        have hdy : kz_dy (dC, dI) vwCl A s.heap H locs [(o, .inr (4, [.int th, .int sta, .ref mt, .ref mn, .ref ml, .ref mc, .ref mh, .ref mk, .ref mp, .ref mm, .ref mb, .ref mw, .ref mr, .ref mx, .ref me, .ref mP, .ref mQ, .ref ms, .int hs, .int (nI (c12 + 1)), .ref mo, .ref mW, .ref mD, .ref mB, .ref mR, .ref mS])), (mo, .inl (cB, 320, .inl f17)), (mW, .inl (cI, 64, .inl f3)), (mD, .inl (cI, 8, .inl f4)), (mB, .inl (cI, 8, .inl f5)), (mk, .inl (cI, 32, .inl f6))] := ⟨hP, hD, hS⟩
        have hh0 : kd_has f17 0 (fun i => gmc (8 * sd + i)) := kd_hasUp hh0 ef17 (by omega)
        have hh1 : kd_has f17 32 (fun i => gmh (8 * sd + i)) := kd_hasUp hh1 ef17 (by omega)
        have hr64 : f17 64 = (nI (65 + k2)).toInt8.toInt32 := (by rw [ef17]; unfold upd; rw [if_pos (by omega), pk_vb])
        refine lv_aload_n hx hb zd_N_makeKeys_55 rfl (lv_at hl 1 rfl) ?_
        refine kz_callv (wk := [(mk, .inl (cI, 32, .inl f6))]) (va_runV (As := []) (rest := []) ⟨hx, hb, hml, hown, hts⟩ (c_G_reckon l dC dI cI cAA cB cL o mt mn ml mc mh mk mp mm mb mw mr mx me mP mQ ms mo mW mD mB mR mS (th) (sta) (hs) (c12 + 1) f17 f3 f4 f5 gmR gmS _ (by first | omega | assumption)) (cwV 0 hts (kz_g (kz_mc mw_756 (kz_mc mw_758 (kz_mc mw_32 (kz_mc mw_43 kz_mn)))) mw_759) rfl rfl rfl (by decide +kernel) ⟨Nat.le_of_ble_eq_true rfl, Nat.le_of_ble_eq_true rfl⟩) (kz_preV hdy hA hK hro hZ hN [0, 1, 2, 3, 4] (by decide) rfl [(true, 2), (true, 3)] rfl (by decide) [0, 1, 2, 3] rfl (fun _ h => by cases h) (fun _ h => by cases h) rfl (ci := 4) (q0 := 0) rfl rfl rfl) rfl rfl hl.1 rfl (lv_room (Nat.le_of_ble_eq_true rfl)) zd_N_makeKeys_56 ⟨Nat.le_of_ble_eq_true rfl, Nat.le_of_ble_eq_true rfl⟩) hdy hA [0, 1, 2, 3, 4] [5] rfl rfl (by decide) (by decide) (fun u H locs hw hdy => ?_)
        obtain ⟨c18, f19, f20, f21, f22⟩ := u
        try dsimp only at hw
        obtain ⟨q23, q24, -⟩ := hw
        have hdy : kz_dy (dC, dI) vwCl A s.heap H locs [(o, .inr (4, [.int th, .int sta, .ref mt, .ref mn, .ref ml, .ref mc, .ref mh, .ref mk, .ref mp, .ref mm, .ref mb, .ref mw, .ref mr, .ref mx, .ref me, .ref mP, .ref mQ, .ref ms, .int hs, .int (nI (c18)), .ref mo, .ref mW, .ref mD, .ref mB, .ref mR, .ref mS])), (mo, .inl (cB, 320, .inl f19)), (mW, .inl (cI, 64, .inl f20)), (mD, .inl (cI, 8, .inl f21)), (mB, .inl (cI, 8, .inl f22)), (mk, .inl (cI, 32, .inl f6))] := hdy.sub [1, 2, 3, 4, 5, 0] (by decide) rfl
        have hKs : ∀ j, j < 8 → f21 j = kd_H gmR gmS (kd_kx (fun i => gmc (8 * sd + i)) (fun i => gmh (8 * sd + i)) (kd_wk k2)) 2 j := kd_keyM q24 (by omega) (kd_keyW (by omega) hh0 hh1 hr64)
        refine lv_iconst (v := (nI (0))) hx hb zd_N_makeKeys_59 (by decide) ?_
        refine lv_istore_n (lv' := [(3, .int (nI (0))), (2, .int (nI (k2))), (0, .ref o), (1, .int (nI (sd)))]) hx hb zd_N_makeKeys_60 rfl hl (by decide) rfl (fun ls hl => ?_)
        have lp61 : ∀ (n61 k61 : Nat) (f25 : Nat → Int32) (H : Heap) (locs : List Loc) (ls : Array Slot), k61 ≤ 8 → 8 - k61 < n61 → (∀ j, j < k61 → f25 (16 * sd + 8 * k2 + j) = f21 j) → (∀ j, j < 8 * k2 → f25 (16 * sd + j) = f6 (16 * sd + j)) → (∀ j, (j < 16 * sd ∨ 16 * sd + 16 ≤ j) → f25 j = f6 j) → kz_dy (dC, dI) vwCl A s.heap H locs [(o, .inr (4, [.int th, .int sta, .ref mt, .ref mn, .ref ml, .ref mc, .ref mh, .ref mk, .ref mp, .ref mm, .ref mb, .ref mw, .ref mr, .ref mx, .ref me, .ref mP, .ref mQ, .ref ms, .int hs, .int (nI (c18)), .ref mo, .ref mW, .ref mD, .ref mB, .ref mR, .ref mS])), (mo, .inl (cB, 320, .inl f19)), (mW, .inl (cI, 64, .inl f20)), (mD, .inl (cI, 8, .inl f21)), (mB, .inl (cI, 8, .inl f22)), (mk, .inl (cI, 32, .inl f25))] → lv_has ls 4 [(3, .int (nI (k61))), (2, .int (nI (k2))), (0, .ref o), (1, .int (nI (sd)))] → W p l e { frames := 3, cells := 0, slots := 0, locals := 72 } s m ([.ref o, .int (nI (sd))] : List Value).toArray below meth c H locs 0 0 (MQ below (va_Qv (fun (u : Nat × (Nat → Int32) × (Nat → Int32) × (Nat → Int32) × (Nat → Int32) × (Nat → Int32)) => (u.1 = 0) ∧ (∀ j, j < 16 → u.2.2.2.2.2 (16 * sd + j) = kd_H gmR gmS (kd_kx (fun i => gmc (8 * sd + i)) (fun i => gmh (8 * sd + i)) (kd_wk (j / 8))) 2 (j % 8)) ∧ (∀ j, (j < 16 * sd ∨ 16 * sd + 16 ≤ j) → u.2.2.2.2.2 j = gmk j) ∧ True) (kz_B (dC, dI) vwCl A (fun u : Nat × (Nat → Int32) × (Nat → Int32) × (Nat → Int32) × (Nat → Int32) × (Nat → Int32) => [(o, .inr (4, [.int th, .int sta, .ref mt, .ref mn, .ref ml, .ref mc, .ref mh, .ref mk, .ref mp, .ref mm, .ref mb, .ref mw, .ref mr, .ref mx, .ref me, .ref mP, .ref mQ, .ref ms, .int hs, .int (nI (u.1)), .ref mo, .ref mW, .ref mD, .ref mB, .ref mR, .ref mS])), (mo, .inl (cB, 320, .inl u.2.1)), (mW, .inl (cI, 64, .inl u.2.2.1)), (mD, .inl (cI, 8, .inl u.2.2.2.1)), (mB, .inl (cI, 8, .inl u.2.2.2.2.1)), (mk, .inl (cI, 32, .inl u.2.2.2.2.2))])) A) ([.ref o, .int (nI (sd))] : List Value).toArray s 0 0 A) (F0 m 61 ls []) := by
          intro n61
          induction n61 with
          | zero => intro k61; intros; omega
          | succ n61 ih61 =>
            intro k61 f25 H locs ls hi61 hn61 hC3 hD3 hE3 hdy hl
            refine lv_iload_n hx hb zd_N_makeKeys_61 rfl (lv_at hl 0 rfl) ?_
            refine lv_bipush (v := (nI (8))) hx hb zd_N_makeKeys_62 (by decide) ?_
            refine lv_icmp_ge (tgt := 95) hx hb zd_N_makeKeys_64 (by decide) (fun hc64 => ?_) (fun hc64 => ?_)
            · have hc64 : 8 ≤ k61 := (nI_leI (by omega) (by omega)).mp hc64
              refine lv_iinc (v := (nI (k2 + 1))) (lv' := [(2, .int (nI (k2 + 1))), (3, .int (nI (k61))), (0, .ref o), (1, .int (nI (sd)))]) hx hb zd_N_makeKeys_95 hl (k := 1) rfl (nI_1 _) (by decide) rfl (fun ls hl => ?_)
              refine lv_goto (tgt := 2) hx hb zd_N_makeKeys_98 (by decide) ?_
              have hi9_hA926 : ∀ j, j < 8 * (k2 + 1) → f25 (16 * sd + j) = kd_H gmR gmS (kd_kx (fun i => gmc (8 * sd + i)) (fun i => gmh (8 * sd + i)) (kd_wk (j / 8))) 2 (j % 8) := by intro j hj; by_cases h9 : j < 8 * k2; (rw [hD3 j (by omega)]; exact hA9 j h9); (have h8 := hC3 (j - 8 * k2) (by omega); rw [show 16 * sd + 8 * k2 + (j - 8 * k2) = 16 * sd + j by omega] at h8; rw [h8, hKs (j - 8 * k2) (by omega), show j / 8 = k2 by omega, show j % 8 = j - 8 * k2 by omega])
              have hi9_hB927 : ∀ j, (j < 16 * sd ∨ 16 * sd + 16 ≤ j) → f25 j = gmk j := by exact fun j hj => (hE3 j (by omega)).trans (hB9 j hj)
              exact ih2 (k2 + 1) c18 f19 f20 f21 f22 f25 _ _ _ (by omega) (by omega) (by omega) hi9_hA926 hi9_hB927 hdy (lv_sub hl [0, 2, 3] rfl)
            · have hc64 : ¬ 8 ≤ k61 := fun h9 => hc64 ((nI_leI (by omega) (by omega)).mpr h9)
              refine lv_aload_n hx hb zd_N_makeKeys_67 rfl (lv_at hl 2 rfl) ?_
              refine va_get (D := (dC, dI)) (ci := 4) (v := .ref mk) (C := zR_N) (T := zT_N) (N := 26) hx hb hts (fun w h => kz_c (zi_N w h)) hown hK hdy.1 0 rfl rfl 7 (by decide) (hts _ (kz_c mw_598)) (fun _ h9 => h9) rfl zd_N_makeKeys_68 ?_
              refine lv_bipush (v := (nI (16))) hx hb zd_N_makeKeys_71 (by decide) ?_
              refine lv_iload_n hx hb zd_N_makeKeys_73 rfl (lv_at hl 3 rfl) ?_
              refine kz_imul hx hb zd_N_makeKeys_74 (pk_mul _ _) ?_
              refine lv_bipush (v := (nI (8))) hx hb zd_N_makeKeys_75 (by decide) ?_
              refine lv_iload_n hx hb zd_N_makeKeys_77 rfl (lv_at hl 1 rfl) ?_
              refine kz_imul hx hb zd_N_makeKeys_78 (pk_mul _ _) ?_
              refine kz_iadd hx hb zd_N_makeKeys_79 (nI_add _ _) ?_
              refine lv_iload_n hx hb zd_N_makeKeys_80 rfl (lv_at hl 0 rfl) ?_
              refine kz_iadd hx hb zd_N_makeKeys_81 (nI_add _ _) ?_
              refine lv_aload_n hx hb zd_N_makeKeys_82 rfl (lv_at hl 2 rfl) ?_
              refine va_get (D := (dC, dI)) (ci := 4) (v := .ref mD) (C := zR_N) (T := zT_N) (N := 26) hx hb hts (fun w h => kz_c (zi_N w h)) hown hK hdy.1 0 rfl rfl 22 (by decide) (hts _ (kz_c mw_613)) (fun _ h9 => h9) rfl zd_N_makeKeys_83 ?_
              refine lv_iload_n hx hb zd_N_makeKeys_86 rfl (lv_at hl 0 rfl) ?_
              refine va_iald hx hb hK hdy.1 3 0 rfl rfl (vp_in_nI (by omega) (by omega)) zd_N_makeKeys_87 ?_
              refine lv_topi (fun x28 h9 => ?_)
              obtain rfl : x28 = f21 k61 := h9.trans (by rw [nI_clamp (by omega)])
              refine va_iast hx hb hK hdy.1 hdy.2.1 hdy.2.2 5 0 rfl rfl (vp_in_nI (by omega) (by omega)) zd_N_makeKeys_88 (fun H locs hP hD hS => ?_)
              rw [nI_clamp (by omega)] at hP hD
              obtain ⟨f29, ef29, hdy⟩ : ∃ f29 : Nat → Int32, f29 = upd f25 (16 * sd + (8 * k2) + k61) ((f21 k61)) ∧ kz_dy (dC, dI) vwCl A s.heap H locs [(o, .inr (4, [.int th, .int sta, .ref mt, .ref mn, .ref ml, .ref mc, .ref mh, .ref mk, .ref mp, .ref mm, .ref mb, .ref mw, .ref mr, .ref mx, .ref me, .ref mP, .ref mQ, .ref ms, .int hs, .int (nI (c18)), .ref mo, .ref mW, .ref mD, .ref mB, .ref mR, .ref mS])), (mo, .inl (cB, 320, .inl f19)), (mW, .inl (cI, 64, .inl f20)), (mD, .inl (cI, 8, .inl f21)), (mB, .inl (cI, 8, .inl f22)), (mk, .inl (cI, 32, .inl f29))] := ⟨_, rfl, hP, hD, hS⟩
              refine lv_iinc (v := (nI (k61 + 1))) (lv' := [(3, .int (nI (k61 + 1))), (2, .int (nI (k2))), (0, .ref o), (1, .int (nI (sd)))]) hx hb zd_N_makeKeys_89 hl (k := 0) rfl (nI_1 _) (by decide) rfl (fun ls hl => ?_)
              refine lv_goto (tgt := 61) hx hb zd_N_makeKeys_92 (by decide) ?_
              have hi9_hC330 : ∀ j, j < k61 + 1 → f29 (16 * sd + 8 * k2 + j) = f21 j := by rw [ef29]; exact kz_fillw hC3 rfl
              have hi9_hD331 : ∀ j, j < 8 * k2 → f29 (16 * sd + j) = f6 (16 * sd + j) := by intro j hj; rw [ef29]; unfold upd; rw [if_neg (by omega)]; exact hD3 j hj
              have hi9_hE332 : ∀ j, (j < 16 * sd ∨ 16 * sd + 16 ≤ j) → f29 j = f6 j := by intro j hj; rw [ef29]; unfold upd; rw [if_neg (by omega)]; exact hE3 j hj
              exact ih61 (k61 + 1) f29 _ _ _ (by omega) (by omega) hi9_hC330 hi9_hD331 hi9_hE332 hdy (lv_sub hl [0, 1, 2, 3] rfl)
        have hi9_hC333 : ∀ j, j < 0 → f6 (16 * sd + 8 * k2 + j) = f21 j := by intro j hj; omega
        have hi9_hD334 : ∀ j, j < 8 * k2 → f6 (16 * sd + j) = f6 (16 * sd + j) := by exact fun _ _ => rfl
        have hi9_hE335 : ∀ j, (j < 16 * sd ∨ 16 * sd + 16 ≤ j) → f6 j = f6 j := by exact fun _ _ => rfl
        exact lp61 (8 - 0 + 1) 0 f6 _ _ _ (by omega) (by omega) hi9_hC333 hi9_hD334 hi9_hE335 hdy (lv_sub hl [0, 1, 2, 3] rfl)
  have hi9_hA936 : ∀ j, j < 8 * (0) → gmk (16 * sd + j) = kd_H gmR gmS (kd_kx (fun i => gmc (8 * sd + i)) (fun i => gmh (8 * sd + i)) (kd_wk (j / 8))) 2 (j % 8) := by intro j hj; omega
  have hi9_hB937 : ∀ j, (j < 16 * sd ∨ 16 * sd + 16 ≤ j) → gmk j = gmk j := by exact fun _ _ => rfl
  exact lp2 (2 - 0 + 1) 0 sz_ gmo gmW gmD gmB gmk _ _ _ (by omega) (by omega) (by omega) hi9_hA936 hi9_hB937 hdy (lv_sub hl [0, 1, 2] rfl)

