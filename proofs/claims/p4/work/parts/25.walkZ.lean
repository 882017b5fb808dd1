set_option maxHeartbeats 4000000 in
set_option maxRecDepth 100000 in
/-- KeyMeetingModel.remain([I)V -/
theorem c_Z_remain (l : Launch) (dC : Nat → ClassId) (dI : Nat → Nat → Nat) (cI cAA cB cL : ClassId) (me t o mt mn ml mc mh mk mp mm mb mw mr mx mP mQ ms mo mW mD mB mR mS : Nat) (gme : Nat → Nat) (gt : Nat → Nat) (th : Int32) (sta : Int32) (hs : Int32) (sz_ : Nat) (gmm : Nat → Nat) (gmx : Nat → Nat) (sz : Nat) (hd_gme : ∀ j, gme j < 65536) (hd_gt : ∀ j, gt j < 65536) (hd_gmm : ∀ j, gmm j < 65536) (hd_gmx : ∀ j, gmx j < 65536) (hnz : kv_some gmm 0 16) : Met l zy_N_remain zw_N_remain { frames := 1, cells := 0, slots := 0, locals := 23 } (kz_Pc (dC, dI) vwCl [(cI, .int), (cAA, .array .int), (cB, .byte), (cL, .long)] [] [] [.ref o, .ref t] [(me, .inl (cI, 18, .inl (kz_dg gme))), (t, .inl (cI, 16, .inl (kz_dg gt)))] [(o, .inr (4, [.int th, .int sta, .ref mt, .ref mn, .ref ml, .ref mc, .ref mh, .ref mk, .ref mp, .ref mm, .ref mb, .ref mw, .ref mr, .ref mx, .ref me, .ref mP, .ref mQ, .ref ms, .int hs, .int (nI (sz_)), .ref mo, .ref mW, .ref mD, .ref mB, .ref mR, .ref mS])), (mm, .inl (cI, 16, .inl (kz_dg gmm))), (mx, .inl (cI, 32, .inl (kz_dg gmx)))] sz) (va_Qv (fun (u : (Nat → Nat) × (Nat → Nat)) => (∀ j, u.1 j < 65536) ∧ (∀ j, u.2 j < 65536) ∧ True) (kz_B (dC, dI) vwCl (va_A [(me, .inl (cI, 18, .inl (kz_dg gme))), (t, .inl (cI, 16, .inl (kz_dg gt)))] sz) (fun u : (Nat → Nat) × (Nat → Nat) => [(me, .inl (cI, 18, .inl (kz_dg u.1))), (t, .inl (cI, 16, .inl (kz_dg u.2)))])) (va_A [(me, .inl (cI, 18, .inl (kz_dg gme))), (t, .inl (cI, 16, .inl (kz_dg gt)))] sz)) 0 0 (va_A [(me, .inl (cI, 18, .inl (kz_dg gme))), (t, .inl (cI, 16, .inl (kz_dg gt)))] sz) := by
  refine kz_met (y := zy_N_remain) (ws := zw_N_remain) (av := [.ref o, .ref t]) (sz := sz) (Qc := fun A => va_Qv (fun (u : (Nat → Nat) × (Nat → Nat)) => (∀ j, u.1 j < 65536) ∧ (∀ j, u.2 j < 65536) ∧ True) (kz_B (dC, dI) vwCl A (fun u : (Nat → Nat) × (Nat → Nat) => [(me, .inl (cI, 18, .inl (kz_dg u.1))), (t, .inl (cI, 16, .inl (kz_dg u.2)))])) A) (cc := zc_N_remain) (maxL := 13) (ret := none) (by decide) rfl (Nat.le_of_ble_eq_true rfl) ?_
  intro p e s m below meth c A ls F hA hdy hK hro hZ hN hl
  obtain ⟨hx, hb, hml, hr, hown, hlocks, hts, hnm⟩ := id F
  have hl : lv_has ls 13 [(0, .ref o), (1, .ref t)] := hl
  have hmv : 0 < kv_val (kv_m18 gmm) 18 := by rw [kv_m18_val]; exact kv_some_val hnz
  refine lv_bipush (v := (nI (15))) hx hb zd_N_remain_0 (by decide) ?_
  refine lv_istore_n (lv' := [(2, .int (nI (15))), (0, .ref o), (1, .ref t)]) hx hb zd_N_remain_2 rfl hl (by decide) rfl (fun ls hl => ?_)
  have lp3 : ∀ (n3 k3 : Nat) (d1 : Nat → Nat) (d2 : Nat → Nat) (H : Heap) (locs : List Loc) (ls : Array Slot), k3 ≤ 15 → k3 < n3 → (∀ j, d1 j < 65536) → (∀ j, d2 j < 65536) → (kv_some gmm 0 (k3 + 1)) → (∀ j, k3 < j → j < 16 → gmm j = 0) → kz_dy (dC, dI) vwCl A s.heap H locs [(me, .inl (cI, 18, .inl (kz_dg d1))), (t, .inl (cI, 16, .inl (kz_dg d2)))] → lv_has ls 13 [(2, .int (nI (k3))), (0, .ref o), (1, .ref t)] → W p l e { frames := 1, cells := 0, slots := 0, locals := 23 } s m ([.ref o, .ref t] : List Value).toArray below meth c H locs 0 0 (MQ below (va_Qv (fun (u : (Nat → Nat) × (Nat → Nat)) => (∀ j, u.1 j < 65536) ∧ (∀ j, u.2 j < 65536) ∧ True) (kz_B (dC, dI) vwCl A (fun u : (Nat → Nat) × (Nat → Nat) => [(me, .inl (cI, 18, .inl (kz_dg u.1))), (t, .inl (cI, 16, .inl (kz_dg u.2)))])) A) ([.ref o, .ref t] : List Value).toArray s 0 0 A) (F0 m 3 ls []) := by
    intro n3
    induction n3 with
    | zero => intro k3 d1 d2 H locs ls hi3 hn3; exact absurd hn3 (Nat.not_lt_zero _)
    | succ n3 ih3 =>
      intro k3 d1 d2 H locs ls hi3 hn3 hd_d1 hd_d2 hsm htz hdy hl
      refine lv_aload_n hx hb zd_N_remain_3 rfl (lv_at hl 1 rfl) ?_
      refine va_get (D := (dC, dI)) (ci := 4) (v := .ref mm) (C := zR_N) (T := zT_N) (N := 26) hx hb hts (fun w h => kz_c (zi_N w h)) hown hK (hro.ob hdy.2.2 (k := 0) rfl) 0 rfl rfl 9 (by decide) (hts _ (kz_c mw_600)) (fun _ h9 => h9) rfl zd_N_remain_4 ?_
      refine lv_iload_n hx hb zd_N_remain_7 rfl (lv_at hl 0 rfl) ?_
      refine kz_riald hx hb hK hro hdy.2.2 1 0 rfl rfl (vp_in_nI (by omega) (by omega)) zd_N_remain_8 ?_
      refine lv_topi (fun x3 h9 => ?_)
      obtain rfl : x3 = nI (gmm k3) := h9.trans (kz_dgl gmm (by omega))
      have hbx3 := hd_gmm k3
      refine lv_if_ne (tgt := 18) hx hb zd_N_remain_9 (by decide) (fun hc9 => ?_) (fun hc9 => ?_)
      · have hc9 : ¬ (gmm k3) = 0 := fun h9 => hc9 (by have h8 := (nI_eq (by omega) (by omega)).mpr h9; rw [nI_0] at h8; exact h8)
        refine lv_ldc2 (v := (65536)) hx hb hown (hts _ (kz_c mw_709)) zd_N_remain_18 ?_
        refine lv_topl (fun yl4 h9 => ?_)
        obtain rfl : yl4 = kz_lz (65536) := h9.trans (kz_lz_c65536)
        refine lv_aload_n hx hb zd_N_remain_21 rfl (lv_at hl 1 rfl) ?_
        refine va_get (D := (dC, dI)) (ci := 4) (v := .ref mm) (C := zR_N) (T := zT_N) (N := 26) hx hb hts (fun w h => kz_c (zi_N w h)) hown hK (hro.ob hdy.2.2 (k := 0) rfl) 0 rfl rfl 9 (by decide) (hts _ (kz_c mw_600)) (fun _ h9 => h9) rfl zd_N_remain_22 ?_
        refine lv_iload_n hx hb zd_N_remain_25 rfl (lv_at hl 0 rfl) ?_
        refine kz_riald hx hb hK hro hdy.2.2 1 0 rfl rfl (vp_in_nI (by omega) (by omega)) zd_N_remain_26 ?_
        refine lv_topi (fun x5 h9 => ?_)
        obtain rfl : x5 = nI (gmm k3) := h9.trans (kz_dgl gmm (by omega))
        have hbx5 := hd_gmm k3
        refine lv_i2l hx hb zd_N_remain_27 (kz_lz_i (n := gmm k3) (by omega)) ?_
        refine lv_lmul hx hb zd_N_remain_28 ?_
        refine lv_topl (fun yl6 h9 => ?_)
        obtain rfl : yl6 = kz_lz (65536 * (((gmm k3 : Nat) : Int))) := h9.trans (kz_lz_mul _ _)
        refine lv_iload_n hx hb zd_N_remain_29 rfl (lv_at hl 0 rfl) ?_
        refine lv_if_le (tgt := 44) hx hb zd_N_remain_30 (by decide) (fun hc30 => ?_) (fun hc30 => ?_)
        · have hc30 : k3 ≤ 0 := (nI_leI (by omega) (by omega)).mp (by rw [nI_0]; exact hc30)
          refine lv_iconst (v := (nI (0))) hx hb zd_N_remain_44 (by decide) ?_
          refine lv_i2l hx hb zd_N_remain_45 (kz_lz_i (n := 0) (by omega)) ?_
          refine lv_ladd hx hb zd_N_remain_46 ?_
          refine lv_topl (fun yl7 h9 => ?_)
          obtain rfl : yl7 = kz_lz ((65536 * (((gmm k3 : Nat) : Int))) + (((0 : Nat) : Int))) := h9.trans (kz_lz_add _ _)
          refine lv_lconst (v := 1) hx hb zd_N_remain_47 (by decide) ?_
          refine lv_topl (fun yl8 h9 => ?_)
          obtain rfl : yl8 = kz_lz (1) := h9.trans (kz_lz_c1)
          refine lv_ladd hx hb zd_N_remain_48 ?_
          refine lv_topl (fun yl9 h9 => ?_)
          obtain rfl : yl9 = kz_lz (((65536 * (((gmm k3 : Nat) : Int))) + (((0 : Nat) : Int))) + 1) := h9.trans (kz_lz_add _ _)
          refine lv_topl (fun yl11 h9 => ?_)
          obtain ⟨z10, ez10, rfl⟩ : ∃ z : Int, z = ((65536 * (((gmm k3 : Nat) : Int))) + (((0 : Nat) : Int))) + 1 ∧ yl11 = kz_lz z := ⟨_, rfl, h9⟩
          refine lv_lstore_n (lv' := [(3, .long (kz_lz (z10))), (2, .int (nI (k3))), (0, .ref o), (1, .ref t)]) hx hb zd_N_remain_49 rfl hl (by decide) rfl (fun ls hl => ?_)
          refine lv_iconst (v := (nI (0))) hx hb zd_N_remain_50 (by decide) ?_
          refine lv_istore (lv' := [(5, .int (nI (0))), (3, .long (kz_lz (z10))), (2, .int (nI (k3))), (0, .ref o), (1, .ref t)]) hx hb zd_N_remain_51 hl (by decide) rfl (fun ls hl => ?_)
          have lp53 : ∀ (n53 k53 : Nat) (d12 : Nat → Nat) (d13 : Nat → Nat) (H : Heap) (locs : List Loc) (ls : Array Slot), k53 ≤ 18 → 18 - k53 < n53 → (∀ j, d12 j < 65536) → (∀ j, d13 j < 65536) → kz_dy (dC, dI) vwCl A s.heap H locs [(me, .inl (cI, 18, .inl (kz_dg d12))), (t, .inl (cI, 16, .inl (kz_dg d13)))] → lv_has ls 13 [(5, .int (nI (k53))), (3, .long (kz_lz (z10))), (2, .int (nI (k3))), (0, .ref o), (1, .ref t)] → W p l e { frames := 1, cells := 0, slots := 0, locals := 23 } s m ([.ref o, .ref t] : List Value).toArray below meth c H locs 0 0 (MQ below (va_Qv (fun (u : (Nat → Nat) × (Nat → Nat)) => (∀ j, u.1 j < 65536) ∧ (∀ j, u.2 j < 65536) ∧ True) (kz_B (dC, dI) vwCl A (fun u : (Nat → Nat) × (Nat → Nat) => [(me, .inl (cI, 18, .inl (kz_dg u.1))), (t, .inl (cI, 16, .inl (kz_dg u.2)))])) A) ([.ref o, .ref t] : List Value).toArray s 0 0 A) (F0 m 53 ls []) := by
            intro n53
            induction n53 with
            | zero => intro k53; intros; omega
            | succ n53 ih53 =>
              intro k53 d12 d13 H locs ls hi53 hn53 hd_d12 hd_d13 hdy hl
              refine lv_iload hx hb zd_N_remain_53 (lv_at hl 0 rfl) ?_
              refine lv_bipush (v := (nI (18))) hx hb zd_N_remain_55 (by decide) ?_
              refine lv_icmp_ge (tgt := 74) hx hb zd_N_remain_57 (by decide) (fun hc57 => ?_) (fun hc57 => ?_)
              · have hc57 : 18 ≤ k53 := (nI_leI (by omega) (by omega)).mp hc57
                refine lv_bipush (v := (nI (31))) hx hb zd_N_remain_74 (by decide) ?_
                refine lv_istore (lv' := [(5, .int (nI (31))), (3, .long (kz_lz (z10))), (2, .int (nI (k3))), (0, .ref o), (1, .ref t)]) hx hb zd_N_remain_76 hl (by decide) rfl (fun ls hl => ?_)
                have lp78 : ∀ (n78 k78 : Nat) (d14 : Nat → Nat) (d15 : Nat → Nat) (H : Heap) (locs : List Loc) (ls : Array Slot), k78 ≤ 32 → k78 < n78 → (∀ j, d14 j < 65536) → (∀ j, d15 j < 65536) → kz_dy (dC, dI) vwCl A s.heap H locs [(me, .inl (cI, 18, .inl (kz_dg d14))), (t, .inl (cI, 16, .inl (kz_dg d15)))] → lv_has ls 13 [(5, .int (nI (k78) - 1)), (3, .long (kz_lz (z10))), (2, .int (nI (k3))), (0, .ref o), (1, .ref t)] → W p l e { frames := 1, cells := 0, slots := 0, locals := 23 } s m ([.ref o, .ref t] : List Value).toArray below meth c H locs 0 0 (MQ below (va_Qv (fun (u : (Nat → Nat) × (Nat → Nat)) => (∀ j, u.1 j < 65536) ∧ (∀ j, u.2 j < 65536) ∧ True) (kz_B (dC, dI) vwCl A (fun u : (Nat → Nat) × (Nat → Nat) => [(me, .inl (cI, 18, .inl (kz_dg u.1))), (t, .inl (cI, 16, .inl (kz_dg u.2)))])) A) ([.ref o, .ref t] : List Value).toArray s 0 0 A) (F0 m 78 ls []) := by
                  intro n78
                  induction n78 with
                  | zero => intro k78 d14 d15 H locs ls hi78 hn78; exact absurd hn78 (Nat.not_lt_zero _)
                  | succ n78 ih78 =>
                    intro k78 d14 d15 H locs ls hi78 hn78 hd_d14 hd_d15 hdy hl
                    refine lv_iload hx hb zd_N_remain_78 (lv_at hl 0 rfl) ?_
                    refine lv_if_lt (tgt := 286) hx hb zd_N_remain_80 (by decide) (fun hc80 => ?_) (fun hc80 => ?_)
                    · have hc80 : k78 = 0 := (kz_neg (by omega)).mp hc80
                      refine lv_iconst (v := (nI (0))) hx hb zd_N_remain_286 (by decide) ?_
                      refine lv_istore (lv' := [(5, .int (nI (0))), (3, .long (kz_lz (z10))), (2, .int (nI (k3))), (0, .ref o), (1, .ref t)]) hx hb zd_N_remain_287 hl (by decide) rfl (fun ls hl => ?_)
                      have lp289 : ∀ (n289 k289 : Nat) (d16 : Nat → Nat) (d17 : Nat → Nat) (H : Heap) (locs : List Loc) (ls : Array Slot), k289 ≤ 16 → 16 - k289 < n289 → (∀ j, d16 j < 65536) → (∀ j, d17 j < 65536) → kz_dy (dC, dI) vwCl A s.heap H locs [(me, .inl (cI, 18, .inl (kz_dg d16))), (t, .inl (cI, 16, .inl (kz_dg d17)))] → lv_has ls 13 [(5, .int (nI (k289))), (3, .long (kz_lz (z10))), (2, .int (nI (k3))), (0, .ref o), (1, .ref t)] → W p l e { frames := 1, cells := 0, slots := 0, locals := 23 } s m ([.ref o, .ref t] : List Value).toArray below meth c H locs 0 0 (MQ below (va_Qv (fun (u : (Nat → Nat) × (Nat → Nat)) => (∀ j, u.1 j < 65536) ∧ (∀ j, u.2 j < 65536) ∧ True) (kz_B (dC, dI) vwCl A (fun u : (Nat → Nat) × (Nat → Nat) => [(me, .inl (cI, 18, .inl (kz_dg u.1))), (t, .inl (cI, 16, .inl (kz_dg u.2)))])) A) ([.ref o, .ref t] : List Value).toArray s 0 0 A) (F0 m 289 ls []) := by
                        intro n289
                        induction n289 with
                        | zero => intro k289; intros; omega
                        | succ n289 ih289 =>
                          intro k289 d16 d17 H locs ls hi289 hn289 hd_d16 hd_d17 hdy hl
                          refine lv_iload hx hb zd_N_remain_289 (lv_at hl 0 rfl) ?_
                          refine lv_bipush (v := (nI (16))) hx hb zd_N_remain_291 (by decide) ?_
                          refine lv_icmp_ge (tgt := 313) hx hb zd_N_remain_293 (by decide) (fun hc293 => ?_) (fun hc293 => ?_)
                          · have hc293 : 16 ≤ k289 := (nI_leI (by omega) (by omega)).mp hc293
                            exact kz_vret F (d16, d17) hdy (⟨hd_d16, hd_d17, trivial⟩) zd_N_remain_313
                          · have hc293 : ¬ 16 ≤ k289 := fun h9 => hc293 ((nI_leI (by omega) (by omega)).mpr h9)
                            refine lv_aload_n hx hb zd_N_remain_296 rfl (lv_at hl 4 rfl) ?_
                            refine lv_iload hx hb zd_N_remain_297 (lv_at hl 0 rfl) ?_
                            refine lv_aload_n hx hb zd_N_remain_299 rfl (lv_at hl 3 rfl) ?_
                            refine va_get (D := (dC, dI)) (ci := 4) (v := .ref me) (C := zR_N) (T := zT_N) (N := 26) hx hb hts (fun w h => kz_c (zi_N w h)) hown hK (hro.ob hdy.2.2 (k := 0) rfl) 0 rfl rfl 14 (by decide) (hts _ (kz_c mw_605)) (fun _ h9 => h9) rfl zd_N_remain_300 ?_
                            refine lv_iload hx hb zd_N_remain_303 (lv_at hl 0 rfl) ?_
                            refine va_iald hx hb hK hdy.1 0 0 rfl rfl (vp_in_nI (by omega) (by omega)) zd_N_remain_305 ?_
                            refine lv_topi (fun x18 h9 => ?_)
                            obtain rfl : x18 = nI (d16 k289) := h9.trans (kz_dgl d16 (by omega))
                            have hbx18 := hd_d16 k289
                            refine va_iast hx hb hK hdy.1 hdy.2.1 hdy.2.2 1 0 rfl rfl (vp_in_nI (by omega) (by omega)) zd_N_remain_306 (fun H locs hP hD hS => ?_)
                            have h9 := kz_dgu d17 (k := k289) (d16 k289) (by omega)
                            rw [h9] at hP hD
                            obtain ⟨f19, ef19, hd_f19, hdy⟩ : ∃ f19 : Nat → Nat, f19 = kv_up d17 k289 (d16 k289) ∧ (∀ j, f19 j < 65536) ∧ kz_dy (dC, dI) vwCl A s.heap H locs [(me, .inl (cI, 18, .inl (kz_dg d16))), (t, .inl (cI, 16, .inl (kz_dg f19)))] := ⟨_, rfl, kv_up_lt hd_d17 (by omega), hP, hD, hS⟩
                            refine lv_iinc (v := (nI (k289 + 1))) (lv' := [(5, .int (nI (k289 + 1))), (3, .long (kz_lz (z10))), (2, .int (nI (k3))), (0, .ref o), (1, .ref t)]) hx hb zd_N_remain_307 hl (k := 0) rfl (nI_1 _) (by decide) rfl (fun ls hl => ?_)
                            refine lv_goto (tgt := 289) hx hb zd_N_remain_310 (by decide) ?_
                            exact ih289 (k289 + 1) d16 f19 _ _ _ (by omega) (by omega) hd_d16 hd_f19 hdy (lv_sub hl [0, 1, 2, 3, 4] rfl)
                      exact lp289 (16 - 0 + 1) 0 d14 d15 _ _ _ (by omega) (by omega) hd_d14 hd_d15 hdy (lv_sub hl [0, 1, 2, 3, 4] rfl)
                    · have hc80 : ¬ k78 = 0 := fun h9 => hc80 ((kz_neg (by omega)).mpr h9)
                      obtain ⟨k78p, rfl⟩ : ∃ j, k78 = j + 1 := ⟨k78 - 1, by omega⟩
                      rw [nI_pred] at hl
                      refine lv_bipush (v := (nI (17))) hx hb zd_N_remain_83 (by decide) ?_
                      refine lv_istore (lv' := [(6, .int (nI (17))), (5, .int (nI (k78p))), (3, .long (kz_lz (z10))), (2, .int (nI (k3))), (0, .ref o), (1, .ref t)]) hx hb zd_N_remain_85 hl (by decide) rfl (fun ls hl => ?_)
                      have lp87 : ∀ (n87 k87 : Nat) (d20 : Nat → Nat) (d21 : Nat → Nat) (H : Heap) (locs : List Loc) (ls : Array Slot), k87 ≤ 17 → k87 < n87 → (∀ j, d20 j < 65536) → (∀ j, d21 j < 65536) → kz_dy (dC, dI) vwCl A s.heap H locs [(me, .inl (cI, 18, .inl (kz_dg d20))), (t, .inl (cI, 16, .inl (kz_dg d21)))] → lv_has ls 13 [(6, .int (nI (k87))), (5, .int (nI (k78p))), (3, .long (kz_lz (z10))), (2, .int (nI (k3))), (0, .ref o), (1, .ref t)] → W p l e { frames := 1, cells := 0, slots := 0, locals := 23 } s m ([.ref o, .ref t] : List Value).toArray below meth c H locs 0 0 (MQ below (va_Qv (fun (u : (Nat → Nat) × (Nat → Nat)) => (∀ j, u.1 j < 65536) ∧ (∀ j, u.2 j < 65536) ∧ True) (kz_B (dC, dI) vwCl A (fun u : (Nat → Nat) × (Nat → Nat) => [(me, .inl (cI, 18, .inl (kz_dg u.1))), (t, .inl (cI, 16, .inl (kz_dg u.2)))])) A) ([.ref o, .ref t] : List Value).toArray s 0 0 A) (F0 m 87 ls []) := by
                        intro n87
                        induction n87 with
                        | zero => intro k87 d20 d21 H locs ls hi87 hn87; exact absurd hn87 (Nat.not_lt_zero _)
                        | succ n87 ih87 =>
                          intro k87 d20 d21 H locs ls hi87 hn87 hd_d20 hd_d21 hdy hl
                          refine lv_iload hx hb zd_N_remain_87 (lv_at hl 0 rfl) ?_
                          refine lv_if_le (tgt := 114) hx hb zd_N_remain_89 (by decide) (fun hc89 => ?_) (fun hc89 => ?_)
                          · have hc89 : k87 ≤ 0 := (nI_leI (by omega) (by omega)).mp (by rw [nI_0]; exact hc89)
                            refine lv_aload_n hx hb zd_N_remain_114 rfl (lv_at hl 4 rfl) ?_
                            refine va_get (D := (dC, dI)) (ci := 4) (v := .ref me) (C := zR_N) (T := zT_N) (N := 26) hx hb hts (fun w h => kz_c (zi_N w h)) hown hK (hro.ob hdy.2.2 (k := 0) rfl) 0 rfl rfl 14 (by decide) (hts _ (kz_c mw_605)) (fun _ h9 => h9) rfl zd_N_remain_115 ?_
                            refine lv_iconst (v := (nI (0))) hx hb zd_N_remain_118 (by decide) ?_
                            refine lv_aload_n hx hb zd_N_remain_119 rfl (lv_at hl 4 rfl) ?_
                            refine va_get (D := (dC, dI)) (ci := 4) (v := .ref mx) (C := zR_N) (T := zT_N) (N := 26) hx hb hts (fun w h => kz_c (zi_N w h)) hown hK (hro.ob hdy.2.2 (k := 0) rfl) 0 rfl rfl 13 (by decide) (hts _ (kz_c mw_604)) (fun _ h9 => h9) rfl zd_N_remain_120 ?_
                            refine lv_iload hx hb zd_N_remain_123 (lv_at hl 1 rfl) ?_
                            refine kz_riald hx hb hK hro hdy.2.2 2 0 rfl rfl (vp_in_nI (by omega) (by omega)) zd_N_remain_125 ?_
                            refine lv_topi (fun x22 h9 => ?_)
                            obtain rfl : x22 = nI (gmx k78p) := h9.trans (kz_dgl gmx (by omega))
                            have hbx22 := hd_gmx k78p
                            refine va_iast hx hb hK hdy.1 hdy.2.1 hdy.2.2 0 0 rfl rfl (vp_in_nI (by omega) (by omega)) zd_N_remain_126 (fun H locs hP hD hS => ?_)
                            have h9 := kz_dgu d20 (k := 0) (gmx k78p) (by omega)
                            rw [h9] at hP hD
                            obtain ⟨f23, ef23, hd_f23, hdy⟩ : ∃ f23 : Nat → Nat, f23 = kv_up d20 0 (gmx k78p) ∧ (∀ j, f23 j < 65536) ∧ kz_dy (dC, dI) vwCl A s.heap H locs [(me, .inl (cI, 18, .inl (kz_dg f23))), (t, .inl (cI, 16, .inl (kz_dg d21)))] := ⟨_, rfl, kv_up_lt hd_d20 (by omega), hP, hD, hS⟩
                            have lp127 : ∀ (n127 : Nat) (d24 : Nat → Nat) (d25 : Nat → Nat) (H : Heap) (locs : List Loc) (ls : Array Slot), kv_val d24 18 < n127 → (∀ j, d24 j < 65536) → (∀ j, d25 j < 65536) → kz_dy (dC, dI) vwCl A s.heap H locs [(me, .inl (cI, 18, .inl (kz_dg d24))), (t, .inl (cI, 16, .inl (kz_dg d25)))] → lv_has ls 13 [(5, .int (nI (k78p))), (3, .long (kz_lz (z10))), (2, .int (nI (k3))), (0, .ref o), (1, .ref t)] → W p l e { frames := 1, cells := 0, slots := 0, locals := 23 } s m ([.ref o, .ref t] : List Value).toArray below meth c H locs 0 0 (MQ below (va_Qv (fun (u : (Nat → Nat) × (Nat → Nat)) => (∀ j, u.1 j < 65536) ∧ (∀ j, u.2 j < 65536) ∧ True) (kz_B (dC, dI) vwCl A (fun u : (Nat → Nat) × (Nat → Nat) => [(me, .inl (cI, 18, .inl (kz_dg u.1))), (t, .inl (cI, 16, .inl (kz_dg u.2)))])) A) ([.ref o, .ref t] : List Value).toArray s 0 0 A) (F0 m 127 ls []) := by
                              intro n127
                              induction n127 with
                              | zero => intro d24 d25 H locs ls hn127; exact absurd hn127 (Nat.not_lt_zero _)
                              | succ n127 ih127 =>
                                intro d24 d25 H locs ls hn127 hd_d24 hd_d25 hdy hl
                                refine lv_aload_n hx hb zd_N_remain_127 rfl (lv_at hl 3 rfl) ?_
                                refine lv_iload_n hx hb zd_N_remain_128 rfl (lv_at hl 2 rfl) ?_
                                refine kz_calli (wk := [(me, .inl (cI, 18, .inl (kz_dg d24))), (t, .inl (cI, 16, .inl (kz_dg d25)))]) (va_runV (As := [.int (nI (k3))]) (rest := []) ⟨hx, hb, hml, hown, hts⟩ (c_Y_isLess l dC dI cI cAA cB cL o mt mn ml mc mh mk mp mm mb mw mr mx me mP mQ ms mo mW mD mB mR mS (th) (sta) (hs) sz_ gmm d24 ((nI (k3))) _ hd_gmm hd_d24) (cwV 1 hts (kz_g (kz_mc mw_733 (kz_mc mw_735 (kz_mc mw_28 (kz_mc mw_43 kz_mn)))) mw_736) rfl rfl rfl (by decide +kernel) ⟨Nat.le_of_ble_eq_true rfl, Nat.le_of_ble_eq_true rfl⟩) (kz_preVr hdy hA hK hro hZ hN [] (by decide) rfl [(true, 0), (true, 1), (false, 0)] rfl (by decide) [0, 1, 2, 3] rfl (fun _ h => by cases h) (fun _ h => by cases h) rfl (ci := 4) (q0 := 0) rfl rfl rfl) rfl rfl hl.1 rfl (lv_room (Nat.le_of_ble_eq_true rfl)) zd_N_remain_129 ⟨Nat.le_of_ble_eq_true rfl, Nat.le_of_ble_eq_true rfl⟩) hdy hA [] [0, 1] rfl rfl (by decide) (by decide) (fun r u H locs hw hdy => ?_)
                                obtain ⟨r26, rfl⟩ : ∃ z, z = r := ⟨_, rfl⟩
                                try dsimp only at hw
                                obtain ⟨hzr26, q27, -⟩ := hw
                                have hdy : kz_dy (dC, dI) vwCl A s.heap H locs [(me, .inl (cI, 18, .inl (kz_dg d24))), (t, .inl (cI, 16, .inl (kz_dg d25)))] := hdy.sub [0, 1] (by decide) rfl
                                refine lv_if_ne (tgt := 280) hx hb zd_N_remain_132 (by decide) (fun hc132 => ?_) (fun hc132 => ?_)
                                · refine lv_iinc (v := (nI (k78p) - 1)) (lv' := [(5, .int (nI (k78p) - 1)), (3, .long (kz_lz (z10))), (2, .int (nI (k3))), (0, .ref o), (1, .ref t)]) hx hb zd_N_remain_280 hl (k := 0) rfl (kz_m1 _) (by decide) rfl (fun ls hl => ?_)
                                  refine lv_goto (tgt := 78) hx hb zd_N_remain_283 (by decide) ?_
                                  exact ih78 k78p d24 d25 _ _ _ (by omega) (by omega) hd_d24 hd_d25 hdy (lv_sub hl [0, 1, 2, 3, 4] rfl)
                                · refine lv_ldc2 (v := (65536)) hx hb hown (hts _ (kz_c mw_709)) zd_N_remain_135 ?_
                                  refine lv_topl (fun yl28 h9 => ?_)
                                  obtain rfl : yl28 = kz_lz (65536) := h9.trans (kz_lz_c65536)
                                  refine lv_ldc2 (v := (65536)) hx hb hown (hts _ (kz_c mw_709)) zd_N_remain_138 ?_
                                  refine lv_topl (fun yl29 h9 => ?_)
                                  obtain rfl : yl29 = kz_lz (65536) := h9.trans (kz_lz_c65536)
                                  refine lv_aload_n hx hb zd_N_remain_141 rfl (lv_at hl 3 rfl) ?_
                                  refine va_get (D := (dC, dI)) (ci := 4) (v := .ref me) (C := zR_N) (T := zT_N) (N := 26) hx hb hts (fun w h => kz_c (zi_N w h)) hown hK (hro.ob hdy.2.2 (k := 0) rfl) 0 rfl rfl 14 (by decide) (hts _ (kz_c mw_605)) (fun _ h9 => h9) rfl zd_N_remain_142 ?_
                                  refine lv_iload_n hx hb zd_N_remain_145 rfl (lv_at hl 2 rfl) ?_
                                  refine lv_iconst (v := (nI (1))) hx hb zd_N_remain_146 (by decide) ?_
                                  refine kz_iadd hx hb zd_N_remain_147 (nI_add _ _) ?_
                                  refine va_iald hx hb hK hdy.1 0 0 rfl rfl (vp_in_nI (by omega) (by omega)) zd_N_remain_148 ?_
                                  refine lv_topi (fun x30 h9 => ?_)
                                  obtain rfl : x30 = nI (d24 (k3 + 1)) := h9.trans (kz_dgl d24 (by omega))
                                  have hbx30 := hd_d24 (k3 + 1)
                                  refine lv_i2l hx hb zd_N_remain_149 (kz_lz_i (n := d24 (k3 + 1)) (by omega)) ?_
                                  refine lv_lmul hx hb zd_N_remain_150 ?_
                                  refine lv_topl (fun yl31 h9 => ?_)
                                  obtain rfl : yl31 = kz_lz (65536 * (((d24 (k3 + 1) : Nat) : Int))) := h9.trans (kz_lz_mul _ _)
                                  refine lv_aload_n hx hb zd_N_remain_151 rfl (lv_at hl 3 rfl) ?_
                                  refine va_get (D := (dC, dI)) (ci := 4) (v := .ref me) (C := zR_N) (T := zT_N) (N := 26) hx hb hts (fun w h => kz_c (zi_N w h)) hown hK (hro.ob hdy.2.2 (k := 0) rfl) 0 rfl rfl 14 (by decide) (hts _ (kz_c mw_605)) (fun _ h9 => h9) rfl zd_N_remain_152 ?_
                                  refine lv_iload_n hx hb zd_N_remain_155 rfl (lv_at hl 2 rfl) ?_
                                  refine va_iald hx hb hK hdy.1 0 0 rfl rfl (vp_in_nI (by omega) (by omega)) zd_N_remain_156 ?_
                                  refine lv_topi (fun x32 h9 => ?_)
                                  obtain rfl : x32 = nI (d24 k3) := h9.trans (kz_dgl d24 (by omega))
                                  have hbx32 := hd_d24 k3
                                  refine lv_i2l hx hb zd_N_remain_157 (kz_lz_i (n := d24 k3) (by omega)) ?_
                                  refine lv_ladd hx hb zd_N_remain_158 ?_
                                  refine lv_topl (fun yl33 h9 => ?_)
                                  obtain rfl : yl33 = kz_lz ((65536 * (((d24 (k3 + 1) : Nat) : Int))) + (((d24 k3 : Nat) : Int))) := h9.trans (kz_lz_add _ _)
                                  refine lv_lmul hx hb zd_N_remain_159 ?_
                                  refine lv_topl (fun yl34 h9 => ?_)
                                  obtain rfl : yl34 = kz_lz (65536 * ((65536 * (((d24 (k3 + 1) : Nat) : Int))) + (((d24 k3 : Nat) : Int)))) := h9.trans (kz_lz_mul _ _)
                                  refine lv_iload_n hx hb zd_N_remain_160 rfl (lv_at hl 2 rfl) ?_
                                  refine lv_if_le (tgt := 175) hx hb zd_N_remain_161 (by decide) (fun hc161 => ?_) (fun hc161 => ?_)
                                  · have hc161 : k3 ≤ 0 := (nI_leI (by omega) (by omega)).mp (by rw [nI_0]; exact hc161)
                                    refine lv_iconst (v := (nI (0))) hx hb zd_N_remain_175 (by decide) ?_
                                    refine lv_i2l hx hb zd_N_remain_176 (kz_lz_i (n := 0) (by omega)) ?_
                                    refine lv_ladd hx hb zd_N_remain_177 ?_
                                    refine lv_topl (fun yl35 h9 => ?_)
                                    obtain rfl : yl35 = kz_lz ((65536 * ((65536 * (((d24 (k3 + 1) : Nat) : Int))) + (((d24 k3 : Nat) : Int)))) + (((0 : Nat) : Int))) := h9.trans (kz_lz_add _ _)
                                    refine lv_topl (fun yl37 h9 => ?_)
                                    obtain ⟨z36, ez36, rfl⟩ : ∃ z : Int, z = (65536 * ((65536 * (((d24 (k3 + 1) : Nat) : Int))) + (((d24 k3 : Nat) : Int)))) + (((0 : Nat) : Int)) ∧ yl37 = kz_lz z := ⟨_, rfl, h9⟩
                                    refine lv_lstore (lv' := [(6, .long (kz_lz (z36))), (5, .int (nI (k78p))), (3, .long (kz_lz (z10))), (2, .int (nI (k3))), (0, .ref o), (1, .ref t)]) hx hb zd_N_remain_178 hl (by decide) rfl (fun ls hl => ?_)
                                    refine lv_lload hx hb zd_N_remain_180 (lv_at hl 0 rfl) ?_
                                    refine lv_lload_n hx hb zd_N_remain_182 rfl (lv_at hl 2 rfl) ?_
                                    refine lv_ldiv hx hb zd_N_remain_183 (kz_lz_ne0 (by omega) (by omega)) ?_
                                    refine lv_topl (fun yl38 h9 => ?_)
                                    obtain rfl : yl38 = kz_lz (z36 / z10) := h9.trans (kz_lz_divz (by omega) (by omega) (by omega) (by omega))
                                    refine lv_topl (fun yl40 h9 => ?_)
                                    obtain ⟨z39, ez39, rfl⟩ : ∃ z : Int, z = z36 / z10 ∧ yl40 = kz_lz z := ⟨_, rfl, h9⟩
                                    refine lv_lstore (lv' := [(8, .long (kz_lz (z39))), (6, .long (kz_lz (z36))), (5, .int (nI (k78p))), (3, .long (kz_lz (z10))), (2, .int (nI (k3))), (0, .ref o), (1, .ref t)]) hx hb zd_N_remain_184 hl (by decide) rfl (fun ls hl => ?_)
                                    have hqz : 0 ≤ z39 ∧ z39 < 4294967296 ∧ z39.toNat * kv_val (kv_m18 gmm) 18 ≤ kv_val d24 18 := by first | exact kv_qZ1 hd_gmm hd_d24 (by omega) (by omega) (by omega) htz ez10 ez36 ez39 | (exfalso; omega) | (obtain rfl : k3 = 0 := (by omega); exact kv_qZ0 hd_gmm hd_d24 (by omega) htz ez10 ez36 ez39)
                                    obtain ⟨hq0, hq1, hq2⟩ := hqz
                                    refine lv_lload hx hb zd_N_remain_186 (lv_at hl 0 rfl) ?_
                                    refine lv_lconst (v := 1) hx hb zd_N_remain_188 (by decide) ?_
                                    refine lv_topl (fun yl41 h9 => ?_)
                                    obtain rfl : yl41 = kz_lz (1) := h9.trans (kz_lz_c1)
                                    refine kz_lge (tgt := 197) hx hb zd_N_remain_189 zd_N_remain_190 (by decide) (fun hc190 => ?_) (fun hc190 => ?_)
                                    · have hc190 : ¬ z39 < 1 := fun h9 => hc190 ((kz_lz_lt (by omega) (by omega) (by omega) (by omega)).mpr h9)
                                      refine lv_lload hx hb zd_N_remain_197 (lv_at hl 0 rfl) ?_
                                      refine lv_lstore (lv' := [(8, .long (kz_lz (z39))), (6, .long (kz_lz (z36))), (5, .int (nI (k78p))), (3, .long (kz_lz (z10))), (2, .int (nI (k3))), (0, .ref o), (1, .ref t)]) hx hb zd_N_remain_199 hl (by decide) rfl (fun ls hl => ?_)
                                      have hQ0 : 1 ≤ z39 := by omega
                                      have hQ1 : z39 < 4294967296 := by omega
                                      have hQ2 : z39.toNat * kv_val (kv_m18 gmm) 18 ≤ kv_val d24 18 := hq2
                                      refine lv_lconst (v := 0) hx hb zd_N_remain_201 (by decide) ?_
                                      refine lv_topl (fun yl42 h9 => ?_)
                                      obtain rfl : yl42 = kz_lz (0) := h9.trans (kz_lz_c0)
                                      refine lv_topl (fun yl44 h9 => ?_)
                                      obtain ⟨z43, ez43, rfl⟩ : ∃ z : Int, z = 0 ∧ yl44 = kz_lz z := ⟨_, rfl, h9⟩
                                      refine lv_lstore (lv' := [(10, .long (kz_lz (z43))), (8, .long (kz_lz (z39))), (6, .long (kz_lz (z36))), (5, .int (nI (k78p))), (3, .long (kz_lz (z10))), (2, .int (nI (k3))), (0, .ref o), (1, .ref t)]) hx hb zd_N_remain_202 hl (by decide) rfl (fun ls hl => ?_)
                                      refine lv_iconst (v := (nI (0))) hx hb zd_N_remain_204 (by decide) ?_
                                      refine lv_istore (lv' := [(12, .int (nI (0))), (10, .long (kz_lz (z43))), (8, .long (kz_lz (z39))), (6, .long (kz_lz (z36))), (5, .int (nI (k78p))), (3, .long (kz_lz (z10))), (2, .int (nI (k3))), (0, .ref o), (1, .ref t)]) hx hb zd_N_remain_205 hl (by decide) rfl (fun ls hl => ?_)
                                      have lp207 : ∀ (n207 k207 : Nat) (z45 : Int) (d46 : Nat → Nat) (d47 : Nat → Nat) (H : Heap) (locs : List Loc) (ls : Array Slot), k207 ≤ 18 → 18 - k207 < n207 → (∀ j, d46 j < 65536) → (∀ j, d47 j < 65536) → (-8589934592 ≤ z45) → (z45 ≤ 1) → (((kv_val d46 (k207) : Nat) : Int) + z45 * (65536 : Int) ^ (k207) = ((kv_val d24 (k207) : Nat) : Int) - z39 * ((kv_val (kv_m18 gmm) (k207) : Nat) : Int)) → (∀ j, k207 ≤ j → d46 j = d24 j) → kz_dy (dC, dI) vwCl A s.heap H locs [(me, .inl (cI, 18, .inl (kz_dg d46))), (t, .inl (cI, 16, .inl (kz_dg d47)))] → lv_has ls 13 [(12, .int (nI (k207))), (10, .long (kz_lz (z45))), (8, .long (kz_lz (z39))), (6, .long (kz_lz (z36))), (5, .int (nI (k78p))), (3, .long (kz_lz (z10))), (2, .int (nI (k3))), (0, .ref o), (1, .ref t)] → W p l e { frames := 1, cells := 0, slots := 0, locals := 23 } s m ([.ref o, .ref t] : List Value).toArray below meth c H locs 0 0 (MQ below (va_Qv (fun (u : (Nat → Nat) × (Nat → Nat)) => (∀ j, u.1 j < 65536) ∧ (∀ j, u.2 j < 65536) ∧ True) (kz_B (dC, dI) vwCl A (fun u : (Nat → Nat) × (Nat → Nat) => [(me, .inl (cI, 18, .inl (kz_dg u.1))), (t, .inl (cI, 16, .inl (kz_dg u.2)))])) A) ([.ref o, .ref t] : List Value).toArray s 0 0 A) (F0 m 207 ls []) := by
                                        intro n207
                                        induction n207 with
                                        | zero => intro k207; intros; omega
                                        | succ n207 ih207 =>
                                          intro k207 z45 d46 d47 H locs ls hi207 hn207 hd_d46 hd_d47 hlo hhi hI hge hdy hl
                                          refine lv_iload hx hb zd_N_remain_207 (lv_at hl 0 rfl) ?_
                                          refine lv_bipush (v := (nI (18))) hx hb zd_N_remain_209 (by decide) ?_
                                          refine lv_icmp_ge (tgt := 277) hx hb zd_N_remain_211 (by decide) (fun hc211 => ?_) (fun hc211 => ?_)
                                          · have hc211 : 18 ≤ k207 := (nI_leI (by omega) (by omega)).mp hc211
                                            refine lv_goto (tgt := 127) hx hb zd_N_remain_277 (by decide) ?_
                                            have hms127 : kv_val d46 18 < n127 := by have h18 : k207 = 18 := (by omega); subst h18; have h8 := kv_subEnd (q := z39.toNat) hd_d46 hd_d24 (by omega) hmv hQ2 (by have h7 : ((z39.toNat : Nat) : Int) = z39 := (by omega); rw [h7]; exact hI); omega
                                            exact ih127 d46 d47 _ _ _ hms127 hd_d46 hd_d47 hdy (lv_sub hl [4, 5, 6, 7, 8] rfl)
                                          · have hc211 : ¬ 18 ≤ k207 := fun h9 => hc211 ((nI_leI (by omega) (by omega)).mpr h9)
                                            refine lv_lload hx hb zd_N_remain_214 (lv_at hl 1 rfl) ?_
                                            refine lv_aload_n hx hb zd_N_remain_216 rfl (lv_at hl 7 rfl) ?_
                                            refine va_get (D := (dC, dI)) (ci := 4) (v := .ref me) (C := zR_N) (T := zT_N) (N := 26) hx hb hts (fun w h => kz_c (zi_N w h)) hown hK (hro.ob hdy.2.2 (k := 0) rfl) 0 rfl rfl 14 (by decide) (hts _ (kz_c mw_605)) (fun _ h9 => h9) rfl zd_N_remain_217 ?_
                                            refine lv_iload hx hb zd_N_remain_220 (lv_at hl 0 rfl) ?_
                                            refine va_iald hx hb hK hdy.1 0 0 rfl rfl (vp_in_nI (by omega) (by omega)) zd_N_remain_222 ?_
                                            refine lv_topi (fun x48 h9 => ?_)
                                            obtain rfl : x48 = nI (d46 k207) := h9.trans (kz_dgl d46 (by omega))
                                            have hbx48 := hd_d46 k207
                                            refine lv_i2l hx hb zd_N_remain_223 (kz_lz_i (n := d46 k207) (by omega)) ?_
                                            refine lv_ladd hx hb zd_N_remain_224 ?_
                                            refine lv_topl (fun yl49 h9 => ?_)
                                            obtain rfl : yl49 = kz_lz (z45 + (((d46 k207 : Nat) : Int))) := h9.trans (kz_lz_add _ _)
                                            refine lv_iload hx hb zd_N_remain_225 (lv_at hl 0 rfl) ?_
                                            refine lv_bipush (v := (nI (16))) hx hb zd_N_remain_227 (by decide) ?_
                                            refine lv_icmp_ge (tgt := 246) hx hb zd_N_remain_229 (by decide) (fun hc229 => ?_) (fun hc229 => ?_)
                                            · have hc229 : 16 ≤ k207 := (nI_leI (by omega) (by omega)).mp hc229
                                              refine lv_lconst (v := 0) hx hb zd_N_remain_246 (by decide) ?_
                                              refine lv_topl (fun yl50 h9 => ?_)
                                              obtain rfl : yl50 = kz_lz (0) := h9.trans (kz_lz_c0)
                                              refine lv_lsub hx hb zd_N_remain_247 ?_
                                              refine lv_topl (fun yl51 h9 => ?_)
                                              obtain rfl : yl51 = kz_lz ((z45 + (((d46 k207 : Nat) : Int))) - 0) := h9.trans (kz_lz_sub _ _)
                                              refine lv_topl (fun yl53 h9 => ?_)
                                              obtain ⟨z52, ez52, rfl⟩ : ∃ z : Int, z = (z45 + (((d46 k207 : Nat) : Int))) - 0 ∧ yl53 = kz_lz z := ⟨_, rfl, h9⟩
                                              refine lv_lstore (lv' := [(10, .long (kz_lz (z52))), (12, .int (nI (k207))), (8, .long (kz_lz (z39))), (6, .long (kz_lz (z36))), (5, .int (nI (k78p))), (3, .long (kz_lz (z10))), (2, .int (nI (k3))), (0, .ref o), (1, .ref t)]) hx hb zd_N_remain_248 hl (by decide) rfl (fun ls hl => ?_)
                                              have hm9 := kv_qm (q := z39) (by omega) hQ1 (hd_gmm k207)
                                              have ht9 : z52 = z45 + ((d24 k207 : Nat) : Int) - z39 * ((kv_m18 gmm k207 : Nat) : Int) := by rw [ez52, ← hge k207 (Nat.le_refl _)]; unfold kv_m18; first | (rw [if_pos (by omega)]; done) | (rw [if_neg (by omega)]; show _ = _ - z39 * 0; omega)
                                              refine lv_aload_n hx hb zd_N_remain_250 rfl (lv_at hl 7 rfl) ?_
                                              refine va_get (D := (dC, dI)) (ci := 4) (v := .ref me) (C := zR_N) (T := zT_N) (N := 26) hx hb hts (fun w h => kz_c (zi_N w h)) hown hK (hro.ob hdy.2.2 (k := 0) rfl) 0 rfl rfl 14 (by decide) (hts _ (kz_c mw_605)) (fun _ h9 => h9) rfl zd_N_remain_251 ?_
                                              refine lv_iload hx hb zd_N_remain_254 (lv_at hl 1 rfl) ?_
                                              refine lv_lload hx hb zd_N_remain_256 (lv_at hl 0 rfl) ?_
                                              refine lv_ldc2 (v := (65535)) hx hb hown (hts _ (kz_c mw_708)) zd_N_remain_258 ?_
                                              refine lv_topl (fun yl54 h9 => ?_)
                                              obtain rfl : yl54 = kz_lz (65535) := h9.trans (kz_lz_c65535)
                                              refine lv_land hx hb zd_N_remain_261 ?_
                                              refine lv_topl (fun yl55 h9 => ?_)
                                              obtain rfl : yl55 = kz_lz (z52 % 65536) := h9.trans (kz_lz_andz _)
                                              refine lv_l2i hx hb zd_N_remain_262 (kz_lz_i16 (z52)) ?_
                                              refine va_iast hx hb hK hdy.1 hdy.2.1 hdy.2.2 0 0 rfl rfl (vp_in_nI (by omega) (by omega)) zd_N_remain_263 (fun H locs hP hD hS => ?_)
                                              have h9 := kz_dgu d46 (k := k207) ((z52 % 65536).toNat) (by omega)
                                              rw [h9] at hP hD
                                              obtain ⟨f56, ef56, hd_f56, hdy⟩ : ∃ f56 : Nat → Nat, f56 = kv_up d46 k207 ((z52 % 65536).toNat) ∧ (∀ j, f56 j < 65536) ∧ kz_dy (dC, dI) vwCl A s.heap H locs [(me, .inl (cI, 18, .inl (kz_dg f56))), (t, .inl (cI, 16, .inl (kz_dg d47)))] := ⟨_, rfl, kv_up_lt hd_d46 (by omega), hP, hD, hS⟩
                                              refine lv_lload hx hb zd_N_remain_264 (lv_at hl 0 rfl) ?_
                                              refine lv_bipush (v := (nI (16))) hx hb zd_N_remain_266 (by decide) ?_
                                              refine lv_lshr hx hb zd_N_remain_268 (kz_lz_shr (z := z52) (by omega) (by omega)) ?_
                                              refine lv_topl (fun yl58 h9 => ?_)
                                              obtain ⟨z57, ez57, rfl⟩ : ∃ z : Int, z = z52 / 65536 ∧ yl58 = kz_lz z := ⟨_, rfl, h9⟩
                                              refine lv_lstore (lv' := [(10, .long (kz_lz (z57))), (12, .int (nI (k207))), (8, .long (kz_lz (z39))), (6, .long (kz_lz (z36))), (5, .int (nI (k78p))), (3, .long (kz_lz (z10))), (2, .int (nI (k3))), (0, .ref o), (1, .ref t)]) hx hb zd_N_remain_269 hl (by decide) rfl (fun ls hl => ?_)
                                              refine lv_iinc (v := (nI (k207 + 1))) (lv' := [(12, .int (nI (k207 + 1))), (10, .long (kz_lz (z57))), (8, .long (kz_lz (z39))), (6, .long (kz_lz (z36))), (5, .int (nI (k78p))), (3, .long (kz_lz (z10))), (2, .int (nI (k3))), (0, .ref o), (1, .ref t)]) hx hb zd_N_remain_271 hl (k := 1) rfl (nI_1 _) (by decide) rfl (fun ls hl => ?_)
                                              refine lv_goto (tgt := 207) hx hb zd_N_remain_274 (by decide) ?_
                                              have hi9_hlo59 : -8589934592 ≤ z57 := by omega
                                              have hi9_hhi60 : z57 ≤ 1 := by omega
                                              have hi9_hI61 : ((kv_val f56 (k207 + 1) : Nat) : Int) + z57 * (65536 : Int) ^ (k207 + 1) = ((kv_val d24 (k207 + 1) : Nat) : Int) - z39 * ((kv_val (kv_m18 gmm) (k207 + 1) : Nat) : Int) := by rw [ef56, ez57]; exact kv_subStep hI ht9
                                              have hi9_hge62 : ∀ j, k207 + 1 ≤ j → f56 j = d24 j := by intro j hj; rw [ef56, kv_up_ne _ _ (by omega)]; exact hge j (by omega)
                                              exact ih207 (k207 + 1) (z57) f56 d47 _ _ _ (by omega) (by omega) hd_f56 hd_d47 hi9_hlo59 hi9_hhi60 hi9_hI61 hi9_hge62 hdy (lv_sub hl [0, 1, 2, 3, 4, 5, 6, 7, 8] rfl)
                                            · have hc229 : ¬ 16 ≤ k207 := fun h9 => hc229 ((nI_leI (by omega) (by omega)).mpr h9)
                                              refine lv_lload hx hb zd_N_remain_232 (lv_at hl 2 rfl) ?_
                                              refine lv_aload_n hx hb zd_N_remain_234 rfl (lv_at hl 7 rfl) ?_
                                              refine va_get (D := (dC, dI)) (ci := 4) (v := .ref mm) (C := zR_N) (T := zT_N) (N := 26) hx hb hts (fun w h => kz_c (zi_N w h)) hown hK (hro.ob hdy.2.2 (k := 0) rfl) 0 rfl rfl 9 (by decide) (hts _ (kz_c mw_600)) (fun _ h9 => h9) rfl zd_N_remain_235 ?_
                                              refine lv_iload hx hb zd_N_remain_238 (lv_at hl 0 rfl) ?_
                                              refine kz_riald hx hb hK hro hdy.2.2 1 0 rfl rfl (vp_in_nI (by omega) (by omega)) zd_N_remain_240 ?_
                                              refine lv_topi (fun x63 h9 => ?_)
                                              obtain rfl : x63 = nI (gmm k207) := h9.trans (kz_dgl gmm (by omega))
                                              have hbx63 := hd_gmm k207
                                              refine lv_i2l hx hb zd_N_remain_241 (kz_lz_i (n := gmm k207) (by omega)) ?_
                                              refine lv_lmul hx hb zd_N_remain_242 ?_
                                              refine lv_topl (fun yl64 h9 => ?_)
                                              obtain rfl : yl64 = kz_lz (z39 * (((gmm k207 : Nat) : Int))) := h9.trans (kz_lz_mul _ _)
                                              refine lv_goto (tgt := 247) hx hb zd_N_remain_243 (by decide) ?_
                                              refine lv_lsub hx hb zd_N_remain_247 ?_
                                              refine lv_topl (fun yl65 h9 => ?_)
                                              obtain rfl : yl65 = kz_lz ((z45 + (((d46 k207 : Nat) : Int))) - (z39 * (((gmm k207 : Nat) : Int)))) := h9.trans (kz_lz_sub _ _)
                                              refine lv_topl (fun yl67 h9 => ?_)
                                              obtain ⟨z66, ez66, rfl⟩ : ∃ z : Int, z = (z45 + (((d46 k207 : Nat) : Int))) - (z39 * (((gmm k207 : Nat) : Int))) ∧ yl67 = kz_lz z := ⟨_, rfl, h9⟩
                                              refine lv_lstore (lv' := [(10, .long (kz_lz (z66))), (12, .int (nI (k207))), (8, .long (kz_lz (z39))), (6, .long (kz_lz (z36))), (5, .int (nI (k78p))), (3, .long (kz_lz (z10))), (2, .int (nI (k3))), (0, .ref o), (1, .ref t)]) hx hb zd_N_remain_248 hl (by decide) rfl (fun ls hl => ?_)
                                              have hm9 := kv_qm (q := z39) (by omega) hQ1 (hd_gmm k207)
                                              have ht9 : z66 = z45 + ((d24 k207 : Nat) : Int) - z39 * ((kv_m18 gmm k207 : Nat) : Int) := by rw [ez66, ← hge k207 (Nat.le_refl _)]; unfold kv_m18; first | (rw [if_pos (by omega)]; done) | (rw [if_neg (by omega)]; show _ = _ - z39 * 0; omega)
                                              refine lv_aload_n hx hb zd_N_remain_250 rfl (lv_at hl 7 rfl) ?_
                                              refine va_get (D := (dC, dI)) (ci := 4) (v := .ref me) (C := zR_N) (T := zT_N) (N := 26) hx hb hts (fun w h => kz_c (zi_N w h)) hown hK (hro.ob hdy.2.2 (k := 0) rfl) 0 rfl rfl 14 (by decide) (hts _ (kz_c mw_605)) (fun _ h9 => h9) rfl zd_N_remain_251 ?_
                                              refine lv_iload hx hb zd_N_remain_254 (lv_at hl 1 rfl) ?_
                                              refine lv_lload hx hb zd_N_remain_256 (lv_at hl 0 rfl) ?_
                                              refine lv_ldc2 (v := (65535)) hx hb hown (hts _ (kz_c mw_708)) zd_N_remain_258 ?_
                                              refine lv_topl (fun yl68 h9 => ?_)
                                              obtain rfl : yl68 = kz_lz (65535) := h9.trans (kz_lz_c65535)
                                              refine lv_land hx hb zd_N_remain_261 ?_
                                              refine lv_topl (fun yl69 h9 => ?_)
                                              obtain rfl : yl69 = kz_lz (z66 % 65536) := h9.trans (kz_lz_andz _)
                                              refine lv_l2i hx hb zd_N_remain_262 (kz_lz_i16 (z66)) ?_
                                              refine va_iast hx hb hK hdy.1 hdy.2.1 hdy.2.2 0 0 rfl rfl (vp_in_nI (by omega) (by omega)) zd_N_remain_263 (fun H locs hP hD hS => ?_)
                                              have h9 := kz_dgu d46 (k := k207) ((z66 % 65536).toNat) (by omega)
                                              rw [h9] at hP hD
                                              obtain ⟨f70, ef70, hd_f70, hdy⟩ : ∃ f70 : Nat → Nat, f70 = kv_up d46 k207 ((z66 % 65536).toNat) ∧ (∀ j, f70 j < 65536) ∧ kz_dy (dC, dI) vwCl A s.heap H locs [(me, .inl (cI, 18, .inl (kz_dg f70))), (t, .inl (cI, 16, .inl (kz_dg d47)))] := ⟨_, rfl, kv_up_lt hd_d46 (by omega), hP, hD, hS⟩
                                              refine lv_lload hx hb zd_N_remain_264 (lv_at hl 0 rfl) ?_
                                              refine lv_bipush (v := (nI (16))) hx hb zd_N_remain_266 (by decide) ?_
                                              refine lv_lshr hx hb zd_N_remain_268 (kz_lz_shr (z := z66) (by omega) (by omega)) ?_
                                              refine lv_topl (fun yl72 h9 => ?_)
                                              obtain ⟨z71, ez71, rfl⟩ : ∃ z : Int, z = z66 / 65536 ∧ yl72 = kz_lz z := ⟨_, rfl, h9⟩
                                              refine lv_lstore (lv' := [(10, .long (kz_lz (z71))), (12, .int (nI (k207))), (8, .long (kz_lz (z39))), (6, .long (kz_lz (z36))), (5, .int (nI (k78p))), (3, .long (kz_lz (z10))), (2, .int (nI (k3))), (0, .ref o), (1, .ref t)]) hx hb zd_N_remain_269 hl (by decide) rfl (fun ls hl => ?_)
                                              refine lv_iinc (v := (nI (k207 + 1))) (lv' := [(12, .int (nI (k207 + 1))), (10, .long (kz_lz (z71))), (8, .long (kz_lz (z39))), (6, .long (kz_lz (z36))), (5, .int (nI (k78p))), (3, .long (kz_lz (z10))), (2, .int (nI (k3))), (0, .ref o), (1, .ref t)]) hx hb zd_N_remain_271 hl (k := 1) rfl (nI_1 _) (by decide) rfl (fun ls hl => ?_)
                                              refine lv_goto (tgt := 207) hx hb zd_N_remain_274 (by decide) ?_
                                              have hi9_hlo73 : -8589934592 ≤ z71 := by omega
                                              have hi9_hhi74 : z71 ≤ 1 := by omega
                                              have hi9_hI75 : ((kv_val f70 (k207 + 1) : Nat) : Int) + z71 * (65536 : Int) ^ (k207 + 1) = ((kv_val d24 (k207 + 1) : Nat) : Int) - z39 * ((kv_val (kv_m18 gmm) (k207 + 1) : Nat) : Int) := by rw [ef70, ez71]; exact kv_subStep hI ht9
                                              have hi9_hge76 : ∀ j, k207 + 1 ≤ j → f70 j = d24 j := by intro j hj; rw [ef70, kv_up_ne _ _ (by omega)]; exact hge j (by omega)
                                              exact ih207 (k207 + 1) (z71) f70 d47 _ _ _ (by omega) (by omega) hd_f70 hd_d47 hi9_hlo73 hi9_hhi74 hi9_hI75 hi9_hge76 hdy (lv_sub hl [0, 1, 2, 3, 4, 5, 6, 7, 8] rfl)
                                      have hi9_hlo77 : -8589934592 ≤ z43 := by omega
                                      have hi9_hhi78 : z43 ≤ 1 := by omega
                                      have hi9_hI79 : ((kv_val d24 (0) : Nat) : Int) + z43 * (65536 : Int) ^ (0) = ((kv_val d24 (0) : Nat) : Int) - z39 * ((kv_val (kv_m18 gmm) (0) : Nat) : Int) := by rw [ez43]; show (0 : Int) + 0 * _ = 0 - z39 * 0; omega
                                      have hi9_hge80 : ∀ j, 0 ≤ j → d24 j = d24 j := by exact fun _ _ => rfl
                                      exact lp207 (18 - 0 + 1) 0 (z43) d24 d25 _ _ _ (by omega) (by omega) hd_d24 hd_d25 hi9_hlo77 hi9_hhi78 hi9_hI79 hi9_hge80 hdy (lv_sub hl [0, 1, 2, 3, 4, 5, 6, 7, 8] rfl)
                                    · have hc190 : z39 < 1 := (kz_lz_lt (by omega) (by omega) (by omega) (by omega)).mp hc190
                                      refine lv_lconst (v := 1) hx hb zd_N_remain_193 (by decide) ?_
                                      refine lv_topl (fun yl81 h9 => ?_)
                                      obtain rfl : yl81 = kz_lz (1) := h9.trans (kz_lz_c1)
                                      refine lv_goto (tgt := 199) hx hb zd_N_remain_194 (by decide) ?_
                                      refine lv_topl (fun yl83 h9 => ?_)
                                      obtain ⟨z82, ez82, rfl⟩ : ∃ z : Int, z = 1 ∧ yl83 = kz_lz z := ⟨_, rfl, h9⟩
                                      refine lv_lstore (lv' := [(8, .long (kz_lz (z82))), (6, .long (kz_lz (z36))), (5, .int (nI (k78p))), (3, .long (kz_lz (z10))), (2, .int (nI (k3))), (0, .ref o), (1, .ref t)]) hx hb zd_N_remain_199 hl (by decide) rfl (fun ls hl => ?_)
                                      have hQ0 : 1 ≤ z82 := by omega
                                      have hQ1 : z82 < 4294967296 := by omega
                                      have hQ2 : z82.toNat * kv_val (kv_m18 gmm) 18 ≤ kv_val d24 18 := by have h8 : z82.toNat = 1 := (by omega); rw [h8, Nat.one_mul]; exact q27 hc132
                                      refine lv_lconst (v := 0) hx hb zd_N_remain_201 (by decide) ?_
                                      refine lv_topl (fun yl84 h9 => ?_)
                                      obtain rfl : yl84 = kz_lz (0) := h9.trans (kz_lz_c0)
                                      refine lv_topl (fun yl86 h9 => ?_)
                                      obtain ⟨z85, ez85, rfl⟩ : ∃ z : Int, z = 0 ∧ yl86 = kz_lz z := ⟨_, rfl, h9⟩
                                      refine lv_lstore (lv' := [(10, .long (kz_lz (z85))), (8, .long (kz_lz (z82))), (6, .long (kz_lz (z36))), (5, .int (nI (k78p))), (3, .long (kz_lz (z10))), (2, .int (nI (k3))), (0, .ref o), (1, .ref t)]) hx hb zd_N_remain_202 hl (by decide) rfl (fun ls hl => ?_)
                                      refine lv_iconst (v := (nI (0))) hx hb zd_N_remain_204 (by decide) ?_
                                      refine lv_istore (lv' := [(12, .int (nI (0))), (10, .long (kz_lz (z85))), (8, .long (kz_lz (z82))), (6, .long (kz_lz (z36))), (5, .int (nI (k78p))), (3, .long (kz_lz (z10))), (2, .int (nI (k3))), (0, .ref o), (1, .ref t)]) hx hb zd_N_remain_205 hl (by decide) rfl (fun ls hl => ?_)
                                      have lp207 : ∀ (n207 k207 : Nat) (z87 : Int) (d88 : Nat → Nat) (d89 : Nat → Nat) (H : Heap) (locs : List Loc) (ls : Array Slot), k207 ≤ 18 → 18 - k207 < n207 → (∀ j, d88 j < 65536) → (∀ j, d89 j < 65536) → (-8589934592 ≤ z87) → (z87 ≤ 1) → (((kv_val d88 (k207) : Nat) : Int) + z87 * (65536 : Int) ^ (k207) = ((kv_val d24 (k207) : Nat) : Int) - z82 * ((kv_val (kv_m18 gmm) (k207) : Nat) : Int)) → (∀ j, k207 ≤ j → d88 j = d24 j) → kz_dy (dC, dI) vwCl A s.heap H locs [(me, .inl (cI, 18, .inl (kz_dg d88))), (t, .inl (cI, 16, .inl (kz_dg d89)))] → lv_has ls 13 [(12, .int (nI (k207))), (10, .long (kz_lz (z87))), (8, .long (kz_lz (z82))), (6, .long (kz_lz (z36))), (5, .int (nI (k78p))), (3, .long (kz_lz (z10))), (2, .int (nI (k3))), (0, .ref o), (1, .ref t)] → W p l e { frames := 1, cells := 0, slots := 0, locals := 23 } s m ([.ref o, .ref t] : List Value).toArray below meth c H locs 0 0 (MQ below (va_Qv (fun (u : (Nat → Nat) × (Nat → Nat)) => (∀ j, u.1 j < 65536) ∧ (∀ j, u.2 j < 65536) ∧ True) (kz_B (dC, dI) vwCl A (fun u : (Nat → Nat) × (Nat → Nat) => [(me, .inl (cI, 18, .inl (kz_dg u.1))), (t, .inl (cI, 16, .inl (kz_dg u.2)))])) A) ([.ref o, .ref t] : List Value).toArray s 0 0 A) (F0 m 207 ls []) := by
                                        intro n207
                                        induction n207 with
                                        | zero => intro k207; intros; omega
                                        | succ n207 ih207 =>
                                          intro k207 z87 d88 d89 H locs ls hi207 hn207 hd_d88 hd_d89 hlo hhi hI hge hdy hl
                                          refine lv_iload hx hb zd_N_remain_207 (lv_at hl 0 rfl) ?_
                                          refine lv_bipush (v := (nI (18))) hx hb zd_N_remain_209 (by decide) ?_
                                          refine lv_icmp_ge (tgt := 277) hx hb zd_N_remain_211 (by decide) (fun hc211 => ?_) (fun hc211 => ?_)
                                          · have hc211 : 18 ≤ k207 := (nI_leI (by omega) (by omega)).mp hc211
                                            refine lv_goto (tgt := 127) hx hb zd_N_remain_277 (by decide) ?_
                                            have hms127 : kv_val d88 18 < n127 := by have h18 : k207 = 18 := (by omega); subst h18; have h8 := kv_subEnd (q := z82.toNat) hd_d88 hd_d24 (by omega) hmv hQ2 (by have h7 : ((z82.toNat : Nat) : Int) = z82 := (by omega); rw [h7]; exact hI); omega
                                            exact ih127 d88 d89 _ _ _ hms127 hd_d88 hd_d89 hdy (lv_sub hl [4, 5, 6, 7, 8] rfl)
                                          · have hc211 : ¬ 18 ≤ k207 := fun h9 => hc211 ((nI_leI (by omega) (by omega)).mpr h9)
                                            refine lv_lload hx hb zd_N_remain_214 (lv_at hl 1 rfl) ?_
                                            refine lv_aload_n hx hb zd_N_remain_216 rfl (lv_at hl 7 rfl) ?_
                                            refine va_get (D := (dC, dI)) (ci := 4) (v := .ref me) (C := zR_N) (T := zT_N) (N := 26) hx hb hts (fun w h => kz_c (zi_N w h)) hown hK (hro.ob hdy.2.2 (k := 0) rfl) 0 rfl rfl 14 (by decide) (hts _ (kz_c mw_605)) (fun _ h9 => h9) rfl zd_N_remain_217 ?_
                                            refine lv_iload hx hb zd_N_remain_220 (lv_at hl 0 rfl) ?_
                                            refine va_iald hx hb hK hdy.1 0 0 rfl rfl (vp_in_nI (by omega) (by omega)) zd_N_remain_222 ?_
                                            refine lv_topi (fun x90 h9 => ?_)
                                            obtain rfl : x90 = nI (d88 k207) := h9.trans (kz_dgl d88 (by omega))
                                            have hbx90 := hd_d88 k207
                                            refine lv_i2l hx hb zd_N_remain_223 (kz_lz_i (n := d88 k207) (by omega)) ?_
                                            refine lv_ladd hx hb zd_N_remain_224 ?_
                                            refine lv_topl (fun yl91 h9 => ?_)
                                            obtain rfl : yl91 = kz_lz (z87 + (((d88 k207 : Nat) : Int))) := h9.trans (kz_lz_add _ _)
                                            refine lv_iload hx hb zd_N_remain_225 (lv_at hl 0 rfl) ?_
                                            refine lv_bipush (v := (nI (16))) hx hb zd_N_remain_227 (by decide) ?_
                                            refine lv_icmp_ge (tgt := 246) hx hb zd_N_remain_229 (by decide) (fun hc229 => ?_) (fun hc229 => ?_)
                                            · have hc229 : 16 ≤ k207 := (nI_leI (by omega) (by omega)).mp hc229
                                              refine lv_lconst (v := 0) hx hb zd_N_remain_246 (by decide) ?_
                                              refine lv_topl (fun yl92 h9 => ?_)
                                              obtain rfl : yl92 = kz_lz (0) := h9.trans (kz_lz_c0)
                                              refine lv_lsub hx hb zd_N_remain_247 ?_
                                              refine lv_topl (fun yl93 h9 => ?_)
                                              obtain rfl : yl93 = kz_lz ((z87 + (((d88 k207 : Nat) : Int))) - 0) := h9.trans (kz_lz_sub _ _)
                                              refine lv_topl (fun yl95 h9 => ?_)
                                              obtain ⟨z94, ez94, rfl⟩ : ∃ z : Int, z = (z87 + (((d88 k207 : Nat) : Int))) - 0 ∧ yl95 = kz_lz z := ⟨_, rfl, h9⟩
                                              refine lv_lstore (lv' := [(10, .long (kz_lz (z94))), (12, .int (nI (k207))), (8, .long (kz_lz (z82))), (6, .long (kz_lz (z36))), (5, .int (nI (k78p))), (3, .long (kz_lz (z10))), (2, .int (nI (k3))), (0, .ref o), (1, .ref t)]) hx hb zd_N_remain_248 hl (by decide) rfl (fun ls hl => ?_)
                                              have hm9 := kv_qm (q := z82) (by omega) hQ1 (hd_gmm k207)
                                              have ht9 : z94 = z87 + ((d24 k207 : Nat) : Int) - z82 * ((kv_m18 gmm k207 : Nat) : Int) := by rw [ez94, ← hge k207 (Nat.le_refl _)]; unfold kv_m18; first | (rw [if_pos (by omega)]; done) | (rw [if_neg (by omega)]; show _ = _ - z82 * 0; omega)
                                              refine lv_aload_n hx hb zd_N_remain_250 rfl (lv_at hl 7 rfl) ?_
                                              refine va_get (D := (dC, dI)) (ci := 4) (v := .ref me) (C := zR_N) (T := zT_N) (N := 26) hx hb hts (fun w h => kz_c (zi_N w h)) hown hK (hro.ob hdy.2.2 (k := 0) rfl) 0 rfl rfl 14 (by decide) (hts _ (kz_c mw_605)) (fun _ h9 => h9) rfl zd_N_remain_251 ?_
                                              refine lv_iload hx hb zd_N_remain_254 (lv_at hl 1 rfl) ?_
                                              refine lv_lload hx hb zd_N_remain_256 (lv_at hl 0 rfl) ?_
                                              refine lv_ldc2 (v := (65535)) hx hb hown (hts _ (kz_c mw_708)) zd_N_remain_258 ?_
                                              refine lv_topl (fun yl96 h9 => ?_)
                                              obtain rfl : yl96 = kz_lz (65535) := h9.trans (kz_lz_c65535)
                                              refine lv_land hx hb zd_N_remain_261 ?_
                                              refine lv_topl (fun yl97 h9 => ?_)
                                              obtain rfl : yl97 = kz_lz (z94 % 65536) := h9.trans (kz_lz_andz _)
                                              refine lv_l2i hx hb zd_N_remain_262 (kz_lz_i16 (z94)) ?_
                                              refine va_iast hx hb hK hdy.1 hdy.2.1 hdy.2.2 0 0 rfl rfl (vp_in_nI (by omega) (by omega)) zd_N_remain_263 (fun H locs hP hD hS => ?_)
                                              have h9 := kz_dgu d88 (k := k207) ((z94 % 65536).toNat) (by omega)
                                              rw [h9] at hP hD
                                              obtain ⟨f98, ef98, hd_f98, hdy⟩ : ∃ f98 : Nat → Nat, f98 = kv_up d88 k207 ((z94 % 65536).toNat) ∧ (∀ j, f98 j < 65536) ∧ kz_dy (dC, dI) vwCl A s.heap H locs [(me, .inl (cI, 18, .inl (kz_dg f98))), (t, .inl (cI, 16, .inl (kz_dg d89)))] := ⟨_, rfl, kv_up_lt hd_d88 (by omega), hP, hD, hS⟩
                                              refine lv_lload hx hb zd_N_remain_264 (lv_at hl 0 rfl) ?_
                                              refine lv_bipush (v := (nI (16))) hx hb zd_N_remain_266 (by decide) ?_
                                              refine lv_lshr hx hb zd_N_remain_268 (kz_lz_shr (z := z94) (by omega) (by omega)) ?_
                                              refine lv_topl (fun yl100 h9 => ?_)
                                              obtain ⟨z99, ez99, rfl⟩ : ∃ z : Int, z = z94 / 65536 ∧ yl100 = kz_lz z := ⟨_, rfl, h9⟩
                                              refine lv_lstore (lv' := [(10, .long (kz_lz (z99))), (12, .int (nI (k207))), (8, .long (kz_lz (z82))), (6, .long (kz_lz (z36))), (5, .int (nI (k78p))), (3, .long (kz_lz (z10))), (2, .int (nI (k3))), (0, .ref o), (1, .ref t)]) hx hb zd_N_remain_269 hl (by decide) rfl (fun ls hl => ?_)
                                              refine lv_iinc (v := (nI (k207 + 1))) (lv' := [(12, .int (nI (k207 + 1))), (10, .long (kz_lz (z99))), (8, .long (kz_lz (z82))), (6, .long (kz_lz (z36))), (5, .int (nI (k78p))), (3, .long (kz_lz (z10))), (2, .int (nI (k3))), (0, .ref o), (1, .ref t)]) hx hb zd_N_remain_271 hl (k := 1) rfl (nI_1 _) (by decide) rfl (fun ls hl => ?_)
                                              refine lv_goto (tgt := 207) hx hb zd_N_remain_274 (by decide) ?_
                                              have hi9_hlo101 : -8589934592 ≤ z99 := by omega
                                              have hi9_hhi102 : z99 ≤ 1 := by omega
                                              have hi9_hI103 : ((kv_val f98 (k207 + 1) : Nat) : Int) + z99 * (65536 : Int) ^ (k207 + 1) = ((kv_val d24 (k207 + 1) : Nat) : Int) - z82 * ((kv_val (kv_m18 gmm) (k207 + 1) : Nat) : Int) := by rw [ef98, ez99]; exact kv_subStep hI ht9
                                              have hi9_hge104 : ∀ j, k207 + 1 ≤ j → f98 j = d24 j := by intro j hj; rw [ef98, kv_up_ne _ _ (by omega)]; exact hge j (by omega)
                                              exact ih207 (k207 + 1) (z99) f98 d89 _ _ _ (by omega) (by omega) hd_f98 hd_d89 hi9_hlo101 hi9_hhi102 hi9_hI103 hi9_hge104 hdy (lv_sub hl [0, 1, 2, 3, 4, 5, 6, 7, 8] rfl)
                                            · have hc229 : ¬ 16 ≤ k207 := fun h9 => hc229 ((nI_leI (by omega) (by omega)).mpr h9)
                                              refine lv_lload hx hb zd_N_remain_232 (lv_at hl 2 rfl) ?_
                                              refine lv_aload_n hx hb zd_N_remain_234 rfl (lv_at hl 7 rfl) ?_
                                              refine va_get (D := (dC, dI)) (ci := 4) (v := .ref mm) (C := zR_N) (T := zT_N) (N := 26) hx hb hts (fun w h => kz_c (zi_N w h)) hown hK (hro.ob hdy.2.2 (k := 0) rfl) 0 rfl rfl 9 (by decide) (hts _ (kz_c mw_600)) (fun _ h9 => h9) rfl zd_N_remain_235 ?_
                                              refine lv_iload hx hb zd_N_remain_238 (lv_at hl 0 rfl) ?_
                                              refine kz_riald hx hb hK hro hdy.2.2 1 0 rfl rfl (vp_in_nI (by omega) (by omega)) zd_N_remain_240 ?_
                                              refine lv_topi (fun x105 h9 => ?_)
                                              obtain rfl : x105 = nI (gmm k207) := h9.trans (kz_dgl gmm (by omega))
                                              have hbx105 := hd_gmm k207
                                              refine lv_i2l hx hb zd_N_remain_241 (kz_lz_i (n := gmm k207) (by omega)) ?_
                                              refine lv_lmul hx hb zd_N_remain_242 ?_
                                              refine lv_topl (fun yl106 h9 => ?_)
                                              obtain rfl : yl106 = kz_lz (z82 * (((gmm k207 : Nat) : Int))) := h9.trans (kz_lz_mul _ _)
                                              refine lv_goto (tgt := 247) hx hb zd_N_remain_243 (by decide) ?_
                                              refine lv_lsub hx hb zd_N_remain_247 ?_
                                              refine lv_topl (fun yl107 h9 => ?_)
                                              obtain rfl : yl107 = kz_lz ((z87 + (((d88 k207 : Nat) : Int))) - (z82 * (((gmm k207 : Nat) : Int)))) := h9.trans (kz_lz_sub _ _)
                                              refine lv_topl (fun yl109 h9 => ?_)
                                              obtain ⟨z108, ez108, rfl⟩ : ∃ z : Int, z = (z87 + (((d88 k207 : Nat) : Int))) - (z82 * (((gmm k207 : Nat) : Int))) ∧ yl109 = kz_lz z := ⟨_, rfl, h9⟩
                                              refine lv_lstore (lv' := [(10, .long (kz_lz (z108))), (12, .int (nI (k207))), (8, .long (kz_lz (z82))), (6, .long (kz_lz (z36))), (5, .int (nI (k78p))), (3, .long (kz_lz (z10))), (2, .int (nI (k3))), (0, .ref o), (1, .ref t)]) hx hb zd_N_remain_248 hl (by decide) rfl (fun ls hl => ?_)
                                              have hm9 := kv_qm (q := z82) (by omega) hQ1 (hd_gmm k207)
                                              have ht9 : z108 = z87 + ((d24 k207 : Nat) : Int) - z82 * ((kv_m18 gmm k207 : Nat) : Int) := by rw [ez108, ← hge k207 (Nat.le_refl _)]; unfold kv_m18; first | (rw [if_pos (by omega)]; done) | (rw [if_neg (by omega)]; show _ = _ - z82 * 0; omega)
                                              refine lv_aload_n hx hb zd_N_remain_250 rfl (lv_at hl 7 rfl) ?_
                                              refine va_get (D := (dC, dI)) (ci := 4) (v := .ref me) (C := zR_N) (T := zT_N) (N := 26) hx hb hts (fun w h => kz_c (zi_N w h)) hown hK (hro.ob hdy.2.2 (k := 0) rfl) 0 rfl rfl 14 (by decide) (hts _ (kz_c mw_605)) (fun _ h9 => h9) rfl zd_N_remain_251 ?_
                                              refine lv_iload hx hb zd_N_remain_254 (lv_at hl 1 rfl) ?_
                                              refine lv_lload hx hb zd_N_remain_256 (lv_at hl 0 rfl) ?_
                                              refine lv_ldc2 (v := (65535)) hx hb hown (hts _ (kz_c mw_708)) zd_N_remain_258 ?_
                                              refine lv_topl (fun yl110 h9 => ?_)
                                              obtain rfl : yl110 = kz_lz (65535) := h9.trans (kz_lz_c65535)
                                              refine lv_land hx hb zd_N_remain_261 ?_
                                              refine lv_topl (fun yl111 h9 => ?_)
                                              obtain rfl : yl111 = kz_lz (z108 % 65536) := h9.trans (kz_lz_andz _)
                                              refine lv_l2i hx hb zd_N_remain_262 (kz_lz_i16 (z108)) ?_
                                              refine va_iast hx hb hK hdy.1 hdy.2.1 hdy.2.2 0 0 rfl rfl (vp_in_nI (by omega) (by omega)) zd_N_remain_263 (fun H locs hP hD hS => ?_)
                                              have h9 := kz_dgu d88 (k := k207) ((z108 % 65536).toNat) (by omega)
                                              rw [h9] at hP hD
                                              obtain ⟨f112, ef112, hd_f112, hdy⟩ : ∃ f112 : Nat → Nat, f112 = kv_up d88 k207 ((z108 % 65536).toNat) ∧ (∀ j, f112 j < 65536) ∧ kz_dy (dC, dI) vwCl A s.heap H locs [(me, .inl (cI, 18, .inl (kz_dg f112))), (t, .inl (cI, 16, .inl (kz_dg d89)))] := ⟨_, rfl, kv_up_lt hd_d88 (by omega), hP, hD, hS⟩
                                              refine lv_lload hx hb zd_N_remain_264 (lv_at hl 0 rfl) ?_
                                              refine lv_bipush (v := (nI (16))) hx hb zd_N_remain_266 (by decide) ?_
                                              refine lv_lshr hx hb zd_N_remain_268 (kz_lz_shr (z := z108) (by omega) (by omega)) ?_
                                              refine lv_topl (fun yl114 h9 => ?_)
                                              obtain ⟨z113, ez113, rfl⟩ : ∃ z : Int, z = z108 / 65536 ∧ yl114 = kz_lz z := ⟨_, rfl, h9⟩
                                              refine lv_lstore (lv' := [(10, .long (kz_lz (z113))), (12, .int (nI (k207))), (8, .long (kz_lz (z82))), (6, .long (kz_lz (z36))), (5, .int (nI (k78p))), (3, .long (kz_lz (z10))), (2, .int (nI (k3))), (0, .ref o), (1, .ref t)]) hx hb zd_N_remain_269 hl (by decide) rfl (fun ls hl => ?_)
                                              refine lv_iinc (v := (nI (k207 + 1))) (lv' := [(12, .int (nI (k207 + 1))), (10, .long (kz_lz (z113))), (8, .long (kz_lz (z82))), (6, .long (kz_lz (z36))), (5, .int (nI (k78p))), (3, .long (kz_lz (z10))), (2, .int (nI (k3))), (0, .ref o), (1, .ref t)]) hx hb zd_N_remain_271 hl (k := 1) rfl (nI_1 _) (by decide) rfl (fun ls hl => ?_)
                                              refine lv_goto (tgt := 207) hx hb zd_N_remain_274 (by decide) ?_
                                              have hi9_hlo115 : -8589934592 ≤ z113 := by omega
                                              have hi9_hhi116 : z113 ≤ 1 := by omega
                                              have hi9_hI117 : ((kv_val f112 (k207 + 1) : Nat) : Int) + z113 * (65536 : Int) ^ (k207 + 1) = ((kv_val d24 (k207 + 1) : Nat) : Int) - z82 * ((kv_val (kv_m18 gmm) (k207 + 1) : Nat) : Int) := by rw [ef112, ez113]; exact kv_subStep hI ht9
                                              have hi9_hge118 : ∀ j, k207 + 1 ≤ j → f112 j = d24 j := by intro j hj; rw [ef112, kv_up_ne _ _ (by omega)]; exact hge j (by omega)
                                              exact ih207 (k207 + 1) (z113) f112 d89 _ _ _ (by omega) (by omega) hd_f112 hd_d89 hi9_hlo115 hi9_hhi116 hi9_hI117 hi9_hge118 hdy (lv_sub hl [0, 1, 2, 3, 4, 5, 6, 7, 8] rfl)
                                      have hi9_hlo119 : -8589934592 ≤ z85 := by omega
                                      have hi9_hhi120 : z85 ≤ 1 := by omega
                                      have hi9_hI121 : ((kv_val d24 (0) : Nat) : Int) + z85 * (65536 : Int) ^ (0) = ((kv_val d24 (0) : Nat) : Int) - z82 * ((kv_val (kv_m18 gmm) (0) : Nat) : Int) := by rw [ez85]; show (0 : Int) + 0 * _ = 0 - z82 * 0; omega
                                      have hi9_hge122 : ∀ j, 0 ≤ j → d24 j = d24 j := by exact fun _ _ => rfl
                                      exact lp207 (18 - 0 + 1) 0 (z85) d24 d25 _ _ _ (by omega) (by omega) hd_d24 hd_d25 hi9_hlo119 hi9_hhi120 hi9_hI121 hi9_hge122 hdy (lv_sub hl [0, 1, 2, 3, 4, 5, 6, 7, 8] rfl)
                                  · have hc161 : ¬ k3 ≤ 0 := fun h9 => hc161 (by have h8 := (nI_leI (by omega) (by omega)).mpr h9; rw [nI_0] at h8; exact h8)
                                    refine lv_aload_n hx hb zd_N_remain_164 rfl (lv_at hl 3 rfl) ?_
                                    refine va_get (D := (dC, dI)) (ci := 4) (v := .ref me) (C := zR_N) (T := zT_N) (N := 26) hx hb hts (fun w h => kz_c (zi_N w h)) hown hK (hro.ob hdy.2.2 (k := 0) rfl) 0 rfl rfl 14 (by decide) (hts _ (kz_c mw_605)) (fun _ h9 => h9) rfl zd_N_remain_165 ?_
                                    refine lv_iload_n hx hb zd_N_remain_168 rfl (lv_at hl 2 rfl) ?_
                                    refine lv_iconst (v := (nI (1))) hx hb zd_N_remain_169 (by decide) ?_
                                    refine kz_isub hx hb zd_N_remain_170 (pk_sub (by omega)) ?_
                                    refine va_iald hx hb hK hdy.1 0 0 rfl rfl (vp_in_nI (by omega) (by omega)) zd_N_remain_171 ?_
                                    refine lv_topi (fun x123 h9 => ?_)
                                    obtain rfl : x123 = nI (d24 (k3 - 1)) := h9.trans (kz_dgl d24 (by omega))
                                    have hbx123 := hd_d24 (k3 - 1)
                                    refine lv_goto (tgt := 176) hx hb zd_N_remain_172 (by decide) ?_
                                    refine lv_i2l hx hb zd_N_remain_176 (kz_lz_i (n := d24 (k3 - 1)) (by omega)) ?_
                                    refine lv_ladd hx hb zd_N_remain_177 ?_
                                    refine lv_topl (fun yl124 h9 => ?_)
                                    obtain rfl : yl124 = kz_lz ((65536 * ((65536 * (((d24 (k3 + 1) : Nat) : Int))) + (((d24 k3 : Nat) : Int)))) + (((d24 (k3 - 1) : Nat) : Int))) := h9.trans (kz_lz_add _ _)
                                    refine lv_topl (fun yl126 h9 => ?_)
                                    obtain ⟨z125, ez125, rfl⟩ : ∃ z : Int, z = (65536 * ((65536 * (((d24 (k3 + 1) : Nat) : Int))) + (((d24 k3 : Nat) : Int)))) + (((d24 (k3 - 1) : Nat) : Int)) ∧ yl126 = kz_lz z := ⟨_, rfl, h9⟩
                                    refine lv_lstore (lv' := [(6, .long (kz_lz (z125))), (5, .int (nI (k78p))), (3, .long (kz_lz (z10))), (2, .int (nI (k3))), (0, .ref o), (1, .ref t)]) hx hb zd_N_remain_178 hl (by decide) rfl (fun ls hl => ?_)
                                    refine lv_lload hx hb zd_N_remain_180 (lv_at hl 0 rfl) ?_
                                    refine lv_lload_n hx hb zd_N_remain_182 rfl (lv_at hl 2 rfl) ?_
                                    refine lv_ldiv hx hb zd_N_remain_183 (kz_lz_ne0 (by omega) (by omega)) ?_
                                    refine lv_topl (fun yl127 h9 => ?_)
                                    obtain rfl : yl127 = kz_lz (z125 / z10) := h9.trans (kz_lz_divz (by omega) (by omega) (by omega) (by omega))
                                    refine lv_topl (fun yl129 h9 => ?_)
                                    obtain ⟨z128, ez128, rfl⟩ : ∃ z : Int, z = z125 / z10 ∧ yl129 = kz_lz z := ⟨_, rfl, h9⟩
                                    refine lv_lstore (lv' := [(8, .long (kz_lz (z128))), (6, .long (kz_lz (z125))), (5, .int (nI (k78p))), (3, .long (kz_lz (z10))), (2, .int (nI (k3))), (0, .ref o), (1, .ref t)]) hx hb zd_N_remain_184 hl (by decide) rfl (fun ls hl => ?_)
                                    have hqz : 0 ≤ z128 ∧ z128 < 4294967296 ∧ z128.toNat * kv_val (kv_m18 gmm) 18 ≤ kv_val d24 18 := by first | exact kv_qZ1 hd_gmm hd_d24 (by omega) (by omega) (by omega) htz ez10 ez125 ez128 | (exfalso; omega) | (obtain rfl : k3 = 0 := (by omega); exact kv_qZ0 hd_gmm hd_d24 (by omega) htz ez10 ez125 ez128)
                                    obtain ⟨hq0, hq1, hq2⟩ := hqz
                                    refine lv_lload hx hb zd_N_remain_186 (lv_at hl 0 rfl) ?_
                                    refine lv_lconst (v := 1) hx hb zd_N_remain_188 (by decide) ?_
                                    refine lv_topl (fun yl130 h9 => ?_)
                                    obtain rfl : yl130 = kz_lz (1) := h9.trans (kz_lz_c1)
                                    refine kz_lge (tgt := 197) hx hb zd_N_remain_189 zd_N_remain_190 (by decide) (fun hc190 => ?_) (fun hc190 => ?_)
                                    · have hc190 : ¬ z128 < 1 := fun h9 => hc190 ((kz_lz_lt (by omega) (by omega) (by omega) (by omega)).mpr h9)
                                      refine lv_lload hx hb zd_N_remain_197 (lv_at hl 0 rfl) ?_
                                      refine lv_lstore (lv' := [(8, .long (kz_lz (z128))), (6, .long (kz_lz (z125))), (5, .int (nI (k78p))), (3, .long (kz_lz (z10))), (2, .int (nI (k3))), (0, .ref o), (1, .ref t)]) hx hb zd_N_remain_199 hl (by decide) rfl (fun ls hl => ?_)
                                      have hQ0 : 1 ≤ z128 := by omega
                                      have hQ1 : z128 < 4294967296 := by omega
                                      have hQ2 : z128.toNat * kv_val (kv_m18 gmm) 18 ≤ kv_val d24 18 := hq2
                                      refine lv_lconst (v := 0) hx hb zd_N_remain_201 (by decide) ?_
                                      refine lv_topl (fun yl131 h9 => ?_)
                                      obtain rfl : yl131 = kz_lz (0) := h9.trans (kz_lz_c0)
                                      refine lv_topl (fun yl133 h9 => ?_)
                                      obtain ⟨z132, ez132, rfl⟩ : ∃ z : Int, z = 0 ∧ yl133 = kz_lz z := ⟨_, rfl, h9⟩
                                      refine lv_lstore (lv' := [(10, .long (kz_lz (z132))), (8, .long (kz_lz (z128))), (6, .long (kz_lz (z125))), (5, .int (nI (k78p))), (3, .long (kz_lz (z10))), (2, .int (nI (k3))), (0, .ref o), (1, .ref t)]) hx hb zd_N_remain_202 hl (by decide) rfl (fun ls hl => ?_)
                                      refine lv_iconst (v := (nI (0))) hx hb zd_N_remain_204 (by decide) ?_
                                      refine lv_istore (lv' := [(12, .int (nI (0))), (10, .long (kz_lz (z132))), (8, .long (kz_lz (z128))), (6, .long (kz_lz (z125))), (5, .int (nI (k78p))), (3, .long (kz_lz (z10))), (2, .int (nI (k3))), (0, .ref o), (1, .ref t)]) hx hb zd_N_remain_205 hl (by decide) rfl (fun ls hl => ?_)
                                      have lp207 : ∀ (n207 k207 : Nat) (z134 : Int) (d135 : Nat → Nat) (d136 : Nat → Nat) (H : Heap) (locs : List Loc) (ls : Array Slot), k207 ≤ 18 → 18 - k207 < n207 → (∀ j, d135 j < 65536) → (∀ j, d136 j < 65536) → (-8589934592 ≤ z134) → (z134 ≤ 1) → (((kv_val d135 (k207) : Nat) : Int) + z134 * (65536 : Int) ^ (k207) = ((kv_val d24 (k207) : Nat) : Int) - z128 * ((kv_val (kv_m18 gmm) (k207) : Nat) : Int)) → (∀ j, k207 ≤ j → d135 j = d24 j) → kz_dy (dC, dI) vwCl A s.heap H locs [(me, .inl (cI, 18, .inl (kz_dg d135))), (t, .inl (cI, 16, .inl (kz_dg d136)))] → lv_has ls 13 [(12, .int (nI (k207))), (10, .long (kz_lz (z134))), (8, .long (kz_lz (z128))), (6, .long (kz_lz (z125))), (5, .int (nI (k78p))), (3, .long (kz_lz (z10))), (2, .int (nI (k3))), (0, .ref o), (1, .ref t)] → W p l e { frames := 1, cells := 0, slots := 0, locals := 23 } s m ([.ref o, .ref t] : List Value).toArray below meth c H locs 0 0 (MQ below (va_Qv (fun (u : (Nat → Nat) × (Nat → Nat)) => (∀ j, u.1 j < 65536) ∧ (∀ j, u.2 j < 65536) ∧ True) (kz_B (dC, dI) vwCl A (fun u : (Nat → Nat) × (Nat → Nat) => [(me, .inl (cI, 18, .inl (kz_dg u.1))), (t, .inl (cI, 16, .inl (kz_dg u.2)))])) A) ([.ref o, .ref t] : List Value).toArray s 0 0 A) (F0 m 207 ls []) := by
                                        intro n207
                                        induction n207 with
                                        | zero => intro k207; intros; omega
                                        | succ n207 ih207 =>
                                          intro k207 z134 d135 d136 H locs ls hi207 hn207 hd_d135 hd_d136 hlo hhi hI hge hdy hl
                                          refine lv_iload hx hb zd_N_remain_207 (lv_at hl 0 rfl) ?_
                                          refine lv_bipush (v := (nI (18))) hx hb zd_N_remain_209 (by decide) ?_
                                          refine lv_icmp_ge (tgt := 277) hx hb zd_N_remain_211 (by decide) (fun hc211 => ?_) (fun hc211 => ?_)
                                          · have hc211 : 18 ≤ k207 := (nI_leI (by omega) (by omega)).mp hc211
                                            refine lv_goto (tgt := 127) hx hb zd_N_remain_277 (by decide) ?_
                                            have hms127 : kv_val d135 18 < n127 := by have h18 : k207 = 18 := (by omega); subst h18; have h8 := kv_subEnd (q := z128.toNat) hd_d135 hd_d24 (by omega) hmv hQ2 (by have h7 : ((z128.toNat : Nat) : Int) = z128 := (by omega); rw [h7]; exact hI); omega
                                            exact ih127 d135 d136 _ _ _ hms127 hd_d135 hd_d136 hdy (lv_sub hl [4, 5, 6, 7, 8] rfl)
                                          · have hc211 : ¬ 18 ≤ k207 := fun h9 => hc211 ((nI_leI (by omega) (by omega)).mpr h9)
                                            refine lv_lload hx hb zd_N_remain_214 (lv_at hl 1 rfl) ?_
                                            refine lv_aload_n hx hb zd_N_remain_216 rfl (lv_at hl 7 rfl) ?_
                                            refine va_get (D := (dC, dI)) (ci := 4) (v := .ref me) (C := zR_N) (T := zT_N) (N := 26) hx hb hts (fun w h => kz_c (zi_N w h)) hown hK (hro.ob hdy.2.2 (k := 0) rfl) 0 rfl rfl 14 (by decide) (hts _ (kz_c mw_605)) (fun _ h9 => h9) rfl zd_N_remain_217 ?_
                                            refine lv_iload hx hb zd_N_remain_220 (lv_at hl 0 rfl) ?_
                                            refine va_iald hx hb hK hdy.1 0 0 rfl rfl (vp_in_nI (by omega) (by omega)) zd_N_remain_222 ?_
                                            refine lv_topi (fun x137 h9 => ?_)
                                            obtain rfl : x137 = nI (d135 k207) := h9.trans (kz_dgl d135 (by omega))
                                            have hbx137 := hd_d135 k207
                                            refine lv_i2l hx hb zd_N_remain_223 (kz_lz_i (n := d135 k207) (by omega)) ?_
                                            refine lv_ladd hx hb zd_N_remain_224 ?_
                                            refine lv_topl (fun yl138 h9 => ?_)
                                            obtain rfl : yl138 = kz_lz (z134 + (((d135 k207 : Nat) : Int))) := h9.trans (kz_lz_add _ _)
                                            refine lv_iload hx hb zd_N_remain_225 (lv_at hl 0 rfl) ?_
                                            refine lv_bipush (v := (nI (16))) hx hb zd_N_remain_227 (by decide) ?_
                                            refine lv_icmp_ge (tgt := 246) hx hb zd_N_remain_229 (by decide) (fun hc229 => ?_) (fun hc229 => ?_)
                                            · have hc229 : 16 ≤ k207 := (nI_leI (by omega) (by omega)).mp hc229
                                              refine lv_lconst (v := 0) hx hb zd_N_remain_246 (by decide) ?_
                                              refine lv_topl (fun yl139 h9 => ?_)
                                              obtain rfl : yl139 = kz_lz (0) := h9.trans (kz_lz_c0)
                                              refine lv_lsub hx hb zd_N_remain_247 ?_
                                              refine lv_topl (fun yl140 h9 => ?_)
                                              obtain rfl : yl140 = kz_lz ((z134 + (((d135 k207 : Nat) : Int))) - 0) := h9.trans (kz_lz_sub _ _)
                                              refine lv_topl (fun yl142 h9 => ?_)
                                              obtain ⟨z141, ez141, rfl⟩ : ∃ z : Int, z = (z134 + (((d135 k207 : Nat) : Int))) - 0 ∧ yl142 = kz_lz z := ⟨_, rfl, h9⟩
                                              refine lv_lstore (lv' := [(10, .long (kz_lz (z141))), (12, .int (nI (k207))), (8, .long (kz_lz (z128))), (6, .long (kz_lz (z125))), (5, .int (nI (k78p))), (3, .long (kz_lz (z10))), (2, .int (nI (k3))), (0, .ref o), (1, .ref t)]) hx hb zd_N_remain_248 hl (by decide) rfl (fun ls hl => ?_)
                                              have hm9 := kv_qm (q := z128) (by omega) hQ1 (hd_gmm k207)
                                              have ht9 : z141 = z134 + ((d24 k207 : Nat) : Int) - z128 * ((kv_m18 gmm k207 : Nat) : Int) := by rw [ez141, ← hge k207 (Nat.le_refl _)]; unfold kv_m18; first | (rw [if_pos (by omega)]; done) | (rw [if_neg (by omega)]; show _ = _ - z128 * 0; omega)
                                              refine lv_aload_n hx hb zd_N_remain_250 rfl (lv_at hl 7 rfl) ?_
                                              refine va_get (D := (dC, dI)) (ci := 4) (v := .ref me) (C := zR_N) (T := zT_N) (N := 26) hx hb hts (fun w h => kz_c (zi_N w h)) hown hK (hro.ob hdy.2.2 (k := 0) rfl) 0 rfl rfl 14 (by decide) (hts _ (kz_c mw_605)) (fun _ h9 => h9) rfl zd_N_remain_251 ?_
                                              refine lv_iload hx hb zd_N_remain_254 (lv_at hl 1 rfl) ?_
                                              refine lv_lload hx hb zd_N_remain_256 (lv_at hl 0 rfl) ?_
                                              refine lv_ldc2 (v := (65535)) hx hb hown (hts _ (kz_c mw_708)) zd_N_remain_258 ?_
                                              refine lv_topl (fun yl143 h9 => ?_)
                                              obtain rfl : yl143 = kz_lz (65535) := h9.trans (kz_lz_c65535)
                                              refine lv_land hx hb zd_N_remain_261 ?_
                                              refine lv_topl (fun yl144 h9 => ?_)
                                              obtain rfl : yl144 = kz_lz (z141 % 65536) := h9.trans (kz_lz_andz _)
                                              refine lv_l2i hx hb zd_N_remain_262 (kz_lz_i16 (z141)) ?_
                                              refine va_iast hx hb hK hdy.1 hdy.2.1 hdy.2.2 0 0 rfl rfl (vp_in_nI (by omega) (by omega)) zd_N_remain_263 (fun H locs hP hD hS => ?_)
                                              have h9 := kz_dgu d135 (k := k207) ((z141 % 65536).toNat) (by omega)
                                              rw [h9] at hP hD
                                              obtain ⟨f145, ef145, hd_f145, hdy⟩ : ∃ f145 : Nat → Nat, f145 = kv_up d135 k207 ((z141 % 65536).toNat) ∧ (∀ j, f145 j < 65536) ∧ kz_dy (dC, dI) vwCl A s.heap H locs [(me, .inl (cI, 18, .inl (kz_dg f145))), (t, .inl (cI, 16, .inl (kz_dg d136)))] := ⟨_, rfl, kv_up_lt hd_d135 (by omega), hP, hD, hS⟩
                                              refine lv_lload hx hb zd_N_remain_264 (lv_at hl 0 rfl) ?_
                                              refine lv_bipush (v := (nI (16))) hx hb zd_N_remain_266 (by decide) ?_
                                              refine lv_lshr hx hb zd_N_remain_268 (kz_lz_shr (z := z141) (by omega) (by omega)) ?_
                                              refine lv_topl (fun yl147 h9 => ?_)
                                              obtain ⟨z146, ez146, rfl⟩ : ∃ z : Int, z = z141 / 65536 ∧ yl147 = kz_lz z := ⟨_, rfl, h9⟩
                                              refine lv_lstore (lv' := [(10, .long (kz_lz (z146))), (12, .int (nI (k207))), (8, .long (kz_lz (z128))), (6, .long (kz_lz (z125))), (5, .int (nI (k78p))), (3, .long (kz_lz (z10))), (2, .int (nI (k3))), (0, .ref o), (1, .ref t)]) hx hb zd_N_remain_269 hl (by decide) rfl (fun ls hl => ?_)
                                              refine lv_iinc (v := (nI (k207 + 1))) (lv' := [(12, .int (nI (k207 + 1))), (10, .long (kz_lz (z146))), (8, .long (kz_lz (z128))), (6, .long (kz_lz (z125))), (5, .int (nI (k78p))), (3, .long (kz_lz (z10))), (2, .int (nI (k3))), (0, .ref o), (1, .ref t)]) hx hb zd_N_remain_271 hl (k := 1) rfl (nI_1 _) (by decide) rfl (fun ls hl => ?_)
                                              refine lv_goto (tgt := 207) hx hb zd_N_remain_274 (by decide) ?_
                                              have hi9_hlo148 : -8589934592 ≤ z146 := by omega
                                              have hi9_hhi149 : z146 ≤ 1 := by omega
                                              have hi9_hI150 : ((kv_val f145 (k207 + 1) : Nat) : Int) + z146 * (65536 : Int) ^ (k207 + 1) = ((kv_val d24 (k207 + 1) : Nat) : Int) - z128 * ((kv_val (kv_m18 gmm) (k207 + 1) : Nat) : Int) := by rw [ef145, ez146]; exact kv_subStep hI ht9
                                              have hi9_hge151 : ∀ j, k207 + 1 ≤ j → f145 j = d24 j := by intro j hj; rw [ef145, kv_up_ne _ _ (by omega)]; exact hge j (by omega)
                                              exact ih207 (k207 + 1) (z146) f145 d136 _ _ _ (by omega) (by omega) hd_f145 hd_d136 hi9_hlo148 hi9_hhi149 hi9_hI150 hi9_hge151 hdy (lv_sub hl [0, 1, 2, 3, 4, 5, 6, 7, 8] rfl)
                                            · have hc229 : ¬ 16 ≤ k207 := fun h9 => hc229 ((nI_leI (by omega) (by omega)).mpr h9)
                                              refine lv_lload hx hb zd_N_remain_232 (lv_at hl 2 rfl) ?_
                                              refine lv_aload_n hx hb zd_N_remain_234 rfl (lv_at hl 7 rfl) ?_
                                              refine va_get (D := (dC, dI)) (ci := 4) (v := .ref mm) (C := zR_N) (T := zT_N) (N := 26) hx hb hts (fun w h => kz_c (zi_N w h)) hown hK (hro.ob hdy.2.2 (k := 0) rfl) 0 rfl rfl 9 (by decide) (hts _ (kz_c mw_600)) (fun _ h9 => h9) rfl zd_N_remain_235 ?_
                                              refine lv_iload hx hb zd_N_remain_238 (lv_at hl 0 rfl) ?_
                                              refine kz_riald hx hb hK hro hdy.2.2 1 0 rfl rfl (vp_in_nI (by omega) (by omega)) zd_N_remain_240 ?_
                                              refine lv_topi (fun x152 h9 => ?_)
                                              obtain rfl : x152 = nI (gmm k207) := h9.trans (kz_dgl gmm (by omega))
                                              have hbx152 := hd_gmm k207
                                              refine lv_i2l hx hb zd_N_remain_241 (kz_lz_i (n := gmm k207) (by omega)) ?_
                                              refine lv_lmul hx hb zd_N_remain_242 ?_
                                              refine lv_topl (fun yl153 h9 => ?_)
                                              obtain rfl : yl153 = kz_lz (z128 * (((gmm k207 : Nat) : Int))) := h9.trans (kz_lz_mul _ _)
                                              refine lv_goto (tgt := 247) hx hb zd_N_remain_243 (by decide) ?_
                                              refine lv_lsub hx hb zd_N_remain_247 ?_
                                              refine lv_topl (fun yl154 h9 => ?_)
                                              obtain rfl : yl154 = kz_lz ((z134 + (((d135 k207 : Nat) : Int))) - (z128 * (((gmm k207 : Nat) : Int)))) := h9.trans (kz_lz_sub _ _)
                                              refine lv_topl (fun yl156 h9 => ?_)
                                              obtain ⟨z155, ez155, rfl⟩ : ∃ z : Int, z = (z134 + (((d135 k207 : Nat) : Int))) - (z128 * (((gmm k207 : Nat) : Int))) ∧ yl156 = kz_lz z := ⟨_, rfl, h9⟩
                                              refine lv_lstore (lv' := [(10, .long (kz_lz (z155))), (12, .int (nI (k207))), (8, .long (kz_lz (z128))), (6, .long (kz_lz (z125))), (5, .int (nI (k78p))), (3, .long (kz_lz (z10))), (2, .int (nI (k3))), (0, .ref o), (1, .ref t)]) hx hb zd_N_remain_248 hl (by decide) rfl (fun ls hl => ?_)
                                              have hm9 := kv_qm (q := z128) (by omega) hQ1 (hd_gmm k207)
                                              have ht9 : z155 = z134 + ((d24 k207 : Nat) : Int) - z128 * ((kv_m18 gmm k207 : Nat) : Int) := by rw [ez155, ← hge k207 (Nat.le_refl _)]; unfold kv_m18; first | (rw [if_pos (by omega)]; done) | (rw [if_neg (by omega)]; show _ = _ - z128 * 0; omega)
                                              refine lv_aload_n hx hb zd_N_remain_250 rfl (lv_at hl 7 rfl) ?_
                                              refine va_get (D := (dC, dI)) (ci := 4) (v := .ref me) (C := zR_N) (T := zT_N) (N := 26) hx hb hts (fun w h => kz_c (zi_N w h)) hown hK (hro.ob hdy.2.2 (k := 0) rfl) 0 rfl rfl 14 (by decide) (hts _ (kz_c mw_605)) (fun _ h9 => h9) rfl zd_N_remain_251 ?_
                                              refine lv_iload hx hb zd_N_remain_254 (lv_at hl 1 rfl) ?_
                                              refine lv_lload hx hb zd_N_remain_256 (lv_at hl 0 rfl) ?_
                                              refine lv_ldc2 (v := (65535)) hx hb hown (hts _ (kz_c mw_708)) zd_N_remain_258 ?_
                                              refine lv_topl (fun yl157 h9 => ?_)
                                              obtain rfl : yl157 = kz_lz (65535) := h9.trans (kz_lz_c65535)
                                              refine lv_land hx hb zd_N_remain_261 ?_
                                              refine lv_topl (fun yl158 h9 => ?_)
                                              obtain rfl : yl158 = kz_lz (z155 % 65536) := h9.trans (kz_lz_andz _)
                                              refine lv_l2i hx hb zd_N_remain_262 (kz_lz_i16 (z155)) ?_
                                              refine va_iast hx hb hK hdy.1 hdy.2.1 hdy.2.2 0 0 rfl rfl (vp_in_nI (by omega) (by omega)) zd_N_remain_263 (fun H locs hP hD hS => ?_)
                                              have h9 := kz_dgu d135 (k := k207) ((z155 % 65536).toNat) (by omega)
                                              rw [h9] at hP hD
                                              obtain ⟨f159, ef159, hd_f159, hdy⟩ : ∃ f159 : Nat → Nat, f159 = kv_up d135 k207 ((z155 % 65536).toNat) ∧ (∀ j, f159 j < 65536) ∧ kz_dy (dC, dI) vwCl A s.heap H locs [(me, .inl (cI, 18, .inl (kz_dg f159))), (t, .inl (cI, 16, .inl (kz_dg d136)))] := ⟨_, rfl, kv_up_lt hd_d135 (by omega), hP, hD, hS⟩
                                              refine lv_lload hx hb zd_N_remain_264 (lv_at hl 0 rfl) ?_
                                              refine lv_bipush (v := (nI (16))) hx hb zd_N_remain_266 (by decide) ?_
                                              refine lv_lshr hx hb zd_N_remain_268 (kz_lz_shr (z := z155) (by omega) (by omega)) ?_
                                              refine lv_topl (fun yl161 h9 => ?_)
                                              obtain ⟨z160, ez160, rfl⟩ : ∃ z : Int, z = z155 / 65536 ∧ yl161 = kz_lz z := ⟨_, rfl, h9⟩
                                              refine lv_lstore (lv' := [(10, .long (kz_lz (z160))), (12, .int (nI (k207))), (8, .long (kz_lz (z128))), (6, .long (kz_lz (z125))), (5, .int (nI (k78p))), (3, .long (kz_lz (z10))), (2, .int (nI (k3))), (0, .ref o), (1, .ref t)]) hx hb zd_N_remain_269 hl (by decide) rfl (fun ls hl => ?_)
                                              refine lv_iinc (v := (nI (k207 + 1))) (lv' := [(12, .int (nI (k207 + 1))), (10, .long (kz_lz (z160))), (8, .long (kz_lz (z128))), (6, .long (kz_lz (z125))), (5, .int (nI (k78p))), (3, .long (kz_lz (z10))), (2, .int (nI (k3))), (0, .ref o), (1, .ref t)]) hx hb zd_N_remain_271 hl (k := 1) rfl (nI_1 _) (by decide) rfl (fun ls hl => ?_)
                                              refine lv_goto (tgt := 207) hx hb zd_N_remain_274 (by decide) ?_
                                              have hi9_hlo162 : -8589934592 ≤ z160 := by omega
                                              have hi9_hhi163 : z160 ≤ 1 := by omega
                                              have hi9_hI164 : ((kv_val f159 (k207 + 1) : Nat) : Int) + z160 * (65536 : Int) ^ (k207 + 1) = ((kv_val d24 (k207 + 1) : Nat) : Int) - z128 * ((kv_val (kv_m18 gmm) (k207 + 1) : Nat) : Int) := by rw [ef159, ez160]; exact kv_subStep hI ht9
                                              have hi9_hge165 : ∀ j, k207 + 1 ≤ j → f159 j = d24 j := by intro j hj; rw [ef159, kv_up_ne _ _ (by omega)]; exact hge j (by omega)
                                              exact ih207 (k207 + 1) (z160) f159 d136 _ _ _ (by omega) (by omega) hd_f159 hd_d136 hi9_hlo162 hi9_hhi163 hi9_hI164 hi9_hge165 hdy (lv_sub hl [0, 1, 2, 3, 4, 5, 6, 7, 8] rfl)
                                      have hi9_hlo166 : -8589934592 ≤ z132 := by omega
                                      have hi9_hhi167 : z132 ≤ 1 := by omega
                                      have hi9_hI168 : ((kv_val d24 (0) : Nat) : Int) + z132 * (65536 : Int) ^ (0) = ((kv_val d24 (0) : Nat) : Int) - z128 * ((kv_val (kv_m18 gmm) (0) : Nat) : Int) := by rw [ez132]; show (0 : Int) + 0 * _ = 0 - z128 * 0; omega
                                      have hi9_hge169 : ∀ j, 0 ≤ j → d24 j = d24 j := by exact fun _ _ => rfl
                                      exact lp207 (18 - 0 + 1) 0 (z132) d24 d25 _ _ _ (by omega) (by omega) hd_d24 hd_d25 hi9_hlo166 hi9_hhi167 hi9_hI168 hi9_hge169 hdy (lv_sub hl [0, 1, 2, 3, 4, 5, 6, 7, 8] rfl)
                                    · have hc190 : z128 < 1 := (kz_lz_lt (by omega) (by omega) (by omega) (by omega)).mp hc190
                                      refine lv_lconst (v := 1) hx hb zd_N_remain_193 (by decide) ?_
                                      refine lv_topl (fun yl170 h9 => ?_)
                                      obtain rfl : yl170 = kz_lz (1) := h9.trans (kz_lz_c1)
                                      refine lv_goto (tgt := 199) hx hb zd_N_remain_194 (by decide) ?_
                                      refine lv_topl (fun yl172 h9 => ?_)
                                      obtain ⟨z171, ez171, rfl⟩ : ∃ z : Int, z = 1 ∧ yl172 = kz_lz z := ⟨_, rfl, h9⟩
                                      refine lv_lstore (lv' := [(8, .long (kz_lz (z171))), (6, .long (kz_lz (z125))), (5, .int (nI (k78p))), (3, .long (kz_lz (z10))), (2, .int (nI (k3))), (0, .ref o), (1, .ref t)]) hx hb zd_N_remain_199 hl (by decide) rfl (fun ls hl => ?_)
                                      have hQ0 : 1 ≤ z171 := by omega
                                      have hQ1 : z171 < 4294967296 := by omega
                                      have hQ2 : z171.toNat * kv_val (kv_m18 gmm) 18 ≤ kv_val d24 18 := by have h8 : z171.toNat = 1 := (by omega); rw [h8, Nat.one_mul]; exact q27 hc132
                                      refine lv_lconst (v := 0) hx hb zd_N_remain_201 (by decide) ?_
                                      refine lv_topl (fun yl173 h9 => ?_)
                                      obtain rfl : yl173 = kz_lz (0) := h9.trans (kz_lz_c0)
                                      refine lv_topl (fun yl175 h9 => ?_)
                                      obtain ⟨z174, ez174, rfl⟩ : ∃ z : Int, z = 0 ∧ yl175 = kz_lz z := ⟨_, rfl, h9⟩
                                      refine lv_lstore (lv' := [(10, .long (kz_lz (z174))), (8, .long (kz_lz (z171))), (6, .long (kz_lz (z125))), (5, .int (nI (k78p))), (3, .long (kz_lz (z10))), (2, .int (nI (k3))), (0, .ref o), (1, .ref t)]) hx hb zd_N_remain_202 hl (by decide) rfl (fun ls hl => ?_)
                                      refine lv_iconst (v := (nI (0))) hx hb zd_N_remain_204 (by decide) ?_
                                      refine lv_istore (lv' := [(12, .int (nI (0))), (10, .long (kz_lz (z174))), (8, .long (kz_lz (z171))), (6, .long (kz_lz (z125))), (5, .int (nI (k78p))), (3, .long (kz_lz (z10))), (2, .int (nI (k3))), (0, .ref o), (1, .ref t)]) hx hb zd_N_remain_205 hl (by decide) rfl (fun ls hl => ?_)
                                      have lp207 : ∀ (n207 k207 : Nat) (z176 : Int) (d177 : Nat → Nat) (d178 : Nat → Nat) (H : Heap) (locs : List Loc) (ls : Array Slot), k207 ≤ 18 → 18 - k207 < n207 → (∀ j, d177 j < 65536) → (∀ j, d178 j < 65536) → (-8589934592 ≤ z176) → (z176 ≤ 1) → (((kv_val d177 (k207) : Nat) : Int) + z176 * (65536 : Int) ^ (k207) = ((kv_val d24 (k207) : Nat) : Int) - z171 * ((kv_val (kv_m18 gmm) (k207) : Nat) : Int)) → (∀ j, k207 ≤ j → d177 j = d24 j) → kz_dy (dC, dI) vwCl A s.heap H locs [(me, .inl (cI, 18, .inl (kz_dg d177))), (t, .inl (cI, 16, .inl (kz_dg d178)))] → lv_has ls 13 [(12, .int (nI (k207))), (10, .long (kz_lz (z176))), (8, .long (kz_lz (z171))), (6, .long (kz_lz (z125))), (5, .int (nI (k78p))), (3, .long (kz_lz (z10))), (2, .int (nI (k3))), (0, .ref o), (1, .ref t)] → W p l e { frames := 1, cells := 0, slots := 0, locals := 23 } s m ([.ref o, .ref t] : List Value).toArray below meth c H locs 0 0 (MQ below (va_Qv (fun (u : (Nat → Nat) × (Nat → Nat)) => (∀ j, u.1 j < 65536) ∧ (∀ j, u.2 j < 65536) ∧ True) (kz_B (dC, dI) vwCl A (fun u : (Nat → Nat) × (Nat → Nat) => [(me, .inl (cI, 18, .inl (kz_dg u.1))), (t, .inl (cI, 16, .inl (kz_dg u.2)))])) A) ([.ref o, .ref t] : List Value).toArray s 0 0 A) (F0 m 207 ls []) := by
                                        intro n207
                                        induction n207 with
                                        | zero => intro k207; intros; omega
                                        | succ n207 ih207 =>
                                          intro k207 z176 d177 d178 H locs ls hi207 hn207 hd_d177 hd_d178 hlo hhi hI hge hdy hl
                                          refine lv_iload hx hb zd_N_remain_207 (lv_at hl 0 rfl) ?_
                                          refine lv_bipush (v := (nI (18))) hx hb zd_N_remain_209 (by decide) ?_
                                          refine lv_icmp_ge (tgt := 277) hx hb zd_N_remain_211 (by decide) (fun hc211 => ?_) (fun hc211 => ?_)
                                          · have hc211 : 18 ≤ k207 := (nI_leI (by omega) (by omega)).mp hc211
                                            refine lv_goto (tgt := 127) hx hb zd_N_remain_277 (by decide) ?_
                                            have hms127 : kv_val d177 18 < n127 := by have h18 : k207 = 18 := (by omega); subst h18; have h8 := kv_subEnd (q := z171.toNat) hd_d177 hd_d24 (by omega) hmv hQ2 (by have h7 : ((z171.toNat : Nat) : Int) = z171 := (by omega); rw [h7]; exact hI); omega
                                            exact ih127 d177 d178 _ _ _ hms127 hd_d177 hd_d178 hdy (lv_sub hl [4, 5, 6, 7, 8] rfl)
                                          · have hc211 : ¬ 18 ≤ k207 := fun h9 => hc211 ((nI_leI (by omega) (by omega)).mpr h9)
                                            refine lv_lload hx hb zd_N_remain_214 (lv_at hl 1 rfl) ?_
                                            refine lv_aload_n hx hb zd_N_remain_216 rfl (lv_at hl 7 rfl) ?_
                                            refine va_get (D := (dC, dI)) (ci := 4) (v := .ref me) (C := zR_N) (T := zT_N) (N := 26) hx hb hts (fun w h => kz_c (zi_N w h)) hown hK (hro.ob hdy.2.2 (k := 0) rfl) 0 rfl rfl 14 (by decide) (hts _ (kz_c mw_605)) (fun _ h9 => h9) rfl zd_N_remain_217 ?_
                                            refine lv_iload hx hb zd_N_remain_220 (lv_at hl 0 rfl) ?_
                                            refine va_iald hx hb hK hdy.1 0 0 rfl rfl (vp_in_nI (by omega) (by omega)) zd_N_remain_222 ?_
                                            refine lv_topi (fun x179 h9 => ?_)
                                            obtain rfl : x179 = nI (d177 k207) := h9.trans (kz_dgl d177 (by omega))
                                            have hbx179 := hd_d177 k207
                                            refine lv_i2l hx hb zd_N_remain_223 (kz_lz_i (n := d177 k207) (by omega)) ?_
                                            refine lv_ladd hx hb zd_N_remain_224 ?_
                                            refine lv_topl (fun yl180 h9 => ?_)
                                            obtain rfl : yl180 = kz_lz (z176 + (((d177 k207 : Nat) : Int))) := h9.trans (kz_lz_add _ _)
                                            refine lv_iload hx hb zd_N_remain_225 (lv_at hl 0 rfl) ?_
                                            refine lv_bipush (v := (nI (16))) hx hb zd_N_remain_227 (by decide) ?_
                                            refine lv_icmp_ge (tgt := 246) hx hb zd_N_remain_229 (by decide) (fun hc229 => ?_) (fun hc229 => ?_)
                                            · have hc229 : 16 ≤ k207 := (nI_leI (by omega) (by omega)).mp hc229
                                              refine lv_lconst (v := 0) hx hb zd_N_remain_246 (by decide) ?_
                                              refine lv_topl (fun yl181 h9 => ?_)
                                              obtain rfl : yl181 = kz_lz (0) := h9.trans (kz_lz_c0)
                                              refine lv_lsub hx hb zd_N_remain_247 ?_
                                              refine lv_topl (fun yl182 h9 => ?_)
                                              obtain rfl : yl182 = kz_lz ((z176 + (((d177 k207 : Nat) : Int))) - 0) := h9.trans (kz_lz_sub _ _)
                                              refine lv_topl (fun yl184 h9 => ?_)
                                              obtain ⟨z183, ez183, rfl⟩ : ∃ z : Int, z = (z176 + (((d177 k207 : Nat) : Int))) - 0 ∧ yl184 = kz_lz z := ⟨_, rfl, h9⟩
                                              refine lv_lstore (lv' := [(10, .long (kz_lz (z183))), (12, .int (nI (k207))), (8, .long (kz_lz (z171))), (6, .long (kz_lz (z125))), (5, .int (nI (k78p))), (3, .long (kz_lz (z10))), (2, .int (nI (k3))), (0, .ref o), (1, .ref t)]) hx hb zd_N_remain_248 hl (by decide) rfl (fun ls hl => ?_)
                                              have hm9 := kv_qm (q := z171) (by omega) hQ1 (hd_gmm k207)
                                              have ht9 : z183 = z176 + ((d24 k207 : Nat) : Int) - z171 * ((kv_m18 gmm k207 : Nat) : Int) := by rw [ez183, ← hge k207 (Nat.le_refl _)]; unfold kv_m18; first | (rw [if_pos (by omega)]; done) | (rw [if_neg (by omega)]; show _ = _ - z171 * 0; omega)
                                              refine lv_aload_n hx hb zd_N_remain_250 rfl (lv_at hl 7 rfl) ?_
                                              refine va_get (D := (dC, dI)) (ci := 4) (v := .ref me) (C := zR_N) (T := zT_N) (N := 26) hx hb hts (fun w h => kz_c (zi_N w h)) hown hK (hro.ob hdy.2.2 (k := 0) rfl) 0 rfl rfl 14 (by decide) (hts _ (kz_c mw_605)) (fun _ h9 => h9) rfl zd_N_remain_251 ?_
                                              refine lv_iload hx hb zd_N_remain_254 (lv_at hl 1 rfl) ?_
                                              refine lv_lload hx hb zd_N_remain_256 (lv_at hl 0 rfl) ?_
                                              refine lv_ldc2 (v := (65535)) hx hb hown (hts _ (kz_c mw_708)) zd_N_remain_258 ?_
                                              refine lv_topl (fun yl185 h9 => ?_)
                                              obtain rfl : yl185 = kz_lz (65535) := h9.trans (kz_lz_c65535)
                                              refine lv_land hx hb zd_N_remain_261 ?_
                                              refine lv_topl (fun yl186 h9 => ?_)
                                              obtain rfl : yl186 = kz_lz (z183 % 65536) := h9.trans (kz_lz_andz _)
                                              refine lv_l2i hx hb zd_N_remain_262 (kz_lz_i16 (z183)) ?_
                                              refine va_iast hx hb hK hdy.1 hdy.2.1 hdy.2.2 0 0 rfl rfl (vp_in_nI (by omega) (by omega)) zd_N_remain_263 (fun H locs hP hD hS => ?_)
                                              have h9 := kz_dgu d177 (k := k207) ((z183 % 65536).toNat) (by omega)
                                              rw [h9] at hP hD
                                              obtain ⟨f187, ef187, hd_f187, hdy⟩ : ∃ f187 : Nat → Nat, f187 = kv_up d177 k207 ((z183 % 65536).toNat) ∧ (∀ j, f187 j < 65536) ∧ kz_dy (dC, dI) vwCl A s.heap H locs [(me, .inl (cI, 18, .inl (kz_dg f187))), (t, .inl (cI, 16, .inl (kz_dg d178)))] := ⟨_, rfl, kv_up_lt hd_d177 (by omega), hP, hD, hS⟩
                                              refine lv_lload hx hb zd_N_remain_264 (lv_at hl 0 rfl) ?_
                                              refine lv_bipush (v := (nI (16))) hx hb zd_N_remain_266 (by decide) ?_
                                              refine lv_lshr hx hb zd_N_remain_268 (kz_lz_shr (z := z183) (by omega) (by omega)) ?_
                                              refine lv_topl (fun yl189 h9 => ?_)
                                              obtain ⟨z188, ez188, rfl⟩ : ∃ z : Int, z = z183 / 65536 ∧ yl189 = kz_lz z := ⟨_, rfl, h9⟩
                                              refine lv_lstore (lv' := [(10, .long (kz_lz (z188))), (12, .int (nI (k207))), (8, .long (kz_lz (z171))), (6, .long (kz_lz (z125))), (5, .int (nI (k78p))), (3, .long (kz_lz (z10))), (2, .int (nI (k3))), (0, .ref o), (1, .ref t)]) hx hb zd_N_remain_269 hl (by decide) rfl (fun ls hl => ?_)
                                              refine lv_iinc (v := (nI (k207 + 1))) (lv' := [(12, .int (nI (k207 + 1))), (10, .long (kz_lz (z188))), (8, .long (kz_lz (z171))), (6, .long (kz_lz (z125))), (5, .int (nI (k78p))), (3, .long (kz_lz (z10))), (2, .int (nI (k3))), (0, .ref o), (1, .ref t)]) hx hb zd_N_remain_271 hl (k := 1) rfl (nI_1 _) (by decide) rfl (fun ls hl => ?_)
                                              refine lv_goto (tgt := 207) hx hb zd_N_remain_274 (by decide) ?_
                                              have hi9_hlo190 : -8589934592 ≤ z188 := by omega
                                              have hi9_hhi191 : z188 ≤ 1 := by omega
                                              have hi9_hI192 : ((kv_val f187 (k207 + 1) : Nat) : Int) + z188 * (65536 : Int) ^ (k207 + 1) = ((kv_val d24 (k207 + 1) : Nat) : Int) - z171 * ((kv_val (kv_m18 gmm) (k207 + 1) : Nat) : Int) := by rw [ef187, ez188]; exact kv_subStep hI ht9
                                              have hi9_hge193 : ∀ j, k207 + 1 ≤ j → f187 j = d24 j := by intro j hj; rw [ef187, kv_up_ne _ _ (by omega)]; exact hge j (by omega)
                                              exact ih207 (k207 + 1) (z188) f187 d178 _ _ _ (by omega) (by omega) hd_f187 hd_d178 hi9_hlo190 hi9_hhi191 hi9_hI192 hi9_hge193 hdy (lv_sub hl [0, 1, 2, 3, 4, 5, 6, 7, 8] rfl)
                                            · have hc229 : ¬ 16 ≤ k207 := fun h9 => hc229 ((nI_leI (by omega) (by omega)).mpr h9)
                                              refine lv_lload hx hb zd_N_remain_232 (lv_at hl 2 rfl) ?_
                                              refine lv_aload_n hx hb zd_N_remain_234 rfl (lv_at hl 7 rfl) ?_
                                              refine va_get (D := (dC, dI)) (ci := 4) (v := .ref mm) (C := zR_N) (T := zT_N) (N := 26) hx hb hts (fun w h => kz_c (zi_N w h)) hown hK (hro.ob hdy.2.2 (k := 0) rfl) 0 rfl rfl 9 (by decide) (hts _ (kz_c mw_600)) (fun _ h9 => h9) rfl zd_N_remain_235 ?_
                                              refine lv_iload hx hb zd_N_remain_238 (lv_at hl 0 rfl) ?_
                                              refine kz_riald hx hb hK hro hdy.2.2 1 0 rfl rfl (vp_in_nI (by omega) (by omega)) zd_N_remain_240 ?_
                                              refine lv_topi (fun x194 h9 => ?_)
                                              obtain rfl : x194 = nI (gmm k207) := h9.trans (kz_dgl gmm (by omega))
                                              have hbx194 := hd_gmm k207
                                              refine lv_i2l hx hb zd_N_remain_241 (kz_lz_i (n := gmm k207) (by omega)) ?_
                                              refine lv_lmul hx hb zd_N_remain_242 ?_
                                              refine lv_topl (fun yl195 h9 => ?_)
                                              obtain rfl : yl195 = kz_lz (z171 * (((gmm k207 : Nat) : Int))) := h9.trans (kz_lz_mul _ _)
                                              refine lv_goto (tgt := 247) hx hb zd_N_remain_243 (by decide) ?_
                                              refine lv_lsub hx hb zd_N_remain_247 ?_
                                              refine lv_topl (fun yl196 h9 => ?_)
                                              obtain rfl : yl196 = kz_lz ((z176 + (((d177 k207 : Nat) : Int))) - (z171 * (((gmm k207 : Nat) : Int)))) := h9.trans (kz_lz_sub _ _)
                                              refine lv_topl (fun yl198 h9 => ?_)
                                              obtain ⟨z197, ez197, rfl⟩ : ∃ z : Int, z = (z176 + (((d177 k207 : Nat) : Int))) - (z171 * (((gmm k207 : Nat) : Int))) ∧ yl198 = kz_lz z := ⟨_, rfl, h9⟩
                                              refine lv_lstore (lv' := [(10, .long (kz_lz (z197))), (12, .int (nI (k207))), (8, .long (kz_lz (z171))), (6, .long (kz_lz (z125))), (5, .int (nI (k78p))), (3, .long (kz_lz (z10))), (2, .int (nI (k3))), (0, .ref o), (1, .ref t)]) hx hb zd_N_remain_248 hl (by decide) rfl (fun ls hl => ?_)
                                              have hm9 := kv_qm (q := z171) (by omega) hQ1 (hd_gmm k207)
                                              have ht9 : z197 = z176 + ((d24 k207 : Nat) : Int) - z171 * ((kv_m18 gmm k207 : Nat) : Int) := by rw [ez197, ← hge k207 (Nat.le_refl _)]; unfold kv_m18; first | (rw [if_pos (by omega)]; done) | (rw [if_neg (by omega)]; show _ = _ - z171 * 0; omega)
                                              refine lv_aload_n hx hb zd_N_remain_250 rfl (lv_at hl 7 rfl) ?_
                                              refine va_get (D := (dC, dI)) (ci := 4) (v := .ref me) (C := zR_N) (T := zT_N) (N := 26) hx hb hts (fun w h => kz_c (zi_N w h)) hown hK (hro.ob hdy.2.2 (k := 0) rfl) 0 rfl rfl 14 (by decide) (hts _ (kz_c mw_605)) (fun _ h9 => h9) rfl zd_N_remain_251 ?_
                                              refine lv_iload hx hb zd_N_remain_254 (lv_at hl 1 rfl) ?_
                                              refine lv_lload hx hb zd_N_remain_256 (lv_at hl 0 rfl) ?_
                                              refine lv_ldc2 (v := (65535)) hx hb hown (hts _ (kz_c mw_708)) zd_N_remain_258 ?_
                                              refine lv_topl (fun yl199 h9 => ?_)
                                              obtain rfl : yl199 = kz_lz (65535) := h9.trans (kz_lz_c65535)
                                              refine lv_land hx hb zd_N_remain_261 ?_
                                              refine lv_topl (fun yl200 h9 => ?_)
                                              obtain rfl : yl200 = kz_lz (z197 % 65536) := h9.trans (kz_lz_andz _)
                                              refine lv_l2i hx hb zd_N_remain_262 (kz_lz_i16 (z197)) ?_
                                              refine va_iast hx hb hK hdy.1 hdy.2.1 hdy.2.2 0 0 rfl rfl (vp_in_nI (by omega) (by omega)) zd_N_remain_263 (fun H locs hP hD hS => ?_)
                                              have h9 := kz_dgu d177 (k := k207) ((z197 % 65536).toNat) (by omega)
                                              rw [h9] at hP hD
                                              obtain ⟨f201, ef201, hd_f201, hdy⟩ : ∃ f201 : Nat → Nat, f201 = kv_up d177 k207 ((z197 % 65536).toNat) ∧ (∀ j, f201 j < 65536) ∧ kz_dy (dC, dI) vwCl A s.heap H locs [(me, .inl (cI, 18, .inl (kz_dg f201))), (t, .inl (cI, 16, .inl (kz_dg d178)))] := ⟨_, rfl, kv_up_lt hd_d177 (by omega), hP, hD, hS⟩
                                              refine lv_lload hx hb zd_N_remain_264 (lv_at hl 0 rfl) ?_
                                              refine lv_bipush (v := (nI (16))) hx hb zd_N_remain_266 (by decide) ?_
                                              refine lv_lshr hx hb zd_N_remain_268 (kz_lz_shr (z := z197) (by omega) (by omega)) ?_
                                              refine lv_topl (fun yl203 h9 => ?_)
                                              obtain ⟨z202, ez202, rfl⟩ : ∃ z : Int, z = z197 / 65536 ∧ yl203 = kz_lz z := ⟨_, rfl, h9⟩
                                              refine lv_lstore (lv' := [(10, .long (kz_lz (z202))), (12, .int (nI (k207))), (8, .long (kz_lz (z171))), (6, .long (kz_lz (z125))), (5, .int (nI (k78p))), (3, .long (kz_lz (z10))), (2, .int (nI (k3))), (0, .ref o), (1, .ref t)]) hx hb zd_N_remain_269 hl (by decide) rfl (fun ls hl => ?_)
                                              refine lv_iinc (v := (nI (k207 + 1))) (lv' := [(12, .int (nI (k207 + 1))), (10, .long (kz_lz (z202))), (8, .long (kz_lz (z171))), (6, .long (kz_lz (z125))), (5, .int (nI (k78p))), (3, .long (kz_lz (z10))), (2, .int (nI (k3))), (0, .ref o), (1, .ref t)]) hx hb zd_N_remain_271 hl (k := 1) rfl (nI_1 _) (by decide) rfl (fun ls hl => ?_)
                                              refine lv_goto (tgt := 207) hx hb zd_N_remain_274 (by decide) ?_
                                              have hi9_hlo204 : -8589934592 ≤ z202 := by omega
                                              have hi9_hhi205 : z202 ≤ 1 := by omega
                                              have hi9_hI206 : ((kv_val f201 (k207 + 1) : Nat) : Int) + z202 * (65536 : Int) ^ (k207 + 1) = ((kv_val d24 (k207 + 1) : Nat) : Int) - z171 * ((kv_val (kv_m18 gmm) (k207 + 1) : Nat) : Int) := by rw [ef201, ez202]; exact kv_subStep hI ht9
                                              have hi9_hge207 : ∀ j, k207 + 1 ≤ j → f201 j = d24 j := by intro j hj; rw [ef201, kv_up_ne _ _ (by omega)]; exact hge j (by omega)
                                              exact ih207 (k207 + 1) (z202) f201 d178 _ _ _ (by omega) (by omega) hd_f201 hd_d178 hi9_hlo204 hi9_hhi205 hi9_hI206 hi9_hge207 hdy (lv_sub hl [0, 1, 2, 3, 4, 5, 6, 7, 8] rfl)
                                      have hi9_hlo208 : -8589934592 ≤ z174 := by omega
                                      have hi9_hhi209 : z174 ≤ 1 := by omega
                                      have hi9_hI210 : ((kv_val d24 (0) : Nat) : Int) + z174 * (65536 : Int) ^ (0) = ((kv_val d24 (0) : Nat) : Int) - z171 * ((kv_val (kv_m18 gmm) (0) : Nat) : Int) := by rw [ez174]; show (0 : Int) + 0 * _ = 0 - z171 * 0; omega
                                      have hi9_hge211 : ∀ j, 0 ≤ j → d24 j = d24 j := by exact fun _ _ => rfl
                                      exact lp207 (18 - 0 + 1) 0 (z174) d24 d25 _ _ _ (by omega) (by omega) hd_d24 hd_d25 hi9_hlo208 hi9_hhi209 hi9_hI210 hi9_hge211 hdy (lv_sub hl [0, 1, 2, 3, 4, 5, 6, 7, 8] rfl)
                            exact lp127 (kv_val f23 18 + 1) f23 d21 _ _ _ (Nat.lt_succ_self _) hd_f23 hd_d21 hdy (lv_sub hl [1, 2, 3, 4, 5] rfl)
                          · have hc89 : ¬ k87 ≤ 0 := fun h9 => hc89 (by have h8 := (nI_leI (by omega) (by omega)).mpr h9; rw [nI_0] at h8; exact h8)
                            refine lv_aload_n hx hb zd_N_remain_92 rfl (lv_at hl 4 rfl) ?_
                            refine va_get (D := (dC, dI)) (ci := 4) (v := .ref me) (C := zR_N) (T := zT_N) (N := 26) hx hb hts (fun w h => kz_c (zi_N w h)) hown hK (hro.ob hdy.2.2 (k := 0) rfl) 0 rfl rfl 14 (by decide) (hts _ (kz_c mw_605)) (fun _ h9 => h9) rfl zd_N_remain_93 ?_
                            refine lv_iload hx hb zd_N_remain_96 (lv_at hl 0 rfl) ?_
                            refine lv_aload_n hx hb zd_N_remain_98 rfl (lv_at hl 4 rfl) ?_
                            refine va_get (D := (dC, dI)) (ci := 4) (v := .ref me) (C := zR_N) (T := zT_N) (N := 26) hx hb hts (fun w h => kz_c (zi_N w h)) hown hK (hro.ob hdy.2.2 (k := 0) rfl) 0 rfl rfl 14 (by decide) (hts _ (kz_c mw_605)) (fun _ h9 => h9) rfl zd_N_remain_99 ?_
                            refine lv_iload hx hb zd_N_remain_102 (lv_at hl 0 rfl) ?_
                            refine lv_iconst (v := (nI (1))) hx hb zd_N_remain_104 (by decide) ?_
                            refine kz_isub hx hb zd_N_remain_105 (pk_sub (by omega)) ?_
                            refine va_iald hx hb hK hdy.1 0 0 rfl rfl (vp_in_nI (by omega) (by omega)) zd_N_remain_106 ?_
                            refine lv_topi (fun x212 h9 => ?_)
                            obtain rfl : x212 = nI (d20 (k87 - 1)) := h9.trans (kz_dgl d20 (by omega))
                            have hbx212 := hd_d20 (k87 - 1)
                            refine va_iast hx hb hK hdy.1 hdy.2.1 hdy.2.2 0 0 rfl rfl (vp_in_nI (by omega) (by omega)) zd_N_remain_107 (fun H locs hP hD hS => ?_)
                            have h9 := kz_dgu d20 (k := k87) (d20 (k87 - 1)) (by omega)
                            rw [h9] at hP hD
                            obtain ⟨f213, ef213, hd_f213, hdy⟩ : ∃ f213 : Nat → Nat, f213 = kv_up d20 k87 (d20 (k87 - 1)) ∧ (∀ j, f213 j < 65536) ∧ kz_dy (dC, dI) vwCl A s.heap H locs [(me, .inl (cI, 18, .inl (kz_dg f213))), (t, .inl (cI, 16, .inl (kz_dg d21)))] := ⟨_, rfl, kv_up_lt hd_d20 (by omega), hP, hD, hS⟩
                            refine lv_iinc (v := (nI (k87 - 1))) (lv' := [(6, .int (nI (k87 - 1))), (5, .int (nI (k78p))), (3, .long (kz_lz (z10))), (2, .int (nI (k3))), (0, .ref o), (1, .ref t)]) hx hb zd_N_remain_108 hl (k := 0) rfl (kz_dec (by omega)) (by decide) rfl (fun ls hl => ?_)
                            refine lv_goto (tgt := 87) hx hb zd_N_remain_111 (by decide) ?_
                            exact ih87 (k87 - 1) f213 d21 _ _ _ (by omega) (by omega) hd_f213 hd_d21 hdy (lv_sub hl [0, 1, 2, 3, 4, 5] rfl)
                      exact lp87 (17 + 1) 17 d14 d15 _ _ _ (by omega) (by omega) hd_d14 hd_d15 hdy (lv_sub hl [0, 1, 2, 3, 4, 5] rfl)
                exact lp78 (32 + 1) 32 d12 d13 _ _ _ (by omega) (by omega) hd_d12 hd_d13 hdy (lv_sub hl [0, 1, 2, 3, 4] rfl)
              · have hc57 : ¬ 18 ≤ k53 := fun h9 => hc57 ((nI_leI (by omega) (by omega)).mpr h9)
                refine lv_aload_n hx hb zd_N_remain_60 rfl (lv_at hl 3 rfl) ?_
                refine va_get (D := (dC, dI)) (ci := 4) (v := .ref me) (C := zR_N) (T := zT_N) (N := 26) hx hb hts (fun w h => kz_c (zi_N w h)) hown hK (hro.ob hdy.2.2 (k := 0) rfl) 0 rfl rfl 14 (by decide) (hts _ (kz_c mw_605)) (fun _ h9 => h9) rfl zd_N_remain_61 ?_
                refine lv_iload hx hb zd_N_remain_64 (lv_at hl 0 rfl) ?_
                refine lv_iconst (v := (nI (0))) hx hb zd_N_remain_66 (by decide) ?_
                refine va_iast hx hb hK hdy.1 hdy.2.1 hdy.2.2 0 0 rfl rfl (vp_in_nI (by omega) (by omega)) zd_N_remain_67 (fun H locs hP hD hS => ?_)
                have h9 := kz_dgu d12 (k := k53) 0 (by omega)
                rw [h9] at hP hD
                obtain ⟨f214, ef214, hd_f214, hdy⟩ : ∃ f214 : Nat → Nat, f214 = kv_up d12 k53 0 ∧ (∀ j, f214 j < 65536) ∧ kz_dy (dC, dI) vwCl A s.heap H locs [(me, .inl (cI, 18, .inl (kz_dg f214))), (t, .inl (cI, 16, .inl (kz_dg d13)))] := ⟨_, rfl, kv_up_lt hd_d12 (by omega), hP, hD, hS⟩
                refine lv_iinc (v := (nI (k53 + 1))) (lv' := [(5, .int (nI (k53 + 1))), (3, .long (kz_lz (z10))), (2, .int (nI (k3))), (0, .ref o), (1, .ref t)]) hx hb zd_N_remain_68 hl (k := 0) rfl (nI_1 _) (by decide) rfl (fun ls hl => ?_)
                refine lv_goto (tgt := 53) hx hb zd_N_remain_71 (by decide) ?_
                exact ih53 (k53 + 1) f214 d13 _ _ _ (by omega) (by omega) hd_f214 hd_d13 hdy (lv_sub hl [0, 1, 2, 3, 4] rfl)
          exact lp53 (18 - 0 + 1) 0 d1 d2 _ _ _ (by omega) (by omega) hd_d1 hd_d2 hdy (lv_sub hl [0, 1, 2, 3, 4] rfl)
        · have hc30 : ¬ k3 ≤ 0 := fun h9 => hc30 (by have h8 := (nI_leI (by omega) (by omega)).mpr h9; rw [nI_0] at h8; exact h8)
          refine lv_aload_n hx hb zd_N_remain_33 rfl (lv_at hl 1 rfl) ?_
          refine va_get (D := (dC, dI)) (ci := 4) (v := .ref mm) (C := zR_N) (T := zT_N) (N := 26) hx hb hts (fun w h => kz_c (zi_N w h)) hown hK (hro.ob hdy.2.2 (k := 0) rfl) 0 rfl rfl 9 (by decide) (hts _ (kz_c mw_600)) (fun _ h9 => h9) rfl zd_N_remain_34 ?_
          refine lv_iload_n hx hb zd_N_remain_37 rfl (lv_at hl 0 rfl) ?_
          refine lv_iconst (v := (nI (1))) hx hb zd_N_remain_38 (by decide) ?_
          refine kz_isub hx hb zd_N_remain_39 (pk_sub (by omega)) ?_
          refine kz_riald hx hb hK hro hdy.2.2 1 0 rfl rfl (vp_in_nI (by omega) (by omega)) zd_N_remain_40 ?_
          refine lv_topi (fun x215 h9 => ?_)
          obtain rfl : x215 = nI (gmm (k3 - 1)) := h9.trans (kz_dgl gmm (by omega))
          have hbx215 := hd_gmm (k3 - 1)
          refine lv_goto (tgt := 45) hx hb zd_N_remain_41 (by decide) ?_
          refine lv_i2l hx hb zd_N_remain_45 (kz_lz_i (n := gmm (k3 - 1)) (by omega)) ?_
          refine lv_ladd hx hb zd_N_remain_46 ?_
          refine lv_topl (fun yl216 h9 => ?_)
          obtain rfl : yl216 = kz_lz ((65536 * (((gmm k3 : Nat) : Int))) + (((gmm (k3 - 1) : Nat) : Int))) := h9.trans (kz_lz_add _ _)
          refine lv_lconst (v := 1) hx hb zd_N_remain_47 (by decide) ?_
          refine lv_topl (fun yl217 h9 => ?_)
          obtain rfl : yl217 = kz_lz (1) := h9.trans (kz_lz_c1)
          refine lv_ladd hx hb zd_N_remain_48 ?_
          refine lv_topl (fun yl218 h9 => ?_)
          obtain rfl : yl218 = kz_lz (((65536 * (((gmm k3 : Nat) : Int))) + (((gmm (k3 - 1) : Nat) : Int))) + 1) := h9.trans (kz_lz_add _ _)
          refine lv_topl (fun yl220 h9 => ?_)
          obtain ⟨z219, ez219, rfl⟩ : ∃ z : Int, z = ((65536 * (((gmm k3 : Nat) : Int))) + (((gmm (k3 - 1) : Nat) : Int))) + 1 ∧ yl220 = kz_lz z := ⟨_, rfl, h9⟩
          refine lv_lstore_n (lv' := [(3, .long (kz_lz (z219))), (2, .int (nI (k3))), (0, .ref o), (1, .ref t)]) hx hb zd_N_remain_49 rfl hl (by decide) rfl (fun ls hl => ?_)
          refine lv_iconst (v := (nI (0))) hx hb zd_N_remain_50 (by decide) ?_
          refine lv_istore (lv' := [(5, .int (nI (0))), (3, .long (kz_lz (z219))), (2, .int (nI (k3))), (0, .ref o), (1, .ref t)]) hx hb zd_N_remain_51 hl (by decide) rfl (fun ls hl => ?_)
          have lp53 : ∀ (n53 k53 : Nat) (d221 : Nat → Nat) (d222 : Nat → Nat) (H : Heap) (locs : List Loc) (ls : Array Slot), k53 ≤ 18 → 18 - k53 < n53 → (∀ j, d221 j < 65536) → (∀ j, d222 j < 65536) → kz_dy (dC, dI) vwCl A s.heap H locs [(me, .inl (cI, 18, .inl (kz_dg d221))), (t, .inl (cI, 16, .inl (kz_dg d222)))] → lv_has ls 13 [(5, .int (nI (k53))), (3, .long (kz_lz (z219))), (2, .int (nI (k3))), (0, .ref o), (1, .ref t)] → W p l e { frames := 1, cells := 0, slots := 0, locals := 23 } s m ([.ref o, .ref t] : List Value).toArray below meth c H locs 0 0 (MQ below (va_Qv (fun (u : (Nat → Nat) × (Nat → Nat)) => (∀ j, u.1 j < 65536) ∧ (∀ j, u.2 j < 65536) ∧ True) (kz_B (dC, dI) vwCl A (fun u : (Nat → Nat) × (Nat → Nat) => [(me, .inl (cI, 18, .inl (kz_dg u.1))), (t, .inl (cI, 16, .inl (kz_dg u.2)))])) A) ([.ref o, .ref t] : List Value).toArray s 0 0 A) (F0 m 53 ls []) := by
            intro n53
            induction n53 with
            | zero => intro k53; intros; omega
            | succ n53 ih53 =>
              intro k53 d221 d222 H locs ls hi53 hn53 hd_d221 hd_d222 hdy hl
              refine lv_iload hx hb zd_N_remain_53 (lv_at hl 0 rfl) ?_
              refine lv_bipush (v := (nI (18))) hx hb zd_N_remain_55 (by decide) ?_
              refine lv_icmp_ge (tgt := 74) hx hb zd_N_remain_57 (by decide) (fun hc57 => ?_) (fun hc57 => ?_)
              · have hc57 : 18 ≤ k53 := (nI_leI (by omega) (by omega)).mp hc57
                refine lv_bipush (v := (nI (31))) hx hb zd_N_remain_74 (by decide) ?_
                refine lv_istore (lv' := [(5, .int (nI (31))), (3, .long (kz_lz (z219))), (2, .int (nI (k3))), (0, .ref o), (1, .ref t)]) hx hb zd_N_remain_76 hl (by decide) rfl (fun ls hl => ?_)
                have lp78 : ∀ (n78 k78 : Nat) (d223 : Nat → Nat) (d224 : Nat → Nat) (H : Heap) (locs : List Loc) (ls : Array Slot), k78 ≤ 32 → k78 < n78 → (∀ j, d223 j < 65536) → (∀ j, d224 j < 65536) → kz_dy (dC, dI) vwCl A s.heap H locs [(me, .inl (cI, 18, .inl (kz_dg d223))), (t, .inl (cI, 16, .inl (kz_dg d224)))] → lv_has ls 13 [(5, .int (nI (k78) - 1)), (3, .long (kz_lz (z219))), (2, .int (nI (k3))), (0, .ref o), (1, .ref t)] → W p l e { frames := 1, cells := 0, slots := 0, locals := 23 } s m ([.ref o, .ref t] : List Value).toArray below meth c H locs 0 0 (MQ below (va_Qv (fun (u : (Nat → Nat) × (Nat → Nat)) => (∀ j, u.1 j < 65536) ∧ (∀ j, u.2 j < 65536) ∧ True) (kz_B (dC, dI) vwCl A (fun u : (Nat → Nat) × (Nat → Nat) => [(me, .inl (cI, 18, .inl (kz_dg u.1))), (t, .inl (cI, 16, .inl (kz_dg u.2)))])) A) ([.ref o, .ref t] : List Value).toArray s 0 0 A) (F0 m 78 ls []) := by
                  intro n78
                  induction n78 with
                  | zero => intro k78 d223 d224 H locs ls hi78 hn78; exact absurd hn78 (Nat.not_lt_zero _)
                  | succ n78 ih78 =>
                    intro k78 d223 d224 H locs ls hi78 hn78 hd_d223 hd_d224 hdy hl
                    refine lv_iload hx hb zd_N_remain_78 (lv_at hl 0 rfl) ?_
                    refine lv_if_lt (tgt := 286) hx hb zd_N_remain_80 (by decide) (fun hc80 => ?_) (fun hc80 => ?_)
                    · have hc80 : k78 = 0 := (kz_neg (by omega)).mp hc80
                      refine lv_iconst (v := (nI (0))) hx hb zd_N_remain_286 (by decide) ?_
                      refine lv_istore (lv' := [(5, .int (nI (0))), (3, .long (kz_lz (z219))), (2, .int (nI (k3))), (0, .ref o), (1, .ref t)]) hx hb zd_N_remain_287 hl (by decide) rfl (fun ls hl => ?_)
                      have lp289 : ∀ (n289 k289 : Nat) (d225 : Nat → Nat) (d226 : Nat → Nat) (H : Heap) (locs : List Loc) (ls : Array Slot), k289 ≤ 16 → 16 - k289 < n289 → (∀ j, d225 j < 65536) → (∀ j, d226 j < 65536) → kz_dy (dC, dI) vwCl A s.heap H locs [(me, .inl (cI, 18, .inl (kz_dg d225))), (t, .inl (cI, 16, .inl (kz_dg d226)))] → lv_has ls 13 [(5, .int (nI (k289))), (3, .long (kz_lz (z219))), (2, .int (nI (k3))), (0, .ref o), (1, .ref t)] → W p l e { frames := 1, cells := 0, slots := 0, locals := 23 } s m ([.ref o, .ref t] : List Value).toArray below meth c H locs 0 0 (MQ below (va_Qv (fun (u : (Nat → Nat) × (Nat → Nat)) => (∀ j, u.1 j < 65536) ∧ (∀ j, u.2 j < 65536) ∧ True) (kz_B (dC, dI) vwCl A (fun u : (Nat → Nat) × (Nat → Nat) => [(me, .inl (cI, 18, .inl (kz_dg u.1))), (t, .inl (cI, 16, .inl (kz_dg u.2)))])) A) ([.ref o, .ref t] : List Value).toArray s 0 0 A) (F0 m 289 ls []) := by
                        intro n289
                        induction n289 with
                        | zero => intro k289; intros; omega
                        | succ n289 ih289 =>
                          intro k289 d225 d226 H locs ls hi289 hn289 hd_d225 hd_d226 hdy hl
                          refine lv_iload hx hb zd_N_remain_289 (lv_at hl 0 rfl) ?_
                          refine lv_bipush (v := (nI (16))) hx hb zd_N_remain_291 (by decide) ?_
                          refine lv_icmp_ge (tgt := 313) hx hb zd_N_remain_293 (by decide) (fun hc293 => ?_) (fun hc293 => ?_)
                          · have hc293 : 16 ≤ k289 := (nI_leI (by omega) (by omega)).mp hc293
                            exact kz_vret F (d225, d226) hdy (⟨hd_d225, hd_d226, trivial⟩) zd_N_remain_313
                          · have hc293 : ¬ 16 ≤ k289 := fun h9 => hc293 ((nI_leI (by omega) (by omega)).mpr h9)
                            refine lv_aload_n hx hb zd_N_remain_296 rfl (lv_at hl 4 rfl) ?_
                            refine lv_iload hx hb zd_N_remain_297 (lv_at hl 0 rfl) ?_
                            refine lv_aload_n hx hb zd_N_remain_299 rfl (lv_at hl 3 rfl) ?_
                            refine va_get (D := (dC, dI)) (ci := 4) (v := .ref me) (C := zR_N) (T := zT_N) (N := 26) hx hb hts (fun w h => kz_c (zi_N w h)) hown hK (hro.ob hdy.2.2 (k := 0) rfl) 0 rfl rfl 14 (by decide) (hts _ (kz_c mw_605)) (fun _ h9 => h9) rfl zd_N_remain_300 ?_
                            refine lv_iload hx hb zd_N_remain_303 (lv_at hl 0 rfl) ?_
                            refine va_iald hx hb hK hdy.1 0 0 rfl rfl (vp_in_nI (by omega) (by omega)) zd_N_remain_305 ?_
                            refine lv_topi (fun x227 h9 => ?_)
                            obtain rfl : x227 = nI (d225 k289) := h9.trans (kz_dgl d225 (by omega))
                            have hbx227 := hd_d225 k289
                            refine va_iast hx hb hK hdy.1 hdy.2.1 hdy.2.2 1 0 rfl rfl (vp_in_nI (by omega) (by omega)) zd_N_remain_306 (fun H locs hP hD hS => ?_)
                            have h9 := kz_dgu d226 (k := k289) (d225 k289) (by omega)
                            rw [h9] at hP hD
                            obtain ⟨f228, ef228, hd_f228, hdy⟩ : ∃ f228 : Nat → Nat, f228 = kv_up d226 k289 (d225 k289) ∧ (∀ j, f228 j < 65536) ∧ kz_dy (dC, dI) vwCl A s.heap H locs [(me, .inl (cI, 18, .inl (kz_dg d225))), (t, .inl (cI, 16, .inl (kz_dg f228)))] := ⟨_, rfl, kv_up_lt hd_d226 (by omega), hP, hD, hS⟩
                            refine lv_iinc (v := (nI (k289 + 1))) (lv' := [(5, .int (nI (k289 + 1))), (3, .long (kz_lz (z219))), (2, .int (nI (k3))), (0, .ref o), (1, .ref t)]) hx hb zd_N_remain_307 hl (k := 0) rfl (nI_1 _) (by decide) rfl (fun ls hl => ?_)
                            refine lv_goto (tgt := 289) hx hb zd_N_remain_310 (by decide) ?_
                            exact ih289 (k289 + 1) d225 f228 _ _ _ (by omega) (by omega) hd_d225 hd_f228 hdy (lv_sub hl [0, 1, 2, 3, 4] rfl)
                      exact lp289 (16 - 0 + 1) 0 d223 d224 _ _ _ (by omega) (by omega) hd_d223 hd_d224 hdy (lv_sub hl [0, 1, 2, 3, 4] rfl)
                    · have hc80 : ¬ k78 = 0 := fun h9 => hc80 ((kz_neg (by omega)).mpr h9)
                      obtain ⟨k78p, rfl⟩ : ∃ j, k78 = j + 1 := ⟨k78 - 1, by omega⟩
                      rw [nI_pred] at hl
                      refine lv_bipush (v := (nI (17))) hx hb zd_N_remain_83 (by decide) ?_
                      refine lv_istore (lv' := [(6, .int (nI (17))), (5, .int (nI (k78p))), (3, .long (kz_lz (z219))), (2, .int (nI (k3))), (0, .ref o), (1, .ref t)]) hx hb zd_N_remain_85 hl (by decide) rfl (fun ls hl => ?_)
                      have lp87 : ∀ (n87 k87 : Nat) (d229 : Nat → Nat) (d230 : Nat → Nat) (H : Heap) (locs : List Loc) (ls : Array Slot), k87 ≤ 17 → k87 < n87 → (∀ j, d229 j < 65536) → (∀ j, d230 j < 65536) → kz_dy (dC, dI) vwCl A s.heap H locs [(me, .inl (cI, 18, .inl (kz_dg d229))), (t, .inl (cI, 16, .inl (kz_dg d230)))] → lv_has ls 13 [(6, .int (nI (k87))), (5, .int (nI (k78p))), (3, .long (kz_lz (z219))), (2, .int (nI (k3))), (0, .ref o), (1, .ref t)] → W p l e { frames := 1, cells := 0, slots := 0, locals := 23 } s m ([.ref o, .ref t] : List Value).toArray below meth c H locs 0 0 (MQ below (va_Qv (fun (u : (Nat → Nat) × (Nat → Nat)) => (∀ j, u.1 j < 65536) ∧ (∀ j, u.2 j < 65536) ∧ True) (kz_B (dC, dI) vwCl A (fun u : (Nat → Nat) × (Nat → Nat) => [(me, .inl (cI, 18, .inl (kz_dg u.1))), (t, .inl (cI, 16, .inl (kz_dg u.2)))])) A) ([.ref o, .ref t] : List Value).toArray s 0 0 A) (F0 m 87 ls []) := by
                        intro n87
                        induction n87 with
                        | zero => intro k87 d229 d230 H locs ls hi87 hn87; exact absurd hn87 (Nat.not_lt_zero _)
                        | succ n87 ih87 =>
                          intro k87 d229 d230 H locs ls hi87 hn87 hd_d229 hd_d230 hdy hl
                          refine lv_iload hx hb zd_N_remain_87 (lv_at hl 0 rfl) ?_
                          refine lv_if_le (tgt := 114) hx hb zd_N_remain_89 (by decide) (fun hc89 => ?_) (fun hc89 => ?_)
                          · have hc89 : k87 ≤ 0 := (nI_leI (by omega) (by omega)).mp (by rw [nI_0]; exact hc89)
                            refine lv_aload_n hx hb zd_N_remain_114 rfl (lv_at hl 4 rfl) ?_
                            refine va_get (D := (dC, dI)) (ci := 4) (v := .ref me) (C := zR_N) (T := zT_N) (N := 26) hx hb hts (fun w h => kz_c (zi_N w h)) hown hK (hro.ob hdy.2.2 (k := 0) rfl) 0 rfl rfl 14 (by decide) (hts _ (kz_c mw_605)) (fun _ h9 => h9) rfl zd_N_remain_115 ?_
                            refine lv_iconst (v := (nI (0))) hx hb zd_N_remain_118 (by decide) ?_
                            refine lv_aload_n hx hb zd_N_remain_119 rfl (lv_at hl 4 rfl) ?_
                            refine va_get (D := (dC, dI)) (ci := 4) (v := .ref mx) (C := zR_N) (T := zT_N) (N := 26) hx hb hts (fun w h => kz_c (zi_N w h)) hown hK (hro.ob hdy.2.2 (k := 0) rfl) 0 rfl rfl 13 (by decide) (hts _ (kz_c mw_604)) (fun _ h9 => h9) rfl zd_N_remain_120 ?_
                            refine lv_iload hx hb zd_N_remain_123 (lv_at hl 1 rfl) ?_
                            refine kz_riald hx hb hK hro hdy.2.2 2 0 rfl rfl (vp_in_nI (by omega) (by omega)) zd_N_remain_125 ?_
                            refine lv_topi (fun x231 h9 => ?_)
                            obtain rfl : x231 = nI (gmx k78p) := h9.trans (kz_dgl gmx (by omega))
                            have hbx231 := hd_gmx k78p
                            refine va_iast hx hb hK hdy.1 hdy.2.1 hdy.2.2 0 0 rfl rfl (vp_in_nI (by omega) (by omega)) zd_N_remain_126 (fun H locs hP hD hS => ?_)
                            have h9 := kz_dgu d229 (k := 0) (gmx k78p) (by omega)
                            rw [h9] at hP hD
                            obtain ⟨f232, ef232, hd_f232, hdy⟩ : ∃ f232 : Nat → Nat, f232 = kv_up d229 0 (gmx k78p) ∧ (∀ j, f232 j < 65536) ∧ kz_dy (dC, dI) vwCl A s.heap H locs [(me, .inl (cI, 18, .inl (kz_dg f232))), (t, .inl (cI, 16, .inl (kz_dg d230)))] := ⟨_, rfl, kv_up_lt hd_d229 (by omega), hP, hD, hS⟩
                            have lp127 : ∀ (n127 : Nat) (d233 : Nat → Nat) (d234 : Nat → Nat) (H : Heap) (locs : List Loc) (ls : Array Slot), kv_val d233 18 < n127 → (∀ j, d233 j < 65536) → (∀ j, d234 j < 65536) → kz_dy (dC, dI) vwCl A s.heap H locs [(me, .inl (cI, 18, .inl (kz_dg d233))), (t, .inl (cI, 16, .inl (kz_dg d234)))] → lv_has ls 13 [(5, .int (nI (k78p))), (3, .long (kz_lz (z219))), (2, .int (nI (k3))), (0, .ref o), (1, .ref t)] → W p l e { frames := 1, cells := 0, slots := 0, locals := 23 } s m ([.ref o, .ref t] : List Value).toArray below meth c H locs 0 0 (MQ below (va_Qv (fun (u : (Nat → Nat) × (Nat → Nat)) => (∀ j, u.1 j < 65536) ∧ (∀ j, u.2 j < 65536) ∧ True) (kz_B (dC, dI) vwCl A (fun u : (Nat → Nat) × (Nat → Nat) => [(me, .inl (cI, 18, .inl (kz_dg u.1))), (t, .inl (cI, 16, .inl (kz_dg u.2)))])) A) ([.ref o, .ref t] : List Value).toArray s 0 0 A) (F0 m 127 ls []) := by
                              intro n127
                              induction n127 with
                              | zero => intro d233 d234 H locs ls hn127; exact absurd hn127 (Nat.not_lt_zero _)
                              | succ n127 ih127 =>
                                intro d233 d234 H locs ls hn127 hd_d233 hd_d234 hdy hl
                                refine lv_aload_n hx hb zd_N_remain_127 rfl (lv_at hl 3 rfl) ?_
                                refine lv_iload_n hx hb zd_N_remain_128 rfl (lv_at hl 2 rfl) ?_
                                refine kz_calli (wk := [(me, .inl (cI, 18, .inl (kz_dg d233))), (t, .inl (cI, 16, .inl (kz_dg d234)))]) (va_runV (As := [.int (nI (k3))]) (rest := []) ⟨hx, hb, hml, hown, hts⟩ (c_Y_isLess l dC dI cI cAA cB cL o mt mn ml mc mh mk mp mm mb mw mr mx me mP mQ ms mo mW mD mB mR mS (th) (sta) (hs) sz_ gmm d233 ((nI (k3))) _ hd_gmm hd_d233) (cwV 1 hts (kz_g (kz_mc mw_733 (kz_mc mw_735 (kz_mc mw_28 (kz_mc mw_43 kz_mn)))) mw_736) rfl rfl rfl (by decide +kernel) ⟨Nat.le_of_ble_eq_true rfl, Nat.le_of_ble_eq_true rfl⟩) (kz_preVr hdy hA hK hro hZ hN [] (by decide) rfl [(true, 0), (true, 1), (false, 0)] rfl (by decide) [0, 1, 2, 3] rfl (fun _ h => by cases h) (fun _ h => by cases h) rfl (ci := 4) (q0 := 0) rfl rfl rfl) rfl rfl hl.1 rfl (lv_room (Nat.le_of_ble_eq_true rfl)) zd_N_remain_129 ⟨Nat.le_of_ble_eq_true rfl, Nat.le_of_ble_eq_true rfl⟩) hdy hA [] [0, 1] rfl rfl (by decide) (by decide) (fun r u H locs hw hdy => ?_)
                                obtain ⟨r235, rfl⟩ : ∃ z, z = r := ⟨_, rfl⟩
                                try dsimp only at hw
                                obtain ⟨hzr235, q236, -⟩ := hw
                                have hdy : kz_dy (dC, dI) vwCl A s.heap H locs [(me, .inl (cI, 18, .inl (kz_dg d233))), (t, .inl (cI, 16, .inl (kz_dg d234)))] := hdy.sub [0, 1] (by decide) rfl
                                refine lv_if_ne (tgt := 280) hx hb zd_N_remain_132 (by decide) (fun hc132 => ?_) (fun hc132 => ?_)
                                · refine lv_iinc (v := (nI (k78p) - 1)) (lv' := [(5, .int (nI (k78p) - 1)), (3, .long (kz_lz (z219))), (2, .int (nI (k3))), (0, .ref o), (1, .ref t)]) hx hb zd_N_remain_280 hl (k := 0) rfl (kz_m1 _) (by decide) rfl (fun ls hl => ?_)
                                  refine lv_goto (tgt := 78) hx hb zd_N_remain_283 (by decide) ?_
                                  exact ih78 k78p d233 d234 _ _ _ (by omega) (by omega) hd_d233 hd_d234 hdy (lv_sub hl [0, 1, 2, 3, 4] rfl)
                                · refine lv_ldc2 (v := (65536)) hx hb hown (hts _ (kz_c mw_709)) zd_N_remain_135 ?_
                                  refine lv_topl (fun yl237 h9 => ?_)
                                  obtain rfl : yl237 = kz_lz (65536) := h9.trans (kz_lz_c65536)
                                  refine lv_ldc2 (v := (65536)) hx hb hown (hts _ (kz_c mw_709)) zd_N_remain_138 ?_
                                  refine lv_topl (fun yl238 h9 => ?_)
                                  obtain rfl : yl238 = kz_lz (65536) := h9.trans (kz_lz_c65536)
                                  refine lv_aload_n hx hb zd_N_remain_141 rfl (lv_at hl 3 rfl) ?_
                                  refine va_get (D := (dC, dI)) (ci := 4) (v := .ref me) (C := zR_N) (T := zT_N) (N := 26) hx hb hts (fun w h => kz_c (zi_N w h)) hown hK (hro.ob hdy.2.2 (k := 0) rfl) 0 rfl rfl 14 (by decide) (hts _ (kz_c mw_605)) (fun _ h9 => h9) rfl zd_N_remain_142 ?_
                                  refine lv_iload_n hx hb zd_N_remain_145 rfl (lv_at hl 2 rfl) ?_
                                  refine lv_iconst (v := (nI (1))) hx hb zd_N_remain_146 (by decide) ?_
                                  refine kz_iadd hx hb zd_N_remain_147 (nI_add _ _) ?_
                                  refine va_iald hx hb hK hdy.1 0 0 rfl rfl (vp_in_nI (by omega) (by omega)) zd_N_remain_148 ?_
                                  refine lv_topi (fun x239 h9 => ?_)
                                  obtain rfl : x239 = nI (d233 (k3 + 1)) := h9.trans (kz_dgl d233 (by omega))
                                  have hbx239 := hd_d233 (k3 + 1)
                                  refine lv_i2l hx hb zd_N_remain_149 (kz_lz_i (n := d233 (k3 + 1)) (by omega)) ?_
                                  refine lv_lmul hx hb zd_N_remain_150 ?_
                                  refine lv_topl (fun yl240 h9 => ?_)
                                  obtain rfl : yl240 = kz_lz (65536 * (((d233 (k3 + 1) : Nat) : Int))) := h9.trans (kz_lz_mul _ _)
                                  refine lv_aload_n hx hb zd_N_remain_151 rfl (lv_at hl 3 rfl) ?_
                                  refine va_get (D := (dC, dI)) (ci := 4) (v := .ref me) (C := zR_N) (T := zT_N) (N := 26) hx hb hts (fun w h => kz_c (zi_N w h)) hown hK (hro.ob hdy.2.2 (k := 0) rfl) 0 rfl rfl 14 (by decide) (hts _ (kz_c mw_605)) (fun _ h9 => h9) rfl zd_N_remain_152 ?_
                                  refine lv_iload_n hx hb zd_N_remain_155 rfl (lv_at hl 2 rfl) ?_
                                  refine va_iald hx hb hK hdy.1 0 0 rfl rfl (vp_in_nI (by omega) (by omega)) zd_N_remain_156 ?_
                                  refine lv_topi (fun x241 h9 => ?_)
                                  obtain rfl : x241 = nI (d233 k3) := h9.trans (kz_dgl d233 (by omega))
                                  have hbx241 := hd_d233 k3
                                  refine lv_i2l hx hb zd_N_remain_157 (kz_lz_i (n := d233 k3) (by omega)) ?_
                                  refine lv_ladd hx hb zd_N_remain_158 ?_
                                  refine lv_topl (fun yl242 h9 => ?_)
                                  obtain rfl : yl242 = kz_lz ((65536 * (((d233 (k3 + 1) : Nat) : Int))) + (((d233 k3 : Nat) : Int))) := h9.trans (kz_lz_add _ _)
                                  refine lv_lmul hx hb zd_N_remain_159 ?_
                                  refine lv_topl (fun yl243 h9 => ?_)
                                  obtain rfl : yl243 = kz_lz (65536 * ((65536 * (((d233 (k3 + 1) : Nat) : Int))) + (((d233 k3 : Nat) : Int)))) := h9.trans (kz_lz_mul _ _)
                                  refine lv_iload_n hx hb zd_N_remain_160 rfl (lv_at hl 2 rfl) ?_
                                  refine lv_if_le (tgt := 175) hx hb zd_N_remain_161 (by decide) (fun hc161 => ?_) (fun hc161 => ?_)
                                  · have hc161 : k3 ≤ 0 := (nI_leI (by omega) (by omega)).mp (by rw [nI_0]; exact hc161)
                                    refine lv_iconst (v := (nI (0))) hx hb zd_N_remain_175 (by decide) ?_
                                    refine lv_i2l hx hb zd_N_remain_176 (kz_lz_i (n := 0) (by omega)) ?_
                                    refine lv_ladd hx hb zd_N_remain_177 ?_
                                    refine lv_topl (fun yl244 h9 => ?_)
                                    obtain rfl : yl244 = kz_lz ((65536 * ((65536 * (((d233 (k3 + 1) : Nat) : Int))) + (((d233 k3 : Nat) : Int)))) + (((0 : Nat) : Int))) := h9.trans (kz_lz_add _ _)
                                    refine lv_topl (fun yl246 h9 => ?_)
                                    obtain ⟨z245, ez245, rfl⟩ : ∃ z : Int, z = (65536 * ((65536 * (((d233 (k3 + 1) : Nat) : Int))) + (((d233 k3 : Nat) : Int)))) + (((0 : Nat) : Int)) ∧ yl246 = kz_lz z := ⟨_, rfl, h9⟩
                                    refine lv_lstore (lv' := [(6, .long (kz_lz (z245))), (5, .int (nI (k78p))), (3, .long (kz_lz (z219))), (2, .int (nI (k3))), (0, .ref o), (1, .ref t)]) hx hb zd_N_remain_178 hl (by decide) rfl (fun ls hl => ?_)
                                    refine lv_lload hx hb zd_N_remain_180 (lv_at hl 0 rfl) ?_
                                    refine lv_lload_n hx hb zd_N_remain_182 rfl (lv_at hl 2 rfl) ?_
                                    refine lv_ldiv hx hb zd_N_remain_183 (kz_lz_ne0 (by omega) (by omega)) ?_
                                    refine lv_topl (fun yl247 h9 => ?_)
                                    obtain rfl : yl247 = kz_lz (z245 / z219) := h9.trans (kz_lz_divz (by omega) (by omega) (by omega) (by omega))
                                    refine lv_topl (fun yl249 h9 => ?_)
                                    obtain ⟨z248, ez248, rfl⟩ : ∃ z : Int, z = z245 / z219 ∧ yl249 = kz_lz z := ⟨_, rfl, h9⟩
                                    refine lv_lstore (lv' := [(8, .long (kz_lz (z248))), (6, .long (kz_lz (z245))), (5, .int (nI (k78p))), (3, .long (kz_lz (z219))), (2, .int (nI (k3))), (0, .ref o), (1, .ref t)]) hx hb zd_N_remain_184 hl (by decide) rfl (fun ls hl => ?_)
                                    have hqz : 0 ≤ z248 ∧ z248 < 4294967296 ∧ z248.toNat * kv_val (kv_m18 gmm) 18 ≤ kv_val d233 18 := by first | exact kv_qZ1 hd_gmm hd_d233 (by omega) (by omega) (by omega) htz ez219 ez245 ez248 | (exfalso; omega) | (obtain rfl : k3 = 0 := (by omega); exact kv_qZ0 hd_gmm hd_d233 (by omega) htz ez219 ez245 ez248)
                                    obtain ⟨hq0, hq1, hq2⟩ := hqz
                                    refine lv_lload hx hb zd_N_remain_186 (lv_at hl 0 rfl) ?_
                                    refine lv_lconst (v := 1) hx hb zd_N_remain_188 (by decide) ?_
                                    refine lv_topl (fun yl250 h9 => ?_)
                                    obtain rfl : yl250 = kz_lz (1) := h9.trans (kz_lz_c1)
                                    refine kz_lge (tgt := 197) hx hb zd_N_remain_189 zd_N_remain_190 (by decide) (fun hc190 => ?_) (fun hc190 => ?_)
                                    · have hc190 : ¬ z248 < 1 := fun h9 => hc190 ((kz_lz_lt (by omega) (by omega) (by omega) (by omega)).mpr h9)
                                      refine lv_lload hx hb zd_N_remain_197 (lv_at hl 0 rfl) ?_
                                      refine lv_lstore (lv' := [(8, .long (kz_lz (z248))), (6, .long (kz_lz (z245))), (5, .int (nI (k78p))), (3, .long (kz_lz (z219))), (2, .int (nI (k3))), (0, .ref o), (1, .ref t)]) hx hb zd_N_remain_199 hl (by decide) rfl (fun ls hl => ?_)
                                      have hQ0 : 1 ≤ z248 := by omega
                                      have hQ1 : z248 < 4294967296 := by omega
                                      have hQ2 : z248.toNat * kv_val (kv_m18 gmm) 18 ≤ kv_val d233 18 := hq2
                                      refine lv_lconst (v := 0) hx hb zd_N_remain_201 (by decide) ?_
                                      refine lv_topl (fun yl251 h9 => ?_)
                                      obtain rfl : yl251 = kz_lz (0) := h9.trans (kz_lz_c0)
                                      refine lv_topl (fun yl253 h9 => ?_)
                                      obtain ⟨z252, ez252, rfl⟩ : ∃ z : Int, z = 0 ∧ yl253 = kz_lz z := ⟨_, rfl, h9⟩
                                      refine lv_lstore (lv' := [(10, .long (kz_lz (z252))), (8, .long (kz_lz (z248))), (6, .long (kz_lz (z245))), (5, .int (nI (k78p))), (3, .long (kz_lz (z219))), (2, .int (nI (k3))), (0, .ref o), (1, .ref t)]) hx hb zd_N_remain_202 hl (by decide) rfl (fun ls hl => ?_)
                                      refine lv_iconst (v := (nI (0))) hx hb zd_N_remain_204 (by decide) ?_
                                      refine lv_istore (lv' := [(12, .int (nI (0))), (10, .long (kz_lz (z252))), (8, .long (kz_lz (z248))), (6, .long (kz_lz (z245))), (5, .int (nI (k78p))), (3, .long (kz_lz (z219))), (2, .int (nI (k3))), (0, .ref o), (1, .ref t)]) hx hb zd_N_remain_205 hl (by decide) rfl (fun ls hl => ?_)
                                      have lp207 : ∀ (n207 k207 : Nat) (z254 : Int) (d255 : Nat → Nat) (d256 : Nat → Nat) (H : Heap) (locs : List Loc) (ls : Array Slot), k207 ≤ 18 → 18 - k207 < n207 → (∀ j, d255 j < 65536) → (∀ j, d256 j < 65536) → (-8589934592 ≤ z254) → (z254 ≤ 1) → (((kv_val d255 (k207) : Nat) : Int) + z254 * (65536 : Int) ^ (k207) = ((kv_val d233 (k207) : Nat) : Int) - z248 * ((kv_val (kv_m18 gmm) (k207) : Nat) : Int)) → (∀ j, k207 ≤ j → d255 j = d233 j) → kz_dy (dC, dI) vwCl A s.heap H locs [(me, .inl (cI, 18, .inl (kz_dg d255))), (t, .inl (cI, 16, .inl (kz_dg d256)))] → lv_has ls 13 [(12, .int (nI (k207))), (10, .long (kz_lz (z254))), (8, .long (kz_lz (z248))), (6, .long (kz_lz (z245))), (5, .int (nI (k78p))), (3, .long (kz_lz (z219))), (2, .int (nI (k3))), (0, .ref o), (1, .ref t)] → W p l e { frames := 1, cells := 0, slots := 0, locals := 23 } s m ([.ref o, .ref t] : List Value).toArray below meth c H locs 0 0 (MQ below (va_Qv (fun (u : (Nat → Nat) × (Nat → Nat)) => (∀ j, u.1 j < 65536) ∧ (∀ j, u.2 j < 65536) ∧ True) (kz_B (dC, dI) vwCl A (fun u : (Nat → Nat) × (Nat → Nat) => [(me, .inl (cI, 18, .inl (kz_dg u.1))), (t, .inl (cI, 16, .inl (kz_dg u.2)))])) A) ([.ref o, .ref t] : List Value).toArray s 0 0 A) (F0 m 207 ls []) := by
                                        intro n207
                                        induction n207 with
                                        | zero => intro k207; intros; omega
                                        | succ n207 ih207 =>
                                          intro k207 z254 d255 d256 H locs ls hi207 hn207 hd_d255 hd_d256 hlo hhi hI hge hdy hl
                                          refine lv_iload hx hb zd_N_remain_207 (lv_at hl 0 rfl) ?_
                                          refine lv_bipush (v := (nI (18))) hx hb zd_N_remain_209 (by decide) ?_
                                          refine lv_icmp_ge (tgt := 277) hx hb zd_N_remain_211 (by decide) (fun hc211 => ?_) (fun hc211 => ?_)
                                          · have hc211 : 18 ≤ k207 := (nI_leI (by omega) (by omega)).mp hc211
                                            refine lv_goto (tgt := 127) hx hb zd_N_remain_277 (by decide) ?_
                                            have hms127 : kv_val d255 18 < n127 := by have h18 : k207 = 18 := (by omega); subst h18; have h8 := kv_subEnd (q := z248.toNat) hd_d255 hd_d233 (by omega) hmv hQ2 (by have h7 : ((z248.toNat : Nat) : Int) = z248 := (by omega); rw [h7]; exact hI); omega
                                            exact ih127 d255 d256 _ _ _ hms127 hd_d255 hd_d256 hdy (lv_sub hl [4, 5, 6, 7, 8] rfl)
                                          · have hc211 : ¬ 18 ≤ k207 := fun h9 => hc211 ((nI_leI (by omega) (by omega)).mpr h9)
                                            refine lv_lload hx hb zd_N_remain_214 (lv_at hl 1 rfl) ?_
                                            refine lv_aload_n hx hb zd_N_remain_216 rfl (lv_at hl 7 rfl) ?_
                                            refine va_get (D := (dC, dI)) (ci := 4) (v := .ref me) (C := zR_N) (T := zT_N) (N := 26) hx hb hts (fun w h => kz_c (zi_N w h)) hown hK (hro.ob hdy.2.2 (k := 0) rfl) 0 rfl rfl 14 (by decide) (hts _ (kz_c mw_605)) (fun _ h9 => h9) rfl zd_N_remain_217 ?_
                                            refine lv_iload hx hb zd_N_remain_220 (lv_at hl 0 rfl) ?_
                                            refine va_iald hx hb hK hdy.1 0 0 rfl rfl (vp_in_nI (by omega) (by omega)) zd_N_remain_222 ?_
                                            refine lv_topi (fun x257 h9 => ?_)
                                            obtain rfl : x257 = nI (d255 k207) := h9.trans (kz_dgl d255 (by omega))
                                            have hbx257 := hd_d255 k207
                                            refine lv_i2l hx hb zd_N_remain_223 (kz_lz_i (n := d255 k207) (by omega)) ?_
                                            refine lv_ladd hx hb zd_N_remain_224 ?_
                                            refine lv_topl (fun yl258 h9 => ?_)
                                            obtain rfl : yl258 = kz_lz (z254 + (((d255 k207 : Nat) : Int))) := h9.trans (kz_lz_add _ _)
                                            refine lv_iload hx hb zd_N_remain_225 (lv_at hl 0 rfl) ?_
                                            refine lv_bipush (v := (nI (16))) hx hb zd_N_remain_227 (by decide) ?_
                                            refine lv_icmp_ge (tgt := 246) hx hb zd_N_remain_229 (by decide) (fun hc229 => ?_) (fun hc229 => ?_)
                                            · have hc229 : 16 ≤ k207 := (nI_leI (by omega) (by omega)).mp hc229
                                              refine lv_lconst (v := 0) hx hb zd_N_remain_246 (by decide) ?_
                                              refine lv_topl (fun yl259 h9 => ?_)
                                              obtain rfl : yl259 = kz_lz (0) := h9.trans (kz_lz_c0)
                                              refine lv_lsub hx hb zd_N_remain_247 ?_
                                              refine lv_topl (fun yl260 h9 => ?_)
                                              obtain rfl : yl260 = kz_lz ((z254 + (((d255 k207 : Nat) : Int))) - 0) := h9.trans (kz_lz_sub _ _)
                                              refine lv_topl (fun yl262 h9 => ?_)
                                              obtain ⟨z261, ez261, rfl⟩ : ∃ z : Int, z = (z254 + (((d255 k207 : Nat) : Int))) - 0 ∧ yl262 = kz_lz z := ⟨_, rfl, h9⟩
                                              refine lv_lstore (lv' := [(10, .long (kz_lz (z261))), (12, .int (nI (k207))), (8, .long (kz_lz (z248))), (6, .long (kz_lz (z245))), (5, .int (nI (k78p))), (3, .long (kz_lz (z219))), (2, .int (nI (k3))), (0, .ref o), (1, .ref t)]) hx hb zd_N_remain_248 hl (by decide) rfl (fun ls hl => ?_)
                                              have hm9 := kv_qm (q := z248) (by omega) hQ1 (hd_gmm k207)
                                              have ht9 : z261 = z254 + ((d233 k207 : Nat) : Int) - z248 * ((kv_m18 gmm k207 : Nat) : Int) := by rw [ez261, ← hge k207 (Nat.le_refl _)]; unfold kv_m18; first | (rw [if_pos (by omega)]; done) | (rw [if_neg (by omega)]; show _ = _ - z248 * 0; omega)
                                              refine lv_aload_n hx hb zd_N_remain_250 rfl (lv_at hl 7 rfl) ?_
                                              refine va_get (D := (dC, dI)) (ci := 4) (v := .ref me) (C := zR_N) (T := zT_N) (N := 26) hx hb hts (fun w h => kz_c (zi_N w h)) hown hK (hro.ob hdy.2.2 (k := 0) rfl) 0 rfl rfl 14 (by decide) (hts _ (kz_c mw_605)) (fun _ h9 => h9) rfl zd_N_remain_251 ?_
                                              refine lv_iload hx hb zd_N_remain_254 (lv_at hl 1 rfl) ?_
                                              refine lv_lload hx hb zd_N_remain_256 (lv_at hl 0 rfl) ?_
                                              refine lv_ldc2 (v := (65535)) hx hb hown (hts _ (kz_c mw_708)) zd_N_remain_258 ?_
                                              refine lv_topl (fun yl263 h9 => ?_)
                                              obtain rfl : yl263 = kz_lz (65535) := h9.trans (kz_lz_c65535)
                                              refine lv_land hx hb zd_N_remain_261 ?_
                                              refine lv_topl (fun yl264 h9 => ?_)
                                              obtain rfl : yl264 = kz_lz (z261 % 65536) := h9.trans (kz_lz_andz _)
                                              refine lv_l2i hx hb zd_N_remain_262 (kz_lz_i16 (z261)) ?_
                                              refine va_iast hx hb hK hdy.1 hdy.2.1 hdy.2.2 0 0 rfl rfl (vp_in_nI (by omega) (by omega)) zd_N_remain_263 (fun H locs hP hD hS => ?_)
                                              have h9 := kz_dgu d255 (k := k207) ((z261 % 65536).toNat) (by omega)
                                              rw [h9] at hP hD
                                              obtain ⟨f265, ef265, hd_f265, hdy⟩ : ∃ f265 : Nat → Nat, f265 = kv_up d255 k207 ((z261 % 65536).toNat) ∧ (∀ j, f265 j < 65536) ∧ kz_dy (dC, dI) vwCl A s.heap H locs [(me, .inl (cI, 18, .inl (kz_dg f265))), (t, .inl (cI, 16, .inl (kz_dg d256)))] := ⟨_, rfl, kv_up_lt hd_d255 (by omega), hP, hD, hS⟩
                                              refine lv_lload hx hb zd_N_remain_264 (lv_at hl 0 rfl) ?_
                                              refine lv_bipush (v := (nI (16))) hx hb zd_N_remain_266 (by decide) ?_
                                              refine lv_lshr hx hb zd_N_remain_268 (kz_lz_shr (z := z261) (by omega) (by omega)) ?_
                                              refine lv_topl (fun yl267 h9 => ?_)
                                              obtain ⟨z266, ez266, rfl⟩ : ∃ z : Int, z = z261 / 65536 ∧ yl267 = kz_lz z := ⟨_, rfl, h9⟩
                                              refine lv_lstore (lv' := [(10, .long (kz_lz (z266))), (12, .int (nI (k207))), (8, .long (kz_lz (z248))), (6, .long (kz_lz (z245))), (5, .int (nI (k78p))), (3, .long (kz_lz (z219))), (2, .int (nI (k3))), (0, .ref o), (1, .ref t)]) hx hb zd_N_remain_269 hl (by decide) rfl (fun ls hl => ?_)
                                              refine lv_iinc (v := (nI (k207 + 1))) (lv' := [(12, .int (nI (k207 + 1))), (10, .long (kz_lz (z266))), (8, .long (kz_lz (z248))), (6, .long (kz_lz (z245))), (5, .int (nI (k78p))), (3, .long (kz_lz (z219))), (2, .int (nI (k3))), (0, .ref o), (1, .ref t)]) hx hb zd_N_remain_271 hl (k := 1) rfl (nI_1 _) (by decide) rfl (fun ls hl => ?_)
                                              refine lv_goto (tgt := 207) hx hb zd_N_remain_274 (by decide) ?_
                                              have hi9_hlo268 : -8589934592 ≤ z266 := by omega
                                              have hi9_hhi269 : z266 ≤ 1 := by omega
                                              have hi9_hI270 : ((kv_val f265 (k207 + 1) : Nat) : Int) + z266 * (65536 : Int) ^ (k207 + 1) = ((kv_val d233 (k207 + 1) : Nat) : Int) - z248 * ((kv_val (kv_m18 gmm) (k207 + 1) : Nat) : Int) := by rw [ef265, ez266]; exact kv_subStep hI ht9
                                              have hi9_hge271 : ∀ j, k207 + 1 ≤ j → f265 j = d233 j := by intro j hj; rw [ef265, kv_up_ne _ _ (by omega)]; exact hge j (by omega)
                                              exact ih207 (k207 + 1) (z266) f265 d256 _ _ _ (by omega) (by omega) hd_f265 hd_d256 hi9_hlo268 hi9_hhi269 hi9_hI270 hi9_hge271 hdy (lv_sub hl [0, 1, 2, 3, 4, 5, 6, 7, 8] rfl)
                                            · have hc229 : ¬ 16 ≤ k207 := fun h9 => hc229 ((nI_leI (by omega) (by omega)).mpr h9)
                                              refine lv_lload hx hb zd_N_remain_232 (lv_at hl 2 rfl) ?_
                                              refine lv_aload_n hx hb zd_N_remain_234 rfl (lv_at hl 7 rfl) ?_
                                              refine va_get (D := (dC, dI)) (ci := 4) (v := .ref mm) (C := zR_N) (T := zT_N) (N := 26) hx hb hts (fun w h => kz_c (zi_N w h)) hown hK (hro.ob hdy.2.2 (k := 0) rfl) 0 rfl rfl 9 (by decide) (hts _ (kz_c mw_600)) (fun _ h9 => h9) rfl zd_N_remain_235 ?_
                                              refine lv_iload hx hb zd_N_remain_238 (lv_at hl 0 rfl) ?_
                                              refine kz_riald hx hb hK hro hdy.2.2 1 0 rfl rfl (vp_in_nI (by omega) (by omega)) zd_N_remain_240 ?_
                                              refine lv_topi (fun x272 h9 => ?_)
                                              obtain rfl : x272 = nI (gmm k207) := h9.trans (kz_dgl gmm (by omega))
                                              have hbx272 := hd_gmm k207
                                              refine lv_i2l hx hb zd_N_remain_241 (kz_lz_i (n := gmm k207) (by omega)) ?_
                                              refine lv_lmul hx hb zd_N_remain_242 ?_
                                              refine lv_topl (fun yl273 h9 => ?_)
                                              obtain rfl : yl273 = kz_lz (z248 * (((gmm k207 : Nat) : Int))) := h9.trans (kz_lz_mul _ _)
                                              refine lv_goto (tgt := 247) hx hb zd_N_remain_243 (by decide) ?_
                                              refine lv_lsub hx hb zd_N_remain_247 ?_
                                              refine lv_topl (fun yl274 h9 => ?_)
                                              obtain rfl : yl274 = kz_lz ((z254 + (((d255 k207 : Nat) : Int))) - (z248 * (((gmm k207 : Nat) : Int)))) := h9.trans (kz_lz_sub _ _)
                                              refine lv_topl (fun yl276 h9 => ?_)
                                              obtain ⟨z275, ez275, rfl⟩ : ∃ z : Int, z = (z254 + (((d255 k207 : Nat) : Int))) - (z248 * (((gmm k207 : Nat) : Int))) ∧ yl276 = kz_lz z := ⟨_, rfl, h9⟩
                                              refine lv_lstore (lv' := [(10, .long (kz_lz (z275))), (12, .int (nI (k207))), (8, .long (kz_lz (z248))), (6, .long (kz_lz (z245))), (5, .int (nI (k78p))), (3, .long (kz_lz (z219))), (2, .int (nI (k3))), (0, .ref o), (1, .ref t)]) hx hb zd_N_remain_248 hl (by decide) rfl (fun ls hl => ?_)
                                              have hm9 := kv_qm (q := z248) (by omega) hQ1 (hd_gmm k207)
                                              have ht9 : z275 = z254 + ((d233 k207 : Nat) : Int) - z248 * ((kv_m18 gmm k207 : Nat) : Int) := by rw [ez275, ← hge k207 (Nat.le_refl _)]; unfold kv_m18; first | (rw [if_pos (by omega)]; done) | (rw [if_neg (by omega)]; show _ = _ - z248 * 0; omega)
                                              refine lv_aload_n hx hb zd_N_remain_250 rfl (lv_at hl 7 rfl) ?_
                                              refine va_get (D := (dC, dI)) (ci := 4) (v := .ref me) (C := zR_N) (T := zT_N) (N := 26) hx hb hts (fun w h => kz_c (zi_N w h)) hown hK (hro.ob hdy.2.2 (k := 0) rfl) 0 rfl rfl 14 (by decide) (hts _ (kz_c mw_605)) (fun _ h9 => h9) rfl zd_N_remain_251 ?_
                                              refine lv_iload hx hb zd_N_remain_254 (lv_at hl 1 rfl) ?_
                                              refine lv_lload hx hb zd_N_remain_256 (lv_at hl 0 rfl) ?_
                                              refine lv_ldc2 (v := (65535)) hx hb hown (hts _ (kz_c mw_708)) zd_N_remain_258 ?_
                                              refine lv_topl (fun yl277 h9 => ?_)
                                              obtain rfl : yl277 = kz_lz (65535) := h9.trans (kz_lz_c65535)
                                              refine lv_land hx hb zd_N_remain_261 ?_
                                              refine lv_topl (fun yl278 h9 => ?_)
                                              obtain rfl : yl278 = kz_lz (z275 % 65536) := h9.trans (kz_lz_andz _)
                                              refine lv_l2i hx hb zd_N_remain_262 (kz_lz_i16 (z275)) ?_
                                              refine va_iast hx hb hK hdy.1 hdy.2.1 hdy.2.2 0 0 rfl rfl (vp_in_nI (by omega) (by omega)) zd_N_remain_263 (fun H locs hP hD hS => ?_)
                                              have h9 := kz_dgu d255 (k := k207) ((z275 % 65536).toNat) (by omega)
                                              rw [h9] at hP hD
                                              obtain ⟨f279, ef279, hd_f279, hdy⟩ : ∃ f279 : Nat → Nat, f279 = kv_up d255 k207 ((z275 % 65536).toNat) ∧ (∀ j, f279 j < 65536) ∧ kz_dy (dC, dI) vwCl A s.heap H locs [(me, .inl (cI, 18, .inl (kz_dg f279))), (t, .inl (cI, 16, .inl (kz_dg d256)))] := ⟨_, rfl, kv_up_lt hd_d255 (by omega), hP, hD, hS⟩
                                              refine lv_lload hx hb zd_N_remain_264 (lv_at hl 0 rfl) ?_
                                              refine lv_bipush (v := (nI (16))) hx hb zd_N_remain_266 (by decide) ?_
                                              refine lv_lshr hx hb zd_N_remain_268 (kz_lz_shr (z := z275) (by omega) (by omega)) ?_
                                              refine lv_topl (fun yl281 h9 => ?_)
                                              obtain ⟨z280, ez280, rfl⟩ : ∃ z : Int, z = z275 / 65536 ∧ yl281 = kz_lz z := ⟨_, rfl, h9⟩
                                              refine lv_lstore (lv' := [(10, .long (kz_lz (z280))), (12, .int (nI (k207))), (8, .long (kz_lz (z248))), (6, .long (kz_lz (z245))), (5, .int (nI (k78p))), (3, .long (kz_lz (z219))), (2, .int (nI (k3))), (0, .ref o), (1, .ref t)]) hx hb zd_N_remain_269 hl (by decide) rfl (fun ls hl => ?_)
                                              refine lv_iinc (v := (nI (k207 + 1))) (lv' := [(12, .int (nI (k207 + 1))), (10, .long (kz_lz (z280))), (8, .long (kz_lz (z248))), (6, .long (kz_lz (z245))), (5, .int (nI (k78p))), (3, .long (kz_lz (z219))), (2, .int (nI (k3))), (0, .ref o), (1, .ref t)]) hx hb zd_N_remain_271 hl (k := 1) rfl (nI_1 _) (by decide) rfl (fun ls hl => ?_)
                                              refine lv_goto (tgt := 207) hx hb zd_N_remain_274 (by decide) ?_
                                              have hi9_hlo282 : -8589934592 ≤ z280 := by omega
                                              have hi9_hhi283 : z280 ≤ 1 := by omega
                                              have hi9_hI284 : ((kv_val f279 (k207 + 1) : Nat) : Int) + z280 * (65536 : Int) ^ (k207 + 1) = ((kv_val d233 (k207 + 1) : Nat) : Int) - z248 * ((kv_val (kv_m18 gmm) (k207 + 1) : Nat) : Int) := by rw [ef279, ez280]; exact kv_subStep hI ht9
                                              have hi9_hge285 : ∀ j, k207 + 1 ≤ j → f279 j = d233 j := by intro j hj; rw [ef279, kv_up_ne _ _ (by omega)]; exact hge j (by omega)
                                              exact ih207 (k207 + 1) (z280) f279 d256 _ _ _ (by omega) (by omega) hd_f279 hd_d256 hi9_hlo282 hi9_hhi283 hi9_hI284 hi9_hge285 hdy (lv_sub hl [0, 1, 2, 3, 4, 5, 6, 7, 8] rfl)
                                      have hi9_hlo286 : -8589934592 ≤ z252 := by omega
                                      have hi9_hhi287 : z252 ≤ 1 := by omega
                                      have hi9_hI288 : ((kv_val d233 (0) : Nat) : Int) + z252 * (65536 : Int) ^ (0) = ((kv_val d233 (0) : Nat) : Int) - z248 * ((kv_val (kv_m18 gmm) (0) : Nat) : Int) := by rw [ez252]; show (0 : Int) + 0 * _ = 0 - z248 * 0; omega
                                      have hi9_hge289 : ∀ j, 0 ≤ j → d233 j = d233 j := by exact fun _ _ => rfl
                                      exact lp207 (18 - 0 + 1) 0 (z252) d233 d234 _ _ _ (by omega) (by omega) hd_d233 hd_d234 hi9_hlo286 hi9_hhi287 hi9_hI288 hi9_hge289 hdy (lv_sub hl [0, 1, 2, 3, 4, 5, 6, 7, 8] rfl)
                                    · have hc190 : z248 < 1 := (kz_lz_lt (by omega) (by omega) (by omega) (by omega)).mp hc190
                                      refine lv_lconst (v := 1) hx hb zd_N_remain_193 (by decide) ?_
                                      refine lv_topl (fun yl290 h9 => ?_)
                                      obtain rfl : yl290 = kz_lz (1) := h9.trans (kz_lz_c1)
                                      refine lv_goto (tgt := 199) hx hb zd_N_remain_194 (by decide) ?_
                                      refine lv_topl (fun yl292 h9 => ?_)
                                      obtain ⟨z291, ez291, rfl⟩ : ∃ z : Int, z = 1 ∧ yl292 = kz_lz z := ⟨_, rfl, h9⟩
                                      refine lv_lstore (lv' := [(8, .long (kz_lz (z291))), (6, .long (kz_lz (z245))), (5, .int (nI (k78p))), (3, .long (kz_lz (z219))), (2, .int (nI (k3))), (0, .ref o), (1, .ref t)]) hx hb zd_N_remain_199 hl (by decide) rfl (fun ls hl => ?_)
                                      have hQ0 : 1 ≤ z291 := by omega
                                      have hQ1 : z291 < 4294967296 := by omega
                                      have hQ2 : z291.toNat * kv_val (kv_m18 gmm) 18 ≤ kv_val d233 18 := by have h8 : z291.toNat = 1 := (by omega); rw [h8, Nat.one_mul]; exact q236 hc132
                                      refine lv_lconst (v := 0) hx hb zd_N_remain_201 (by decide) ?_
                                      refine lv_topl (fun yl293 h9 => ?_)
                                      obtain rfl : yl293 = kz_lz (0) := h9.trans (kz_lz_c0)
                                      refine lv_topl (fun yl295 h9 => ?_)
                                      obtain ⟨z294, ez294, rfl⟩ : ∃ z : Int, z = 0 ∧ yl295 = kz_lz z := ⟨_, rfl, h9⟩
                                      refine lv_lstore (lv' := [(10, .long (kz_lz (z294))), (8, .long (kz_lz (z291))), (6, .long (kz_lz (z245))), (5, .int (nI (k78p))), (3, .long (kz_lz (z219))), (2, .int (nI (k3))), (0, .ref o), (1, .ref t)]) hx hb zd_N_remain_202 hl (by decide) rfl (fun ls hl => ?_)
                                      refine lv_iconst (v := (nI (0))) hx hb zd_N_remain_204 (by decide) ?_
                                      refine lv_istore (lv' := [(12, .int (nI (0))), (10, .long (kz_lz (z294))), (8, .long (kz_lz (z291))), (6, .long (kz_lz (z245))), (5, .int (nI (k78p))), (3, .long (kz_lz (z219))), (2, .int (nI (k3))), (0, .ref o), (1, .ref t)]) hx hb zd_N_remain_205 hl (by decide) rfl (fun ls hl => ?_)
                                      have lp207 : ∀ (n207 k207 : Nat) (z296 : Int) (d297 : Nat → Nat) (d298 : Nat → Nat) (H : Heap) (locs : List Loc) (ls : Array Slot), k207 ≤ 18 → 18 - k207 < n207 → (∀ j, d297 j < 65536) → (∀ j, d298 j < 65536) → (-8589934592 ≤ z296) → (z296 ≤ 1) → (((kv_val d297 (k207) : Nat) : Int) + z296 * (65536 : Int) ^ (k207) = ((kv_val d233 (k207) : Nat) : Int) - z291 * ((kv_val (kv_m18 gmm) (k207) : Nat) : Int)) → (∀ j, k207 ≤ j → d297 j = d233 j) → kz_dy (dC, dI) vwCl A s.heap H locs [(me, .inl (cI, 18, .inl (kz_dg d297))), (t, .inl (cI, 16, .inl (kz_dg d298)))] → lv_has ls 13 [(12, .int (nI (k207))), (10, .long (kz_lz (z296))), (8, .long (kz_lz (z291))), (6, .long (kz_lz (z245))), (5, .int (nI (k78p))), (3, .long (kz_lz (z219))), (2, .int (nI (k3))), (0, .ref o), (1, .ref t)] → W p l e { frames := 1, cells := 0, slots := 0, locals := 23 } s m ([.ref o, .ref t] : List Value).toArray below meth c H locs 0 0 (MQ below (va_Qv (fun (u : (Nat → Nat) × (Nat → Nat)) => (∀ j, u.1 j < 65536) ∧ (∀ j, u.2 j < 65536) ∧ True) (kz_B (dC, dI) vwCl A (fun u : (Nat → Nat) × (Nat → Nat) => [(me, .inl (cI, 18, .inl (kz_dg u.1))), (t, .inl (cI, 16, .inl (kz_dg u.2)))])) A) ([.ref o, .ref t] : List Value).toArray s 0 0 A) (F0 m 207 ls []) := by
                                        intro n207
                                        induction n207 with
                                        | zero => intro k207; intros; omega
                                        | succ n207 ih207 =>
                                          intro k207 z296 d297 d298 H locs ls hi207 hn207 hd_d297 hd_d298 hlo hhi hI hge hdy hl
                                          refine lv_iload hx hb zd_N_remain_207 (lv_at hl 0 rfl) ?_
                                          refine lv_bipush (v := (nI (18))) hx hb zd_N_remain_209 (by decide) ?_
                                          refine lv_icmp_ge (tgt := 277) hx hb zd_N_remain_211 (by decide) (fun hc211 => ?_) (fun hc211 => ?_)
                                          · have hc211 : 18 ≤ k207 := (nI_leI (by omega) (by omega)).mp hc211
                                            refine lv_goto (tgt := 127) hx hb zd_N_remain_277 (by decide) ?_
                                            have hms127 : kv_val d297 18 < n127 := by have h18 : k207 = 18 := (by omega); subst h18; have h8 := kv_subEnd (q := z291.toNat) hd_d297 hd_d233 (by omega) hmv hQ2 (by have h7 : ((z291.toNat : Nat) : Int) = z291 := (by omega); rw [h7]; exact hI); omega
                                            exact ih127 d297 d298 _ _ _ hms127 hd_d297 hd_d298 hdy (lv_sub hl [4, 5, 6, 7, 8] rfl)
                                          · have hc211 : ¬ 18 ≤ k207 := fun h9 => hc211 ((nI_leI (by omega) (by omega)).mpr h9)
                                            refine lv_lload hx hb zd_N_remain_214 (lv_at hl 1 rfl) ?_
                                            refine lv_aload_n hx hb zd_N_remain_216 rfl (lv_at hl 7 rfl) ?_
                                            refine va_get (D := (dC, dI)) (ci := 4) (v := .ref me) (C := zR_N) (T := zT_N) (N := 26) hx hb hts (fun w h => kz_c (zi_N w h)) hown hK (hro.ob hdy.2.2 (k := 0) rfl) 0 rfl rfl 14 (by decide) (hts _ (kz_c mw_605)) (fun _ h9 => h9) rfl zd_N_remain_217 ?_
                                            refine lv_iload hx hb zd_N_remain_220 (lv_at hl 0 rfl) ?_
                                            refine va_iald hx hb hK hdy.1 0 0 rfl rfl (vp_in_nI (by omega) (by omega)) zd_N_remain_222 ?_
                                            refine lv_topi (fun x299 h9 => ?_)
                                            obtain rfl : x299 = nI (d297 k207) := h9.trans (kz_dgl d297 (by omega))
                                            have hbx299 := hd_d297 k207
                                            refine lv_i2l hx hb zd_N_remain_223 (kz_lz_i (n := d297 k207) (by omega)) ?_
                                            refine lv_ladd hx hb zd_N_remain_224 ?_
                                            refine lv_topl (fun yl300 h9 => ?_)
                                            obtain rfl : yl300 = kz_lz (z296 + (((d297 k207 : Nat) : Int))) := h9.trans (kz_lz_add _ _)
                                            refine lv_iload hx hb zd_N_remain_225 (lv_at hl 0 rfl) ?_
                                            refine lv_bipush (v := (nI (16))) hx hb zd_N_remain_227 (by decide) ?_
                                            refine lv_icmp_ge (tgt := 246) hx hb zd_N_remain_229 (by decide) (fun hc229 => ?_) (fun hc229 => ?_)
                                            · have hc229 : 16 ≤ k207 := (nI_leI (by omega) (by omega)).mp hc229
                                              refine lv_lconst (v := 0) hx hb zd_N_remain_246 (by decide) ?_
                                              refine lv_topl (fun yl301 h9 => ?_)
                                              obtain rfl : yl301 = kz_lz (0) := h9.trans (kz_lz_c0)
                                              refine lv_lsub hx hb zd_N_remain_247 ?_
                                              refine lv_topl (fun yl302 h9 => ?_)
                                              obtain rfl : yl302 = kz_lz ((z296 + (((d297 k207 : Nat) : Int))) - 0) := h9.trans (kz_lz_sub _ _)
                                              refine lv_topl (fun yl304 h9 => ?_)
                                              obtain ⟨z303, ez303, rfl⟩ : ∃ z : Int, z = (z296 + (((d297 k207 : Nat) : Int))) - 0 ∧ yl304 = kz_lz z := ⟨_, rfl, h9⟩
                                              refine lv_lstore (lv' := [(10, .long (kz_lz (z303))), (12, .int (nI (k207))), (8, .long (kz_lz (z291))), (6, .long (kz_lz (z245))), (5, .int (nI (k78p))), (3, .long (kz_lz (z219))), (2, .int (nI (k3))), (0, .ref o), (1, .ref t)]) hx hb zd_N_remain_248 hl (by decide) rfl (fun ls hl => ?_)
                                              have hm9 := kv_qm (q := z291) (by omega) hQ1 (hd_gmm k207)
                                              have ht9 : z303 = z296 + ((d233 k207 : Nat) : Int) - z291 * ((kv_m18 gmm k207 : Nat) : Int) := by rw [ez303, ← hge k207 (Nat.le_refl _)]; unfold kv_m18; first | (rw [if_pos (by omega)]; done) | (rw [if_neg (by omega)]; show _ = _ - z291 * 0; omega)
                                              refine lv_aload_n hx hb zd_N_remain_250 rfl (lv_at hl 7 rfl) ?_
                                              refine va_get (D := (dC, dI)) (ci := 4) (v := .ref me) (C := zR_N) (T := zT_N) (N := 26) hx hb hts (fun w h => kz_c (zi_N w h)) hown hK (hro.ob hdy.2.2 (k := 0) rfl) 0 rfl rfl 14 (by decide) (hts _ (kz_c mw_605)) (fun _ h9 => h9) rfl zd_N_remain_251 ?_
                                              refine lv_iload hx hb zd_N_remain_254 (lv_at hl 1 rfl) ?_
                                              refine lv_lload hx hb zd_N_remain_256 (lv_at hl 0 rfl) ?_
                                              refine lv_ldc2 (v := (65535)) hx hb hown (hts _ (kz_c mw_708)) zd_N_remain_258 ?_
                                              refine lv_topl (fun yl305 h9 => ?_)
                                              obtain rfl : yl305 = kz_lz (65535) := h9.trans (kz_lz_c65535)
                                              refine lv_land hx hb zd_N_remain_261 ?_
                                              refine lv_topl (fun yl306 h9 => ?_)
                                              obtain rfl : yl306 = kz_lz (z303 % 65536) := h9.trans (kz_lz_andz _)
                                              refine lv_l2i hx hb zd_N_remain_262 (kz_lz_i16 (z303)) ?_
                                              refine va_iast hx hb hK hdy.1 hdy.2.1 hdy.2.2 0 0 rfl rfl (vp_in_nI (by omega) (by omega)) zd_N_remain_263 (fun H locs hP hD hS => ?_)
                                              have h9 := kz_dgu d297 (k := k207) ((z303 % 65536).toNat) (by omega)
                                              rw [h9] at hP hD
                                              obtain ⟨f307, ef307, hd_f307, hdy⟩ : ∃ f307 : Nat → Nat, f307 = kv_up d297 k207 ((z303 % 65536).toNat) ∧ (∀ j, f307 j < 65536) ∧ kz_dy (dC, dI) vwCl A s.heap H locs [(me, .inl (cI, 18, .inl (kz_dg f307))), (t, .inl (cI, 16, .inl (kz_dg d298)))] := ⟨_, rfl, kv_up_lt hd_d297 (by omega), hP, hD, hS⟩
                                              refine lv_lload hx hb zd_N_remain_264 (lv_at hl 0 rfl) ?_
                                              refine lv_bipush (v := (nI (16))) hx hb zd_N_remain_266 (by decide) ?_
                                              refine lv_lshr hx hb zd_N_remain_268 (kz_lz_shr (z := z303) (by omega) (by omega)) ?_
                                              refine lv_topl (fun yl309 h9 => ?_)
                                              obtain ⟨z308, ez308, rfl⟩ : ∃ z : Int, z = z303 / 65536 ∧ yl309 = kz_lz z := ⟨_, rfl, h9⟩
                                              refine lv_lstore (lv' := [(10, .long (kz_lz (z308))), (12, .int (nI (k207))), (8, .long (kz_lz (z291))), (6, .long (kz_lz (z245))), (5, .int (nI (k78p))), (3, .long (kz_lz (z219))), (2, .int (nI (k3))), (0, .ref o), (1, .ref t)]) hx hb zd_N_remain_269 hl (by decide) rfl (fun ls hl => ?_)
                                              refine lv_iinc (v := (nI (k207 + 1))) (lv' := [(12, .int (nI (k207 + 1))), (10, .long (kz_lz (z308))), (8, .long (kz_lz (z291))), (6, .long (kz_lz (z245))), (5, .int (nI (k78p))), (3, .long (kz_lz (z219))), (2, .int (nI (k3))), (0, .ref o), (1, .ref t)]) hx hb zd_N_remain_271 hl (k := 1) rfl (nI_1 _) (by decide) rfl (fun ls hl => ?_)
                                              refine lv_goto (tgt := 207) hx hb zd_N_remain_274 (by decide) ?_
                                              have hi9_hlo310 : -8589934592 ≤ z308 := by omega
                                              have hi9_hhi311 : z308 ≤ 1 := by omega
                                              have hi9_hI312 : ((kv_val f307 (k207 + 1) : Nat) : Int) + z308 * (65536 : Int) ^ (k207 + 1) = ((kv_val d233 (k207 + 1) : Nat) : Int) - z291 * ((kv_val (kv_m18 gmm) (k207 + 1) : Nat) : Int) := by rw [ef307, ez308]; exact kv_subStep hI ht9
                                              have hi9_hge313 : ∀ j, k207 + 1 ≤ j → f307 j = d233 j := by intro j hj; rw [ef307, kv_up_ne _ _ (by omega)]; exact hge j (by omega)
                                              exact ih207 (k207 + 1) (z308) f307 d298 _ _ _ (by omega) (by omega) hd_f307 hd_d298 hi9_hlo310 hi9_hhi311 hi9_hI312 hi9_hge313 hdy (lv_sub hl [0, 1, 2, 3, 4, 5, 6, 7, 8] rfl)
                                            · have hc229 : ¬ 16 ≤ k207 := fun h9 => hc229 ((nI_leI (by omega) (by omega)).mpr h9)
                                              refine lv_lload hx hb zd_N_remain_232 (lv_at hl 2 rfl) ?_
                                              refine lv_aload_n hx hb zd_N_remain_234 rfl (lv_at hl 7 rfl) ?_
                                              refine va_get (D := (dC, dI)) (ci := 4) (v := .ref mm) (C := zR_N) (T := zT_N) (N := 26) hx hb hts (fun w h => kz_c (zi_N w h)) hown hK (hro.ob hdy.2.2 (k := 0) rfl) 0 rfl rfl 9 (by decide) (hts _ (kz_c mw_600)) (fun _ h9 => h9) rfl zd_N_remain_235 ?_
                                              refine lv_iload hx hb zd_N_remain_238 (lv_at hl 0 rfl) ?_
                                              refine kz_riald hx hb hK hro hdy.2.2 1 0 rfl rfl (vp_in_nI (by omega) (by omega)) zd_N_remain_240 ?_
                                              refine lv_topi (fun x314 h9 => ?_)
                                              obtain rfl : x314 = nI (gmm k207) := h9.trans (kz_dgl gmm (by omega))
                                              have hbx314 := hd_gmm k207
                                              refine lv_i2l hx hb zd_N_remain_241 (kz_lz_i (n := gmm k207) (by omega)) ?_
                                              refine lv_lmul hx hb zd_N_remain_242 ?_
                                              refine lv_topl (fun yl315 h9 => ?_)
                                              obtain rfl : yl315 = kz_lz (z291 * (((gmm k207 : Nat) : Int))) := h9.trans (kz_lz_mul _ _)
                                              refine lv_goto (tgt := 247) hx hb zd_N_remain_243 (by decide) ?_
                                              refine lv_lsub hx hb zd_N_remain_247 ?_
                                              refine lv_topl (fun yl316 h9 => ?_)
                                              obtain rfl : yl316 = kz_lz ((z296 + (((d297 k207 : Nat) : Int))) - (z291 * (((gmm k207 : Nat) : Int)))) := h9.trans (kz_lz_sub _ _)
                                              refine lv_topl (fun yl318 h9 => ?_)
                                              obtain ⟨z317, ez317, rfl⟩ : ∃ z : Int, z = (z296 + (((d297 k207 : Nat) : Int))) - (z291 * (((gmm k207 : Nat) : Int))) ∧ yl318 = kz_lz z := ⟨_, rfl, h9⟩
                                              refine lv_lstore (lv' := [(10, .long (kz_lz (z317))), (12, .int (nI (k207))), (8, .long (kz_lz (z291))), (6, .long (kz_lz (z245))), (5, .int (nI (k78p))), (3, .long (kz_lz (z219))), (2, .int (nI (k3))), (0, .ref o), (1, .ref t)]) hx hb zd_N_remain_248 hl (by decide) rfl (fun ls hl => ?_)
                                              have hm9 := kv_qm (q := z291) (by omega) hQ1 (hd_gmm k207)
                                              have ht9 : z317 = z296 + ((d233 k207 : Nat) : Int) - z291 * ((kv_m18 gmm k207 : Nat) : Int) := by rw [ez317, ← hge k207 (Nat.le_refl _)]; unfold kv_m18; first | (rw [if_pos (by omega)]; done) | (rw [if_neg (by omega)]; show _ = _ - z291 * 0; omega)
                                              refine lv_aload_n hx hb zd_N_remain_250 rfl (lv_at hl 7 rfl) ?_
                                              refine va_get (D := (dC, dI)) (ci := 4) (v := .ref me) (C := zR_N) (T := zT_N) (N := 26) hx hb hts (fun w h => kz_c (zi_N w h)) hown hK (hro.ob hdy.2.2 (k := 0) rfl) 0 rfl rfl 14 (by decide) (hts _ (kz_c mw_605)) (fun _ h9 => h9) rfl zd_N_remain_251 ?_
                                              refine lv_iload hx hb zd_N_remain_254 (lv_at hl 1 rfl) ?_
                                              refine lv_lload hx hb zd_N_remain_256 (lv_at hl 0 rfl) ?_
                                              refine lv_ldc2 (v := (65535)) hx hb hown (hts _ (kz_c mw_708)) zd_N_remain_258 ?_
                                              refine lv_topl (fun yl319 h9 => ?_)
                                              obtain rfl : yl319 = kz_lz (65535) := h9.trans (kz_lz_c65535)
                                              refine lv_land hx hb zd_N_remain_261 ?_
                                              refine lv_topl (fun yl320 h9 => ?_)
                                              obtain rfl : yl320 = kz_lz (z317 % 65536) := h9.trans (kz_lz_andz _)
                                              refine lv_l2i hx hb zd_N_remain_262 (kz_lz_i16 (z317)) ?_
                                              refine va_iast hx hb hK hdy.1 hdy.2.1 hdy.2.2 0 0 rfl rfl (vp_in_nI (by omega) (by omega)) zd_N_remain_263 (fun H locs hP hD hS => ?_)
                                              have h9 := kz_dgu d297 (k := k207) ((z317 % 65536).toNat) (by omega)
                                              rw [h9] at hP hD
                                              obtain ⟨f321, ef321, hd_f321, hdy⟩ : ∃ f321 : Nat → Nat, f321 = kv_up d297 k207 ((z317 % 65536).toNat) ∧ (∀ j, f321 j < 65536) ∧ kz_dy (dC, dI) vwCl A s.heap H locs [(me, .inl (cI, 18, .inl (kz_dg f321))), (t, .inl (cI, 16, .inl (kz_dg d298)))] := ⟨_, rfl, kv_up_lt hd_d297 (by omega), hP, hD, hS⟩
                                              refine lv_lload hx hb zd_N_remain_264 (lv_at hl 0 rfl) ?_
                                              refine lv_bipush (v := (nI (16))) hx hb zd_N_remain_266 (by decide) ?_
                                              refine lv_lshr hx hb zd_N_remain_268 (kz_lz_shr (z := z317) (by omega) (by omega)) ?_
                                              refine lv_topl (fun yl323 h9 => ?_)
                                              obtain ⟨z322, ez322, rfl⟩ : ∃ z : Int, z = z317 / 65536 ∧ yl323 = kz_lz z := ⟨_, rfl, h9⟩
                                              refine lv_lstore (lv' := [(10, .long (kz_lz (z322))), (12, .int (nI (k207))), (8, .long (kz_lz (z291))), (6, .long (kz_lz (z245))), (5, .int (nI (k78p))), (3, .long (kz_lz (z219))), (2, .int (nI (k3))), (0, .ref o), (1, .ref t)]) hx hb zd_N_remain_269 hl (by decide) rfl (fun ls hl => ?_)
                                              refine lv_iinc (v := (nI (k207 + 1))) (lv' := [(12, .int (nI (k207 + 1))), (10, .long (kz_lz (z322))), (8, .long (kz_lz (z291))), (6, .long (kz_lz (z245))), (5, .int (nI (k78p))), (3, .long (kz_lz (z219))), (2, .int (nI (k3))), (0, .ref o), (1, .ref t)]) hx hb zd_N_remain_271 hl (k := 1) rfl (nI_1 _) (by decide) rfl (fun ls hl => ?_)
                                              refine lv_goto (tgt := 207) hx hb zd_N_remain_274 (by decide) ?_
                                              have hi9_hlo324 : -8589934592 ≤ z322 := by omega
                                              have hi9_hhi325 : z322 ≤ 1 := by omega
                                              have hi9_hI326 : ((kv_val f321 (k207 + 1) : Nat) : Int) + z322 * (65536 : Int) ^ (k207 + 1) = ((kv_val d233 (k207 + 1) : Nat) : Int) - z291 * ((kv_val (kv_m18 gmm) (k207 + 1) : Nat) : Int) := by rw [ef321, ez322]; exact kv_subStep hI ht9
                                              have hi9_hge327 : ∀ j, k207 + 1 ≤ j → f321 j = d233 j := by intro j hj; rw [ef321, kv_up_ne _ _ (by omega)]; exact hge j (by omega)
                                              exact ih207 (k207 + 1) (z322) f321 d298 _ _ _ (by omega) (by omega) hd_f321 hd_d298 hi9_hlo324 hi9_hhi325 hi9_hI326 hi9_hge327 hdy (lv_sub hl [0, 1, 2, 3, 4, 5, 6, 7, 8] rfl)
                                      have hi9_hlo328 : -8589934592 ≤ z294 := by omega
                                      have hi9_hhi329 : z294 ≤ 1 := by omega
                                      have hi9_hI330 : ((kv_val d233 (0) : Nat) : Int) + z294 * (65536 : Int) ^ (0) = ((kv_val d233 (0) : Nat) : Int) - z291 * ((kv_val (kv_m18 gmm) (0) : Nat) : Int) := by rw [ez294]; show (0 : Int) + 0 * _ = 0 - z291 * 0; omega
                                      have hi9_hge331 : ∀ j, 0 ≤ j → d233 j = d233 j := by exact fun _ _ => rfl
                                      exact lp207 (18 - 0 + 1) 0 (z294) d233 d234 _ _ _ (by omega) (by omega) hd_d233 hd_d234 hi9_hlo328 hi9_hhi329 hi9_hI330 hi9_hge331 hdy (lv_sub hl [0, 1, 2, 3, 4, 5, 6, 7, 8] rfl)
                                  · have hc161 : ¬ k3 ≤ 0 := fun h9 => hc161 (by have h8 := (nI_leI (by omega) (by omega)).mpr h9; rw [nI_0] at h8; exact h8)
                                    refine lv_aload_n hx hb zd_N_remain_164 rfl (lv_at hl 3 rfl) ?_
                                    refine va_get (D := (dC, dI)) (ci := 4) (v := .ref me) (C := zR_N) (T := zT_N) (N := 26) hx hb hts (fun w h => kz_c (zi_N w h)) hown hK (hro.ob hdy.2.2 (k := 0) rfl) 0 rfl rfl 14 (by decide) (hts _ (kz_c mw_605)) (fun _ h9 => h9) rfl zd_N_remain_165 ?_
                                    refine lv_iload_n hx hb zd_N_remain_168 rfl (lv_at hl 2 rfl) ?_
                                    refine lv_iconst (v := (nI (1))) hx hb zd_N_remain_169 (by decide) ?_
                                    refine kz_isub hx hb zd_N_remain_170 (pk_sub (by omega)) ?_
                                    refine va_iald hx hb hK hdy.1 0 0 rfl rfl (vp_in_nI (by omega) (by omega)) zd_N_remain_171 ?_
                                    refine lv_topi (fun x332 h9 => ?_)
                                    obtain rfl : x332 = nI (d233 (k3 - 1)) := h9.trans (kz_dgl d233 (by omega))
                                    have hbx332 := hd_d233 (k3 - 1)
                                    refine lv_goto (tgt := 176) hx hb zd_N_remain_172 (by decide) ?_
                                    refine lv_i2l hx hb zd_N_remain_176 (kz_lz_i (n := d233 (k3 - 1)) (by omega)) ?_
                                    refine lv_ladd hx hb zd_N_remain_177 ?_
                                    refine lv_topl (fun yl333 h9 => ?_)
                                    obtain rfl : yl333 = kz_lz ((65536 * ((65536 * (((d233 (k3 + 1) : Nat) : Int))) + (((d233 k3 : Nat) : Int)))) + (((d233 (k3 - 1) : Nat) : Int))) := h9.trans (kz_lz_add _ _)
                                    refine lv_topl (fun yl335 h9 => ?_)
                                    obtain ⟨z334, ez334, rfl⟩ : ∃ z : Int, z = (65536 * ((65536 * (((d233 (k3 + 1) : Nat) : Int))) + (((d233 k3 : Nat) : Int)))) + (((d233 (k3 - 1) : Nat) : Int)) ∧ yl335 = kz_lz z := ⟨_, rfl, h9⟩
                                    refine lv_lstore (lv' := [(6, .long (kz_lz (z334))), (5, .int (nI (k78p))), (3, .long (kz_lz (z219))), (2, .int (nI (k3))), (0, .ref o), (1, .ref t)]) hx hb zd_N_remain_178 hl (by decide) rfl (fun ls hl => ?_)
                                    refine lv_lload hx hb zd_N_remain_180 (lv_at hl 0 rfl) ?_
                                    refine lv_lload_n hx hb zd_N_remain_182 rfl (lv_at hl 2 rfl) ?_
                                    refine lv_ldiv hx hb zd_N_remain_183 (kz_lz_ne0 (by omega) (by omega)) ?_
                                    refine lv_topl (fun yl336 h9 => ?_)
                                    obtain rfl : yl336 = kz_lz (z334 / z219) := h9.trans (kz_lz_divz (by omega) (by omega) (by omega) (by omega))
                                    refine lv_topl (fun yl338 h9 => ?_)
                                    obtain ⟨z337, ez337, rfl⟩ : ∃ z : Int, z = z334 / z219 ∧ yl338 = kz_lz z := ⟨_, rfl, h9⟩
                                    refine lv_lstore (lv' := [(8, .long (kz_lz (z337))), (6, .long (kz_lz (z334))), (5, .int (nI (k78p))), (3, .long (kz_lz (z219))), (2, .int (nI (k3))), (0, .ref o), (1, .ref t)]) hx hb zd_N_remain_184 hl (by decide) rfl (fun ls hl => ?_)
                                    have hqz : 0 ≤ z337 ∧ z337 < 4294967296 ∧ z337.toNat * kv_val (kv_m18 gmm) 18 ≤ kv_val d233 18 := by first | exact kv_qZ1 hd_gmm hd_d233 (by omega) (by omega) (by omega) htz ez219 ez334 ez337 | (exfalso; omega) | (obtain rfl : k3 = 0 := (by omega); exact kv_qZ0 hd_gmm hd_d233 (by omega) htz ez219 ez334 ez337)
                                    obtain ⟨hq0, hq1, hq2⟩ := hqz
                                    refine lv_lload hx hb zd_N_remain_186 (lv_at hl 0 rfl) ?_
                                    refine lv_lconst (v := 1) hx hb zd_N_remain_188 (by decide) ?_
                                    refine lv_topl (fun yl339 h9 => ?_)
                                    obtain rfl : yl339 = kz_lz (1) := h9.trans (kz_lz_c1)
                                    refine kz_lge (tgt := 197) hx hb zd_N_remain_189 zd_N_remain_190 (by decide) (fun hc190 => ?_) (fun hc190 => ?_)
                                    · have hc190 : ¬ z337 < 1 := fun h9 => hc190 ((kz_lz_lt (by omega) (by omega) (by omega) (by omega)).mpr h9)
                                      refine lv_lload hx hb zd_N_remain_197 (lv_at hl 0 rfl) ?_
                                      refine lv_lstore (lv' := [(8, .long (kz_lz (z337))), (6, .long (kz_lz (z334))), (5, .int (nI (k78p))), (3, .long (kz_lz (z219))), (2, .int (nI (k3))), (0, .ref o), (1, .ref t)]) hx hb zd_N_remain_199 hl (by decide) rfl (fun ls hl => ?_)
                                      have hQ0 : 1 ≤ z337 := by omega
                                      have hQ1 : z337 < 4294967296 := by omega
                                      have hQ2 : z337.toNat * kv_val (kv_m18 gmm) 18 ≤ kv_val d233 18 := hq2
                                      refine lv_lconst (v := 0) hx hb zd_N_remain_201 (by decide) ?_
                                      refine lv_topl (fun yl340 h9 => ?_)
                                      obtain rfl : yl340 = kz_lz (0) := h9.trans (kz_lz_c0)
                                      refine lv_topl (fun yl342 h9 => ?_)
                                      obtain ⟨z341, ez341, rfl⟩ : ∃ z : Int, z = 0 ∧ yl342 = kz_lz z := ⟨_, rfl, h9⟩
                                      refine lv_lstore (lv' := [(10, .long (kz_lz (z341))), (8, .long (kz_lz (z337))), (6, .long (kz_lz (z334))), (5, .int (nI (k78p))), (3, .long (kz_lz (z219))), (2, .int (nI (k3))), (0, .ref o), (1, .ref t)]) hx hb zd_N_remain_202 hl (by decide) rfl (fun ls hl => ?_)
                                      refine lv_iconst (v := (nI (0))) hx hb zd_N_remain_204 (by decide) ?_
                                      refine lv_istore (lv' := [(12, .int (nI (0))), (10, .long (kz_lz (z341))), (8, .long (kz_lz (z337))), (6, .long (kz_lz (z334))), (5, .int (nI (k78p))), (3, .long (kz_lz (z219))), (2, .int (nI (k3))), (0, .ref o), (1, .ref t)]) hx hb zd_N_remain_205 hl (by decide) rfl (fun ls hl => ?_)
                                      have lp207 : ∀ (n207 k207 : Nat) (z343 : Int) (d344 : Nat → Nat) (d345 : Nat → Nat) (H : Heap) (locs : List Loc) (ls : Array Slot), k207 ≤ 18 → 18 - k207 < n207 → (∀ j, d344 j < 65536) → (∀ j, d345 j < 65536) → (-8589934592 ≤ z343) → (z343 ≤ 1) → (((kv_val d344 (k207) : Nat) : Int) + z343 * (65536 : Int) ^ (k207) = ((kv_val d233 (k207) : Nat) : Int) - z337 * ((kv_val (kv_m18 gmm) (k207) : Nat) : Int)) → (∀ j, k207 ≤ j → d344 j = d233 j) → kz_dy (dC, dI) vwCl A s.heap H locs [(me, .inl (cI, 18, .inl (kz_dg d344))), (t, .inl (cI, 16, .inl (kz_dg d345)))] → lv_has ls 13 [(12, .int (nI (k207))), (10, .long (kz_lz (z343))), (8, .long (kz_lz (z337))), (6, .long (kz_lz (z334))), (5, .int (nI (k78p))), (3, .long (kz_lz (z219))), (2, .int (nI (k3))), (0, .ref o), (1, .ref t)] → W p l e { frames := 1, cells := 0, slots := 0, locals := 23 } s m ([.ref o, .ref t] : List Value).toArray below meth c H locs 0 0 (MQ below (va_Qv (fun (u : (Nat → Nat) × (Nat → Nat)) => (∀ j, u.1 j < 65536) ∧ (∀ j, u.2 j < 65536) ∧ True) (kz_B (dC, dI) vwCl A (fun u : (Nat → Nat) × (Nat → Nat) => [(me, .inl (cI, 18, .inl (kz_dg u.1))), (t, .inl (cI, 16, .inl (kz_dg u.2)))])) A) ([.ref o, .ref t] : List Value).toArray s 0 0 A) (F0 m 207 ls []) := by
                                        intro n207
                                        induction n207 with
                                        | zero => intro k207; intros; omega
                                        | succ n207 ih207 =>
                                          intro k207 z343 d344 d345 H locs ls hi207 hn207 hd_d344 hd_d345 hlo hhi hI hge hdy hl
                                          refine lv_iload hx hb zd_N_remain_207 (lv_at hl 0 rfl) ?_
                                          refine lv_bipush (v := (nI (18))) hx hb zd_N_remain_209 (by decide) ?_
                                          refine lv_icmp_ge (tgt := 277) hx hb zd_N_remain_211 (by decide) (fun hc211 => ?_) (fun hc211 => ?_)
                                          · have hc211 : 18 ≤ k207 := (nI_leI (by omega) (by omega)).mp hc211
                                            refine lv_goto (tgt := 127) hx hb zd_N_remain_277 (by decide) ?_
                                            have hms127 : kv_val d344 18 < n127 := by have h18 : k207 = 18 := (by omega); subst h18; have h8 := kv_subEnd (q := z337.toNat) hd_d344 hd_d233 (by omega) hmv hQ2 (by have h7 : ((z337.toNat : Nat) : Int) = z337 := (by omega); rw [h7]; exact hI); omega
                                            exact ih127 d344 d345 _ _ _ hms127 hd_d344 hd_d345 hdy (lv_sub hl [4, 5, 6, 7, 8] rfl)
                                          · have hc211 : ¬ 18 ≤ k207 := fun h9 => hc211 ((nI_leI (by omega) (by omega)).mpr h9)
                                            refine lv_lload hx hb zd_N_remain_214 (lv_at hl 1 rfl) ?_
                                            refine lv_aload_n hx hb zd_N_remain_216 rfl (lv_at hl 7 rfl) ?_
                                            refine va_get (D := (dC, dI)) (ci := 4) (v := .ref me) (C := zR_N) (T := zT_N) (N := 26) hx hb hts (fun w h => kz_c (zi_N w h)) hown hK (hro.ob hdy.2.2 (k := 0) rfl) 0 rfl rfl 14 (by decide) (hts _ (kz_c mw_605)) (fun _ h9 => h9) rfl zd_N_remain_217 ?_
                                            refine lv_iload hx hb zd_N_remain_220 (lv_at hl 0 rfl) ?_
                                            refine va_iald hx hb hK hdy.1 0 0 rfl rfl (vp_in_nI (by omega) (by omega)) zd_N_remain_222 ?_
                                            refine lv_topi (fun x346 h9 => ?_)
                                            obtain rfl : x346 = nI (d344 k207) := h9.trans (kz_dgl d344 (by omega))
                                            have hbx346 := hd_d344 k207
                                            refine lv_i2l hx hb zd_N_remain_223 (kz_lz_i (n := d344 k207) (by omega)) ?_
                                            refine lv_ladd hx hb zd_N_remain_224 ?_
                                            refine lv_topl (fun yl347 h9 => ?_)
                                            obtain rfl : yl347 = kz_lz (z343 + (((d344 k207 : Nat) : Int))) := h9.trans (kz_lz_add _ _)
                                            refine lv_iload hx hb zd_N_remain_225 (lv_at hl 0 rfl) ?_
                                            refine lv_bipush (v := (nI (16))) hx hb zd_N_remain_227 (by decide) ?_
                                            refine lv_icmp_ge (tgt := 246) hx hb zd_N_remain_229 (by decide) (fun hc229 => ?_) (fun hc229 => ?_)
                                            · have hc229 : 16 ≤ k207 := (nI_leI (by omega) (by omega)).mp hc229
                                              refine lv_lconst (v := 0) hx hb zd_N_remain_246 (by decide) ?_
                                              refine lv_topl (fun yl348 h9 => ?_)
                                              obtain rfl : yl348 = kz_lz (0) := h9.trans (kz_lz_c0)
                                              refine lv_lsub hx hb zd_N_remain_247 ?_
                                              refine lv_topl (fun yl349 h9 => ?_)
                                              obtain rfl : yl349 = kz_lz ((z343 + (((d344 k207 : Nat) : Int))) - 0) := h9.trans (kz_lz_sub _ _)
                                              refine lv_topl (fun yl351 h9 => ?_)
                                              obtain ⟨z350, ez350, rfl⟩ : ∃ z : Int, z = (z343 + (((d344 k207 : Nat) : Int))) - 0 ∧ yl351 = kz_lz z := ⟨_, rfl, h9⟩
                                              refine lv_lstore (lv' := [(10, .long (kz_lz (z350))), (12, .int (nI (k207))), (8, .long (kz_lz (z337))), (6, .long (kz_lz (z334))), (5, .int (nI (k78p))), (3, .long (kz_lz (z219))), (2, .int (nI (k3))), (0, .ref o), (1, .ref t)]) hx hb zd_N_remain_248 hl (by decide) rfl (fun ls hl => ?_)
                                              have hm9 := kv_qm (q := z337) (by omega) hQ1 (hd_gmm k207)
                                              have ht9 : z350 = z343 + ((d233 k207 : Nat) : Int) - z337 * ((kv_m18 gmm k207 : Nat) : Int) := by rw [ez350, ← hge k207 (Nat.le_refl _)]; unfold kv_m18; first | (rw [if_pos (by omega)]; done) | (rw [if_neg (by omega)]; show _ = _ - z337 * 0; omega)
                                              refine lv_aload_n hx hb zd_N_remain_250 rfl (lv_at hl 7 rfl) ?_
                                              refine va_get (D := (dC, dI)) (ci := 4) (v := .ref me) (C := zR_N) (T := zT_N) (N := 26) hx hb hts (fun w h => kz_c (zi_N w h)) hown hK (hro.ob hdy.2.2 (k := 0) rfl) 0 rfl rfl 14 (by decide) (hts _ (kz_c mw_605)) (fun _ h9 => h9) rfl zd_N_remain_251 ?_
                                              refine lv_iload hx hb zd_N_remain_254 (lv_at hl 1 rfl) ?_
                                              refine lv_lload hx hb zd_N_remain_256 (lv_at hl 0 rfl) ?_
                                              refine lv_ldc2 (v := (65535)) hx hb hown (hts _ (kz_c mw_708)) zd_N_remain_258 ?_
                                              refine lv_topl (fun yl352 h9 => ?_)
                                              obtain rfl : yl352 = kz_lz (65535) := h9.trans (kz_lz_c65535)
                                              refine lv_land hx hb zd_N_remain_261 ?_
                                              refine lv_topl (fun yl353 h9 => ?_)
                                              obtain rfl : yl353 = kz_lz (z350 % 65536) := h9.trans (kz_lz_andz _)
                                              refine lv_l2i hx hb zd_N_remain_262 (kz_lz_i16 (z350)) ?_
                                              refine va_iast hx hb hK hdy.1 hdy.2.1 hdy.2.2 0 0 rfl rfl (vp_in_nI (by omega) (by omega)) zd_N_remain_263 (fun H locs hP hD hS => ?_)
                                              have h9 := kz_dgu d344 (k := k207) ((z350 % 65536).toNat) (by omega)
                                              rw [h9] at hP hD
                                              obtain ⟨f354, ef354, hd_f354, hdy⟩ : ∃ f354 : Nat → Nat, f354 = kv_up d344 k207 ((z350 % 65536).toNat) ∧ (∀ j, f354 j < 65536) ∧ kz_dy (dC, dI) vwCl A s.heap H locs [(me, .inl (cI, 18, .inl (kz_dg f354))), (t, .inl (cI, 16, .inl (kz_dg d345)))] := ⟨_, rfl, kv_up_lt hd_d344 (by omega), hP, hD, hS⟩
                                              refine lv_lload hx hb zd_N_remain_264 (lv_at hl 0 rfl) ?_
                                              refine lv_bipush (v := (nI (16))) hx hb zd_N_remain_266 (by decide) ?_
                                              refine lv_lshr hx hb zd_N_remain_268 (kz_lz_shr (z := z350) (by omega) (by omega)) ?_
                                              refine lv_topl (fun yl356 h9 => ?_)
                                              obtain ⟨z355, ez355, rfl⟩ : ∃ z : Int, z = z350 / 65536 ∧ yl356 = kz_lz z := ⟨_, rfl, h9⟩
                                              refine lv_lstore (lv' := [(10, .long (kz_lz (z355))), (12, .int (nI (k207))), (8, .long (kz_lz (z337))), (6, .long (kz_lz (z334))), (5, .int (nI (k78p))), (3, .long (kz_lz (z219))), (2, .int (nI (k3))), (0, .ref o), (1, .ref t)]) hx hb zd_N_remain_269 hl (by decide) rfl (fun ls hl => ?_)
                                              refine lv_iinc (v := (nI (k207 + 1))) (lv' := [(12, .int (nI (k207 + 1))), (10, .long (kz_lz (z355))), (8, .long (kz_lz (z337))), (6, .long (kz_lz (z334))), (5, .int (nI (k78p))), (3, .long (kz_lz (z219))), (2, .int (nI (k3))), (0, .ref o), (1, .ref t)]) hx hb zd_N_remain_271 hl (k := 1) rfl (nI_1 _) (by decide) rfl (fun ls hl => ?_)
                                              refine lv_goto (tgt := 207) hx hb zd_N_remain_274 (by decide) ?_
                                              have hi9_hlo357 : -8589934592 ≤ z355 := by omega
                                              have hi9_hhi358 : z355 ≤ 1 := by omega
                                              have hi9_hI359 : ((kv_val f354 (k207 + 1) : Nat) : Int) + z355 * (65536 : Int) ^ (k207 + 1) = ((kv_val d233 (k207 + 1) : Nat) : Int) - z337 * ((kv_val (kv_m18 gmm) (k207 + 1) : Nat) : Int) := by rw [ef354, ez355]; exact kv_subStep hI ht9
                                              have hi9_hge360 : ∀ j, k207 + 1 ≤ j → f354 j = d233 j := by intro j hj; rw [ef354, kv_up_ne _ _ (by omega)]; exact hge j (by omega)
                                              exact ih207 (k207 + 1) (z355) f354 d345 _ _ _ (by omega) (by omega) hd_f354 hd_d345 hi9_hlo357 hi9_hhi358 hi9_hI359 hi9_hge360 hdy (lv_sub hl [0, 1, 2, 3, 4, 5, 6, 7, 8] rfl)
                                            · have hc229 : ¬ 16 ≤ k207 := fun h9 => hc229 ((nI_leI (by omega) (by omega)).mpr h9)
                                              refine lv_lload hx hb zd_N_remain_232 (lv_at hl 2 rfl) ?_
                                              refine lv_aload_n hx hb zd_N_remain_234 rfl (lv_at hl 7 rfl) ?_
                                              refine va_get (D := (dC, dI)) (ci := 4) (v := .ref mm) (C := zR_N) (T := zT_N) (N := 26) hx hb hts (fun w h => kz_c (zi_N w h)) hown hK (hro.ob hdy.2.2 (k := 0) rfl) 0 rfl rfl 9 (by decide) (hts _ (kz_c mw_600)) (fun _ h9 => h9) rfl zd_N_remain_235 ?_
                                              refine lv_iload hx hb zd_N_remain_238 (lv_at hl 0 rfl) ?_
                                              refine kz_riald hx hb hK hro hdy.2.2 1 0 rfl rfl (vp_in_nI (by omega) (by omega)) zd_N_remain_240 ?_
                                              refine lv_topi (fun x361 h9 => ?_)
                                              obtain rfl : x361 = nI (gmm k207) := h9.trans (kz_dgl gmm (by omega))
                                              have hbx361 := hd_gmm k207
                                              refine lv_i2l hx hb zd_N_remain_241 (kz_lz_i (n := gmm k207) (by omega)) ?_
                                              refine lv_lmul hx hb zd_N_remain_242 ?_
                                              refine lv_topl (fun yl362 h9 => ?_)
                                              obtain rfl : yl362 = kz_lz (z337 * (((gmm k207 : Nat) : Int))) := h9.trans (kz_lz_mul _ _)
                                              refine lv_goto (tgt := 247) hx hb zd_N_remain_243 (by decide) ?_
                                              refine lv_lsub hx hb zd_N_remain_247 ?_
                                              refine lv_topl (fun yl363 h9 => ?_)
                                              obtain rfl : yl363 = kz_lz ((z343 + (((d344 k207 : Nat) : Int))) - (z337 * (((gmm k207 : Nat) : Int)))) := h9.trans (kz_lz_sub _ _)
                                              refine lv_topl (fun yl365 h9 => ?_)
                                              obtain ⟨z364, ez364, rfl⟩ : ∃ z : Int, z = (z343 + (((d344 k207 : Nat) : Int))) - (z337 * (((gmm k207 : Nat) : Int))) ∧ yl365 = kz_lz z := ⟨_, rfl, h9⟩
                                              refine lv_lstore (lv' := [(10, .long (kz_lz (z364))), (12, .int (nI (k207))), (8, .long (kz_lz (z337))), (6, .long (kz_lz (z334))), (5, .int (nI (k78p))), (3, .long (kz_lz (z219))), (2, .int (nI (k3))), (0, .ref o), (1, .ref t)]) hx hb zd_N_remain_248 hl (by decide) rfl (fun ls hl => ?_)
                                              have hm9 := kv_qm (q := z337) (by omega) hQ1 (hd_gmm k207)
                                              have ht9 : z364 = z343 + ((d233 k207 : Nat) : Int) - z337 * ((kv_m18 gmm k207 : Nat) : Int) := by rw [ez364, ← hge k207 (Nat.le_refl _)]; unfold kv_m18; first | (rw [if_pos (by omega)]; done) | (rw [if_neg (by omega)]; show _ = _ - z337 * 0; omega)
                                              refine lv_aload_n hx hb zd_N_remain_250 rfl (lv_at hl 7 rfl) ?_
                                              refine va_get (D := (dC, dI)) (ci := 4) (v := .ref me) (C := zR_N) (T := zT_N) (N := 26) hx hb hts (fun w h => kz_c (zi_N w h)) hown hK (hro.ob hdy.2.2 (k := 0) rfl) 0 rfl rfl 14 (by decide) (hts _ (kz_c mw_605)) (fun _ h9 => h9) rfl zd_N_remain_251 ?_
                                              refine lv_iload hx hb zd_N_remain_254 (lv_at hl 1 rfl) ?_
                                              refine lv_lload hx hb zd_N_remain_256 (lv_at hl 0 rfl) ?_
                                              refine lv_ldc2 (v := (65535)) hx hb hown (hts _ (kz_c mw_708)) zd_N_remain_258 ?_
                                              refine lv_topl (fun yl366 h9 => ?_)
                                              obtain rfl : yl366 = kz_lz (65535) := h9.trans (kz_lz_c65535)
                                              refine lv_land hx hb zd_N_remain_261 ?_
                                              refine lv_topl (fun yl367 h9 => ?_)
                                              obtain rfl : yl367 = kz_lz (z364 % 65536) := h9.trans (kz_lz_andz _)
                                              refine lv_l2i hx hb zd_N_remain_262 (kz_lz_i16 (z364)) ?_
                                              refine va_iast hx hb hK hdy.1 hdy.2.1 hdy.2.2 0 0 rfl rfl (vp_in_nI (by omega) (by omega)) zd_N_remain_263 (fun H locs hP hD hS => ?_)
                                              have h9 := kz_dgu d344 (k := k207) ((z364 % 65536).toNat) (by omega)
                                              rw [h9] at hP hD
                                              obtain ⟨f368, ef368, hd_f368, hdy⟩ : ∃ f368 : Nat → Nat, f368 = kv_up d344 k207 ((z364 % 65536).toNat) ∧ (∀ j, f368 j < 65536) ∧ kz_dy (dC, dI) vwCl A s.heap H locs [(me, .inl (cI, 18, .inl (kz_dg f368))), (t, .inl (cI, 16, .inl (kz_dg d345)))] := ⟨_, rfl, kv_up_lt hd_d344 (by omega), hP, hD, hS⟩
                                              refine lv_lload hx hb zd_N_remain_264 (lv_at hl 0 rfl) ?_
                                              refine lv_bipush (v := (nI (16))) hx hb zd_N_remain_266 (by decide) ?_
                                              refine lv_lshr hx hb zd_N_remain_268 (kz_lz_shr (z := z364) (by omega) (by omega)) ?_
                                              refine lv_topl (fun yl370 h9 => ?_)
                                              obtain ⟨z369, ez369, rfl⟩ : ∃ z : Int, z = z364 / 65536 ∧ yl370 = kz_lz z := ⟨_, rfl, h9⟩
                                              refine lv_lstore (lv' := [(10, .long (kz_lz (z369))), (12, .int (nI (k207))), (8, .long (kz_lz (z337))), (6, .long (kz_lz (z334))), (5, .int (nI (k78p))), (3, .long (kz_lz (z219))), (2, .int (nI (k3))), (0, .ref o), (1, .ref t)]) hx hb zd_N_remain_269 hl (by decide) rfl (fun ls hl => ?_)
                                              refine lv_iinc (v := (nI (k207 + 1))) (lv' := [(12, .int (nI (k207 + 1))), (10, .long (kz_lz (z369))), (8, .long (kz_lz (z337))), (6, .long (kz_lz (z334))), (5, .int (nI (k78p))), (3, .long (kz_lz (z219))), (2, .int (nI (k3))), (0, .ref o), (1, .ref t)]) hx hb zd_N_remain_271 hl (k := 1) rfl (nI_1 _) (by decide) rfl (fun ls hl => ?_)
                                              refine lv_goto (tgt := 207) hx hb zd_N_remain_274 (by decide) ?_
                                              have hi9_hlo371 : -8589934592 ≤ z369 := by omega
                                              have hi9_hhi372 : z369 ≤ 1 := by omega
                                              have hi9_hI373 : ((kv_val f368 (k207 + 1) : Nat) : Int) + z369 * (65536 : Int) ^ (k207 + 1) = ((kv_val d233 (k207 + 1) : Nat) : Int) - z337 * ((kv_val (kv_m18 gmm) (k207 + 1) : Nat) : Int) := by rw [ef368, ez369]; exact kv_subStep hI ht9
                                              have hi9_hge374 : ∀ j, k207 + 1 ≤ j → f368 j = d233 j := by intro j hj; rw [ef368, kv_up_ne _ _ (by omega)]; exact hge j (by omega)
                                              exact ih207 (k207 + 1) (z369) f368 d345 _ _ _ (by omega) (by omega) hd_f368 hd_d345 hi9_hlo371 hi9_hhi372 hi9_hI373 hi9_hge374 hdy (lv_sub hl [0, 1, 2, 3, 4, 5, 6, 7, 8] rfl)
                                      have hi9_hlo375 : -8589934592 ≤ z341 := by omega
                                      have hi9_hhi376 : z341 ≤ 1 := by omega
                                      have hi9_hI377 : ((kv_val d233 (0) : Nat) : Int) + z341 * (65536 : Int) ^ (0) = ((kv_val d233 (0) : Nat) : Int) - z337 * ((kv_val (kv_m18 gmm) (0) : Nat) : Int) := by rw [ez341]; show (0 : Int) + 0 * _ = 0 - z337 * 0; omega
                                      have hi9_hge378 : ∀ j, 0 ≤ j → d233 j = d233 j := by exact fun _ _ => rfl
                                      exact lp207 (18 - 0 + 1) 0 (z341) d233 d234 _ _ _ (by omega) (by omega) hd_d233 hd_d234 hi9_hlo375 hi9_hhi376 hi9_hI377 hi9_hge378 hdy (lv_sub hl [0, 1, 2, 3, 4, 5, 6, 7, 8] rfl)
                                    · have hc190 : z337 < 1 := (kz_lz_lt (by omega) (by omega) (by omega) (by omega)).mp hc190
                                      refine lv_lconst (v := 1) hx hb zd_N_remain_193 (by decide) ?_
                                      refine lv_topl (fun yl379 h9 => ?_)
                                      obtain rfl : yl379 = kz_lz (1) := h9.trans (kz_lz_c1)
                                      refine lv_goto (tgt := 199) hx hb zd_N_remain_194 (by decide) ?_
                                      refine lv_topl (fun yl381 h9 => ?_)
                                      obtain ⟨z380, ez380, rfl⟩ : ∃ z : Int, z = 1 ∧ yl381 = kz_lz z := ⟨_, rfl, h9⟩
                                      refine lv_lstore (lv' := [(8, .long (kz_lz (z380))), (6, .long (kz_lz (z334))), (5, .int (nI (k78p))), (3, .long (kz_lz (z219))), (2, .int (nI (k3))), (0, .ref o), (1, .ref t)]) hx hb zd_N_remain_199 hl (by decide) rfl (fun ls hl => ?_)
                                      have hQ0 : 1 ≤ z380 := by omega
                                      have hQ1 : z380 < 4294967296 := by omega
                                      have hQ2 : z380.toNat * kv_val (kv_m18 gmm) 18 ≤ kv_val d233 18 := by have h8 : z380.toNat = 1 := (by omega); rw [h8, Nat.one_mul]; exact q236 hc132
                                      refine lv_lconst (v := 0) hx hb zd_N_remain_201 (by decide) ?_
                                      refine lv_topl (fun yl382 h9 => ?_)
                                      obtain rfl : yl382 = kz_lz (0) := h9.trans (kz_lz_c0)
                                      refine lv_topl (fun yl384 h9 => ?_)
                                      obtain ⟨z383, ez383, rfl⟩ : ∃ z : Int, z = 0 ∧ yl384 = kz_lz z := ⟨_, rfl, h9⟩
                                      refine lv_lstore (lv' := [(10, .long (kz_lz (z383))), (8, .long (kz_lz (z380))), (6, .long (kz_lz (z334))), (5, .int (nI (k78p))), (3, .long (kz_lz (z219))), (2, .int (nI (k3))), (0, .ref o), (1, .ref t)]) hx hb zd_N_remain_202 hl (by decide) rfl (fun ls hl => ?_)
                                      refine lv_iconst (v := (nI (0))) hx hb zd_N_remain_204 (by decide) ?_
                                      refine lv_istore (lv' := [(12, .int (nI (0))), (10, .long (kz_lz (z383))), (8, .long (kz_lz (z380))), (6, .long (kz_lz (z334))), (5, .int (nI (k78p))), (3, .long (kz_lz (z219))), (2, .int (nI (k3))), (0, .ref o), (1, .ref t)]) hx hb zd_N_remain_205 hl (by decide) rfl (fun ls hl => ?_)
                                      have lp207 : ∀ (n207 k207 : Nat) (z385 : Int) (d386 : Nat → Nat) (d387 : Nat → Nat) (H : Heap) (locs : List Loc) (ls : Array Slot), k207 ≤ 18 → 18 - k207 < n207 → (∀ j, d386 j < 65536) → (∀ j, d387 j < 65536) → (-8589934592 ≤ z385) → (z385 ≤ 1) → (((kv_val d386 (k207) : Nat) : Int) + z385 * (65536 : Int) ^ (k207) = ((kv_val d233 (k207) : Nat) : Int) - z380 * ((kv_val (kv_m18 gmm) (k207) : Nat) : Int)) → (∀ j, k207 ≤ j → d386 j = d233 j) → kz_dy (dC, dI) vwCl A s.heap H locs [(me, .inl (cI, 18, .inl (kz_dg d386))), (t, .inl (cI, 16, .inl (kz_dg d387)))] → lv_has ls 13 [(12, .int (nI (k207))), (10, .long (kz_lz (z385))), (8, .long (kz_lz (z380))), (6, .long (kz_lz (z334))), (5, .int (nI (k78p))), (3, .long (kz_lz (z219))), (2, .int (nI (k3))), (0, .ref o), (1, .ref t)] → W p l e { frames := 1, cells := 0, slots := 0, locals := 23 } s m ([.ref o, .ref t] : List Value).toArray below meth c H locs 0 0 (MQ below (va_Qv (fun (u : (Nat → Nat) × (Nat → Nat)) => (∀ j, u.1 j < 65536) ∧ (∀ j, u.2 j < 65536) ∧ True) (kz_B (dC, dI) vwCl A (fun u : (Nat → Nat) × (Nat → Nat) => [(me, .inl (cI, 18, .inl (kz_dg u.1))), (t, .inl (cI, 16, .inl (kz_dg u.2)))])) A) ([.ref o, .ref t] : List Value).toArray s 0 0 A) (F0 m 207 ls []) := by
                                        intro n207
                                        induction n207 with
                                        | zero => intro k207; intros; omega
                                        | succ n207 ih207 =>
                                          intro k207 z385 d386 d387 H locs ls hi207 hn207 hd_d386 hd_d387 hlo hhi hI hge hdy hl
                                          refine lv_iload hx hb zd_N_remain_207 (lv_at hl 0 rfl) ?_
                                          refine lv_bipush (v := (nI (18))) hx hb zd_N_remain_209 (by decide) ?_
                                          refine lv_icmp_ge (tgt := 277) hx hb zd_N_remain_211 (by decide) (fun hc211 => ?_) (fun hc211 => ?_)
                                          · have hc211 : 18 ≤ k207 := (nI_leI (by omega) (by omega)).mp hc211
                                            refine lv_goto (tgt := 127) hx hb zd_N_remain_277 (by decide) ?_
                                            have hms127 : kv_val d386 18 < n127 := by have h18 : k207 = 18 := (by omega); subst h18; have h8 := kv_subEnd (q := z380.toNat) hd_d386 hd_d233 (by omega) hmv hQ2 (by have h7 : ((z380.toNat : Nat) : Int) = z380 := (by omega); rw [h7]; exact hI); omega
                                            exact ih127 d386 d387 _ _ _ hms127 hd_d386 hd_d387 hdy (lv_sub hl [4, 5, 6, 7, 8] rfl)
                                          · have hc211 : ¬ 18 ≤ k207 := fun h9 => hc211 ((nI_leI (by omega) (by omega)).mpr h9)
                                            refine lv_lload hx hb zd_N_remain_214 (lv_at hl 1 rfl) ?_
                                            refine lv_aload_n hx hb zd_N_remain_216 rfl (lv_at hl 7 rfl) ?_
                                            refine va_get (D := (dC, dI)) (ci := 4) (v := .ref me) (C := zR_N) (T := zT_N) (N := 26) hx hb hts (fun w h => kz_c (zi_N w h)) hown hK (hro.ob hdy.2.2 (k := 0) rfl) 0 rfl rfl 14 (by decide) (hts _ (kz_c mw_605)) (fun _ h9 => h9) rfl zd_N_remain_217 ?_
                                            refine lv_iload hx hb zd_N_remain_220 (lv_at hl 0 rfl) ?_
                                            refine va_iald hx hb hK hdy.1 0 0 rfl rfl (vp_in_nI (by omega) (by omega)) zd_N_remain_222 ?_
                                            refine lv_topi (fun x388 h9 => ?_)
                                            obtain rfl : x388 = nI (d386 k207) := h9.trans (kz_dgl d386 (by omega))
                                            have hbx388 := hd_d386 k207
                                            refine lv_i2l hx hb zd_N_remain_223 (kz_lz_i (n := d386 k207) (by omega)) ?_
                                            refine lv_ladd hx hb zd_N_remain_224 ?_
                                            refine lv_topl (fun yl389 h9 => ?_)
                                            obtain rfl : yl389 = kz_lz (z385 + (((d386 k207 : Nat) : Int))) := h9.trans (kz_lz_add _ _)
                                            refine lv_iload hx hb zd_N_remain_225 (lv_at hl 0 rfl) ?_
                                            refine lv_bipush (v := (nI (16))) hx hb zd_N_remain_227 (by decide) ?_
                                            refine lv_icmp_ge (tgt := 246) hx hb zd_N_remain_229 (by decide) (fun hc229 => ?_) (fun hc229 => ?_)
                                            · have hc229 : 16 ≤ k207 := (nI_leI (by omega) (by omega)).mp hc229
                                              refine lv_lconst (v := 0) hx hb zd_N_remain_246 (by decide) ?_
                                              refine lv_topl (fun yl390 h9 => ?_)
                                              obtain rfl : yl390 = kz_lz (0) := h9.trans (kz_lz_c0)
                                              refine lv_lsub hx hb zd_N_remain_247 ?_
                                              refine lv_topl (fun yl391 h9 => ?_)
                                              obtain rfl : yl391 = kz_lz ((z385 + (((d386 k207 : Nat) : Int))) - 0) := h9.trans (kz_lz_sub _ _)
                                              refine lv_topl (fun yl393 h9 => ?_)
                                              obtain ⟨z392, ez392, rfl⟩ : ∃ z : Int, z = (z385 + (((d386 k207 : Nat) : Int))) - 0 ∧ yl393 = kz_lz z := ⟨_, rfl, h9⟩
                                              refine lv_lstore (lv' := [(10, .long (kz_lz (z392))), (12, .int (nI (k207))), (8, .long (kz_lz (z380))), (6, .long (kz_lz (z334))), (5, .int (nI (k78p))), (3, .long (kz_lz (z219))), (2, .int (nI (k3))), (0, .ref o), (1, .ref t)]) hx hb zd_N_remain_248 hl (by decide) rfl (fun ls hl => ?_)
                                              have hm9 := kv_qm (q := z380) (by omega) hQ1 (hd_gmm k207)
                                              have ht9 : z392 = z385 + ((d233 k207 : Nat) : Int) - z380 * ((kv_m18 gmm k207 : Nat) : Int) := by rw [ez392, ← hge k207 (Nat.le_refl _)]; unfold kv_m18; first | (rw [if_pos (by omega)]; done) | (rw [if_neg (by omega)]; show _ = _ - z380 * 0; omega)
                                              refine lv_aload_n hx hb zd_N_remain_250 rfl (lv_at hl 7 rfl) ?_
                                              refine va_get (D := (dC, dI)) (ci := 4) (v := .ref me) (C := zR_N) (T := zT_N) (N := 26) hx hb hts (fun w h => kz_c (zi_N w h)) hown hK (hro.ob hdy.2.2 (k := 0) rfl) 0 rfl rfl 14 (by decide) (hts _ (kz_c mw_605)) (fun _ h9 => h9) rfl zd_N_remain_251 ?_
                                              refine lv_iload hx hb zd_N_remain_254 (lv_at hl 1 rfl) ?_
                                              refine lv_lload hx hb zd_N_remain_256 (lv_at hl 0 rfl) ?_
                                              refine lv_ldc2 (v := (65535)) hx hb hown (hts _ (kz_c mw_708)) zd_N_remain_258 ?_
                                              refine lv_topl (fun yl394 h9 => ?_)
                                              obtain rfl : yl394 = kz_lz (65535) := h9.trans (kz_lz_c65535)
                                              refine lv_land hx hb zd_N_remain_261 ?_
                                              refine lv_topl (fun yl395 h9 => ?_)
                                              obtain rfl : yl395 = kz_lz (z392 % 65536) := h9.trans (kz_lz_andz _)
                                              refine lv_l2i hx hb zd_N_remain_262 (kz_lz_i16 (z392)) ?_
                                              refine va_iast hx hb hK hdy.1 hdy.2.1 hdy.2.2 0 0 rfl rfl (vp_in_nI (by omega) (by omega)) zd_N_remain_263 (fun H locs hP hD hS => ?_)
                                              have h9 := kz_dgu d386 (k := k207) ((z392 % 65536).toNat) (by omega)
                                              rw [h9] at hP hD
                                              obtain ⟨f396, ef396, hd_f396, hdy⟩ : ∃ f396 : Nat → Nat, f396 = kv_up d386 k207 ((z392 % 65536).toNat) ∧ (∀ j, f396 j < 65536) ∧ kz_dy (dC, dI) vwCl A s.heap H locs [(me, .inl (cI, 18, .inl (kz_dg f396))), (t, .inl (cI, 16, .inl (kz_dg d387)))] := ⟨_, rfl, kv_up_lt hd_d386 (by omega), hP, hD, hS⟩
                                              refine lv_lload hx hb zd_N_remain_264 (lv_at hl 0 rfl) ?_
                                              refine lv_bipush (v := (nI (16))) hx hb zd_N_remain_266 (by decide) ?_
                                              refine lv_lshr hx hb zd_N_remain_268 (kz_lz_shr (z := z392) (by omega) (by omega)) ?_
                                              refine lv_topl (fun yl398 h9 => ?_)
                                              obtain ⟨z397, ez397, rfl⟩ : ∃ z : Int, z = z392 / 65536 ∧ yl398 = kz_lz z := ⟨_, rfl, h9⟩
                                              refine lv_lstore (lv' := [(10, .long (kz_lz (z397))), (12, .int (nI (k207))), (8, .long (kz_lz (z380))), (6, .long (kz_lz (z334))), (5, .int (nI (k78p))), (3, .long (kz_lz (z219))), (2, .int (nI (k3))), (0, .ref o), (1, .ref t)]) hx hb zd_N_remain_269 hl (by decide) rfl (fun ls hl => ?_)
                                              refine lv_iinc (v := (nI (k207 + 1))) (lv' := [(12, .int (nI (k207 + 1))), (10, .long (kz_lz (z397))), (8, .long (kz_lz (z380))), (6, .long (kz_lz (z334))), (5, .int (nI (k78p))), (3, .long (kz_lz (z219))), (2, .int (nI (k3))), (0, .ref o), (1, .ref t)]) hx hb zd_N_remain_271 hl (k := 1) rfl (nI_1 _) (by decide) rfl (fun ls hl => ?_)
                                              refine lv_goto (tgt := 207) hx hb zd_N_remain_274 (by decide) ?_
                                              have hi9_hlo399 : -8589934592 ≤ z397 := by omega
                                              have hi9_hhi400 : z397 ≤ 1 := by omega
                                              have hi9_hI401 : ((kv_val f396 (k207 + 1) : Nat) : Int) + z397 * (65536 : Int) ^ (k207 + 1) = ((kv_val d233 (k207 + 1) : Nat) : Int) - z380 * ((kv_val (kv_m18 gmm) (k207 + 1) : Nat) : Int) := by rw [ef396, ez397]; exact kv_subStep hI ht9
                                              have hi9_hge402 : ∀ j, k207 + 1 ≤ j → f396 j = d233 j := by intro j hj; rw [ef396, kv_up_ne _ _ (by omega)]; exact hge j (by omega)
                                              exact ih207 (k207 + 1) (z397) f396 d387 _ _ _ (by omega) (by omega) hd_f396 hd_d387 hi9_hlo399 hi9_hhi400 hi9_hI401 hi9_hge402 hdy (lv_sub hl [0, 1, 2, 3, 4, 5, 6, 7, 8] rfl)
                                            · have hc229 : ¬ 16 ≤ k207 := fun h9 => hc229 ((nI_leI (by omega) (by omega)).mpr h9)
                                              refine lv_lload hx hb zd_N_remain_232 (lv_at hl 2 rfl) ?_
                                              refine lv_aload_n hx hb zd_N_remain_234 rfl (lv_at hl 7 rfl) ?_
                                              refine va_get (D := (dC, dI)) (ci := 4) (v := .ref mm) (C := zR_N) (T := zT_N) (N := 26) hx hb hts (fun w h => kz_c (zi_N w h)) hown hK (hro.ob hdy.2.2 (k := 0) rfl) 0 rfl rfl 9 (by decide) (hts _ (kz_c mw_600)) (fun _ h9 => h9) rfl zd_N_remain_235 ?_
                                              refine lv_iload hx hb zd_N_remain_238 (lv_at hl 0 rfl) ?_
                                              refine kz_riald hx hb hK hro hdy.2.2 1 0 rfl rfl (vp_in_nI (by omega) (by omega)) zd_N_remain_240 ?_
                                              refine lv_topi (fun x403 h9 => ?_)
                                              obtain rfl : x403 = nI (gmm k207) := h9.trans (kz_dgl gmm (by omega))
                                              have hbx403 := hd_gmm k207
                                              refine lv_i2l hx hb zd_N_remain_241 (kz_lz_i (n := gmm k207) (by omega)) ?_
                                              refine lv_lmul hx hb zd_N_remain_242 ?_
                                              refine lv_topl (fun yl404 h9 => ?_)
                                              obtain rfl : yl404 = kz_lz (z380 * (((gmm k207 : Nat) : Int))) := h9.trans (kz_lz_mul _ _)
                                              refine lv_goto (tgt := 247) hx hb zd_N_remain_243 (by decide) ?_
                                              refine lv_lsub hx hb zd_N_remain_247 ?_
                                              refine lv_topl (fun yl405 h9 => ?_)
                                              obtain rfl : yl405 = kz_lz ((z385 + (((d386 k207 : Nat) : Int))) - (z380 * (((gmm k207 : Nat) : Int)))) := h9.trans (kz_lz_sub _ _)
                                              refine lv_topl (fun yl407 h9 => ?_)
                                              obtain ⟨z406, ez406, rfl⟩ : ∃ z : Int, z = (z385 + (((d386 k207 : Nat) : Int))) - (z380 * (((gmm k207 : Nat) : Int))) ∧ yl407 = kz_lz z := ⟨_, rfl, h9⟩
                                              refine lv_lstore (lv' := [(10, .long (kz_lz (z406))), (12, .int (nI (k207))), (8, .long (kz_lz (z380))), (6, .long (kz_lz (z334))), (5, .int (nI (k78p))), (3, .long (kz_lz (z219))), (2, .int (nI (k3))), (0, .ref o), (1, .ref t)]) hx hb zd_N_remain_248 hl (by decide) rfl (fun ls hl => ?_)
                                              have hm9 := kv_qm (q := z380) (by omega) hQ1 (hd_gmm k207)
                                              have ht9 : z406 = z385 + ((d233 k207 : Nat) : Int) - z380 * ((kv_m18 gmm k207 : Nat) : Int) := by rw [ez406, ← hge k207 (Nat.le_refl _)]; unfold kv_m18; first | (rw [if_pos (by omega)]; done) | (rw [if_neg (by omega)]; show _ = _ - z380 * 0; omega)
                                              refine lv_aload_n hx hb zd_N_remain_250 rfl (lv_at hl 7 rfl) ?_
                                              refine va_get (D := (dC, dI)) (ci := 4) (v := .ref me) (C := zR_N) (T := zT_N) (N := 26) hx hb hts (fun w h => kz_c (zi_N w h)) hown hK (hro.ob hdy.2.2 (k := 0) rfl) 0 rfl rfl 14 (by decide) (hts _ (kz_c mw_605)) (fun _ h9 => h9) rfl zd_N_remain_251 ?_
                                              refine lv_iload hx hb zd_N_remain_254 (lv_at hl 1 rfl) ?_
                                              refine lv_lload hx hb zd_N_remain_256 (lv_at hl 0 rfl) ?_
                                              refine lv_ldc2 (v := (65535)) hx hb hown (hts _ (kz_c mw_708)) zd_N_remain_258 ?_
                                              refine lv_topl (fun yl408 h9 => ?_)
                                              obtain rfl : yl408 = kz_lz (65535) := h9.trans (kz_lz_c65535)
                                              refine lv_land hx hb zd_N_remain_261 ?_
                                              refine lv_topl (fun yl409 h9 => ?_)
                                              obtain rfl : yl409 = kz_lz (z406 % 65536) := h9.trans (kz_lz_andz _)
                                              refine lv_l2i hx hb zd_N_remain_262 (kz_lz_i16 (z406)) ?_
                                              refine va_iast hx hb hK hdy.1 hdy.2.1 hdy.2.2 0 0 rfl rfl (vp_in_nI (by omega) (by omega)) zd_N_remain_263 (fun H locs hP hD hS => ?_)
                                              have h9 := kz_dgu d386 (k := k207) ((z406 % 65536).toNat) (by omega)
                                              rw [h9] at hP hD
                                              obtain ⟨f410, ef410, hd_f410, hdy⟩ : ∃ f410 : Nat → Nat, f410 = kv_up d386 k207 ((z406 % 65536).toNat) ∧ (∀ j, f410 j < 65536) ∧ kz_dy (dC, dI) vwCl A s.heap H locs [(me, .inl (cI, 18, .inl (kz_dg f410))), (t, .inl (cI, 16, .inl (kz_dg d387)))] := ⟨_, rfl, kv_up_lt hd_d386 (by omega), hP, hD, hS⟩
                                              refine lv_lload hx hb zd_N_remain_264 (lv_at hl 0 rfl) ?_
                                              refine lv_bipush (v := (nI (16))) hx hb zd_N_remain_266 (by decide) ?_
                                              refine lv_lshr hx hb zd_N_remain_268 (kz_lz_shr (z := z406) (by omega) (by omega)) ?_
                                              refine lv_topl (fun yl412 h9 => ?_)
                                              obtain ⟨z411, ez411, rfl⟩ : ∃ z : Int, z = z406 / 65536 ∧ yl412 = kz_lz z := ⟨_, rfl, h9⟩
                                              refine lv_lstore (lv' := [(10, .long (kz_lz (z411))), (12, .int (nI (k207))), (8, .long (kz_lz (z380))), (6, .long (kz_lz (z334))), (5, .int (nI (k78p))), (3, .long (kz_lz (z219))), (2, .int (nI (k3))), (0, .ref o), (1, .ref t)]) hx hb zd_N_remain_269 hl (by decide) rfl (fun ls hl => ?_)
                                              refine lv_iinc (v := (nI (k207 + 1))) (lv' := [(12, .int (nI (k207 + 1))), (10, .long (kz_lz (z411))), (8, .long (kz_lz (z380))), (6, .long (kz_lz (z334))), (5, .int (nI (k78p))), (3, .long (kz_lz (z219))), (2, .int (nI (k3))), (0, .ref o), (1, .ref t)]) hx hb zd_N_remain_271 hl (k := 1) rfl (nI_1 _) (by decide) rfl (fun ls hl => ?_)
                                              refine lv_goto (tgt := 207) hx hb zd_N_remain_274 (by decide) ?_
                                              have hi9_hlo413 : -8589934592 ≤ z411 := by omega
                                              have hi9_hhi414 : z411 ≤ 1 := by omega
                                              have hi9_hI415 : ((kv_val f410 (k207 + 1) : Nat) : Int) + z411 * (65536 : Int) ^ (k207 + 1) = ((kv_val d233 (k207 + 1) : Nat) : Int) - z380 * ((kv_val (kv_m18 gmm) (k207 + 1) : Nat) : Int) := by rw [ef410, ez411]; exact kv_subStep hI ht9
                                              have hi9_hge416 : ∀ j, k207 + 1 ≤ j → f410 j = d233 j := by intro j hj; rw [ef410, kv_up_ne _ _ (by omega)]; exact hge j (by omega)
                                              exact ih207 (k207 + 1) (z411) f410 d387 _ _ _ (by omega) (by omega) hd_f410 hd_d387 hi9_hlo413 hi9_hhi414 hi9_hI415 hi9_hge416 hdy (lv_sub hl [0, 1, 2, 3, 4, 5, 6, 7, 8] rfl)
                                      have hi9_hlo417 : -8589934592 ≤ z383 := by omega
                                      have hi9_hhi418 : z383 ≤ 1 := by omega
                                      have hi9_hI419 : ((kv_val d233 (0) : Nat) : Int) + z383 * (65536 : Int) ^ (0) = ((kv_val d233 (0) : Nat) : Int) - z380 * ((kv_val (kv_m18 gmm) (0) : Nat) : Int) := by rw [ez383]; show (0 : Int) + 0 * _ = 0 - z380 * 0; omega
                                      have hi9_hge420 : ∀ j, 0 ≤ j → d233 j = d233 j := by exact fun _ _ => rfl
                                      exact lp207 (18 - 0 + 1) 0 (z383) d233 d234 _ _ _ (by omega) (by omega) hd_d233 hd_d234 hi9_hlo417 hi9_hhi418 hi9_hI419 hi9_hge420 hdy (lv_sub hl [0, 1, 2, 3, 4, 5, 6, 7, 8] rfl)
                            exact lp127 (kv_val f232 18 + 1) f232 d230 _ _ _ (Nat.lt_succ_self _) hd_f232 hd_d230 hdy (lv_sub hl [1, 2, 3, 4, 5] rfl)
                          · have hc89 : ¬ k87 ≤ 0 := fun h9 => hc89 (by have h8 := (nI_leI (by omega) (by omega)).mpr h9; rw [nI_0] at h8; exact h8)
                            refine lv_aload_n hx hb zd_N_remain_92 rfl (lv_at hl 4 rfl) ?_
                            refine va_get (D := (dC, dI)) (ci := 4) (v := .ref me) (C := zR_N) (T := zT_N) (N := 26) hx hb hts (fun w h => kz_c (zi_N w h)) hown hK (hro.ob hdy.2.2 (k := 0) rfl) 0 rfl rfl 14 (by decide) (hts _ (kz_c mw_605)) (fun _ h9 => h9) rfl zd_N_remain_93 ?_
                            refine lv_iload hx hb zd_N_remain_96 (lv_at hl 0 rfl) ?_
                            refine lv_aload_n hx hb zd_N_remain_98 rfl (lv_at hl 4 rfl) ?_
                            refine va_get (D := (dC, dI)) (ci := 4) (v := .ref me) (C := zR_N) (T := zT_N) (N := 26) hx hb hts (fun w h => kz_c (zi_N w h)) hown hK (hro.ob hdy.2.2 (k := 0) rfl) 0 rfl rfl 14 (by decide) (hts _ (kz_c mw_605)) (fun _ h9 => h9) rfl zd_N_remain_99 ?_
                            refine lv_iload hx hb zd_N_remain_102 (lv_at hl 0 rfl) ?_
                            refine lv_iconst (v := (nI (1))) hx hb zd_N_remain_104 (by decide) ?_
                            refine kz_isub hx hb zd_N_remain_105 (pk_sub (by omega)) ?_
                            refine va_iald hx hb hK hdy.1 0 0 rfl rfl (vp_in_nI (by omega) (by omega)) zd_N_remain_106 ?_
                            refine lv_topi (fun x421 h9 => ?_)
                            obtain rfl : x421 = nI (d229 (k87 - 1)) := h9.trans (kz_dgl d229 (by omega))
                            have hbx421 := hd_d229 (k87 - 1)
                            refine va_iast hx hb hK hdy.1 hdy.2.1 hdy.2.2 0 0 rfl rfl (vp_in_nI (by omega) (by omega)) zd_N_remain_107 (fun H locs hP hD hS => ?_)
                            have h9 := kz_dgu d229 (k := k87) (d229 (k87 - 1)) (by omega)
                            rw [h9] at hP hD
                            obtain ⟨f422, ef422, hd_f422, hdy⟩ : ∃ f422 : Nat → Nat, f422 = kv_up d229 k87 (d229 (k87 - 1)) ∧ (∀ j, f422 j < 65536) ∧ kz_dy (dC, dI) vwCl A s.heap H locs [(me, .inl (cI, 18, .inl (kz_dg f422))), (t, .inl (cI, 16, .inl (kz_dg d230)))] := ⟨_, rfl, kv_up_lt hd_d229 (by omega), hP, hD, hS⟩
                            refine lv_iinc (v := (nI (k87 - 1))) (lv' := [(6, .int (nI (k87 - 1))), (5, .int (nI (k78p))), (3, .long (kz_lz (z219))), (2, .int (nI (k3))), (0, .ref o), (1, .ref t)]) hx hb zd_N_remain_108 hl (k := 0) rfl (kz_dec (by omega)) (by decide) rfl (fun ls hl => ?_)
                            refine lv_goto (tgt := 87) hx hb zd_N_remain_111 (by decide) ?_
                            exact ih87 (k87 - 1) f422 d230 _ _ _ (by omega) (by omega) hd_f422 hd_d230 hdy (lv_sub hl [0, 1, 2, 3, 4, 5] rfl)
                      exact lp87 (17 + 1) 17 d223 d224 _ _ _ (by omega) (by omega) hd_d223 hd_d224 hdy (lv_sub hl [0, 1, 2, 3, 4, 5] rfl)
                exact lp78 (32 + 1) 32 d221 d222 _ _ _ (by omega) (by omega) hd_d221 hd_d222 hdy (lv_sub hl [0, 1, 2, 3, 4] rfl)
              · have hc57 : ¬ 18 ≤ k53 := fun h9 => hc57 ((nI_leI (by omega) (by omega)).mpr h9)
                refine lv_aload_n hx hb zd_N_remain_60 rfl (lv_at hl 3 rfl) ?_
                refine va_get (D := (dC, dI)) (ci := 4) (v := .ref me) (C := zR_N) (T := zT_N) (N := 26) hx hb hts (fun w h => kz_c (zi_N w h)) hown hK (hro.ob hdy.2.2 (k := 0) rfl) 0 rfl rfl 14 (by decide) (hts _ (kz_c mw_605)) (fun _ h9 => h9) rfl zd_N_remain_61 ?_
                refine lv_iload hx hb zd_N_remain_64 (lv_at hl 0 rfl) ?_
                refine lv_iconst (v := (nI (0))) hx hb zd_N_remain_66 (by decide) ?_
                refine va_iast hx hb hK hdy.1 hdy.2.1 hdy.2.2 0 0 rfl rfl (vp_in_nI (by omega) (by omega)) zd_N_remain_67 (fun H locs hP hD hS => ?_)
                have h9 := kz_dgu d221 (k := k53) 0 (by omega)
                rw [h9] at hP hD
                obtain ⟨f423, ef423, hd_f423, hdy⟩ : ∃ f423 : Nat → Nat, f423 = kv_up d221 k53 0 ∧ (∀ j, f423 j < 65536) ∧ kz_dy (dC, dI) vwCl A s.heap H locs [(me, .inl (cI, 18, .inl (kz_dg f423))), (t, .inl (cI, 16, .inl (kz_dg d222)))] := ⟨_, rfl, kv_up_lt hd_d221 (by omega), hP, hD, hS⟩
                refine lv_iinc (v := (nI (k53 + 1))) (lv' := [(5, .int (nI (k53 + 1))), (3, .long (kz_lz (z219))), (2, .int (nI (k3))), (0, .ref o), (1, .ref t)]) hx hb zd_N_remain_68 hl (k := 0) rfl (nI_1 _) (by decide) rfl (fun ls hl => ?_)
                refine lv_goto (tgt := 53) hx hb zd_N_remain_71 (by decide) ?_
                exact ih53 (k53 + 1) f423 d222 _ _ _ (by omega) (by omega) hd_f423 hd_d222 hdy (lv_sub hl [0, 1, 2, 3, 4] rfl)
          exact lp53 (18 - 0 + 1) 0 d1 d2 _ _ _ (by omega) (by omega) hd_d1 hd_d2 hdy (lv_sub hl [0, 1, 2, 3, 4] rfl)
      · have hc9 : (gmm k3) = 0 := (nI_eq (by omega) (by omega)).mp (by rw [nI_0]; exact hc9)
        have hk0 : 0 < k3 := by obtain ⟨j9, h91, h92, h93⟩ := id hsm; rcases Nat.eq_zero_or_pos k3 with h | h; exact absurd h93 (by have h8 : j9 = k3 := (by omega); rw [h8]; omega); exact h
        refine lv_iinc (v := (nI (k3 - 1))) (lv' := [(2, .int (nI (k3 - 1))), (0, .ref o), (1, .ref t)]) hx hb zd_N_remain_12 hl (k := 0) rfl (kz_dec (by omega)) (by decide) rfl (fun ls hl => ?_)
        refine lv_goto (tgt := 3) hx hb zd_N_remain_15 (by decide) ?_
        have hi9_hsm424 : kv_some gmm 0 (k3 - 1 + 1) := by obtain ⟨j9, h91, h92, h93⟩ := id hsm; exact ⟨j9, h91, by have h8 : j9 ≠ k3 := (fun q => by rw [q] at h93; omega); omega, h93⟩
        have hi9_htz425 : ∀ j, k3 - 1 < j → j < 16 → gmm j = 0 := by intro j a b; rcases (by omega : j = k3 ∨ k3 < j) with h | h; rw [h]; omega; exact htz j h b
        exact ih3 (k3 - 1) d1 d2 _ _ _ (by omega) (by omega) hd_d1 hd_d2 hi9_hsm424 hi9_htz425 hdy (lv_sub hl [0, 1, 2] rfl)
  have hi9_hsm426 : kv_some gmm 0 (15 + 1) := by exact hnz
  have hi9_htz427 : ∀ j, 15 < j → j < 16 → gmm j = 0 := by intro j a b; omega
  exact lp3 (15 + 1) 15 gme gt _ _ _ (by omega) (by omega) hd_gme hd_gt hi9_hsm426 hi9_htz427 hdy (lv_sub hl [0, 1, 2] rfl)

