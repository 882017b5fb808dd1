set_option maxHeartbeats 4000000 in
set_option maxRecDepth 100000 in
/-- KeyMeetingModel.isSmall([I)Z -/
theorem c_F_isSmall (l : Launch) (dC : Nat → ClassId) (dI : Nat → Nat → Nat) (cI cAA cB cL : ClassId) (a : Nat) (ga : Nat → Nat) (sz : Nat) (hd_ga : ∀ j, ga j < 65536) : Met l zy_N_isSmall zw_N_isSmall { frames := 0, cells := 0, slots := 0, locals := 0 } (kz_Pc (dC, dI) vwCl [(cI, .int), (cAA, .array .int), (cB, .byte), (cL, .long)] [] [] [.ref a] [] [(a, .inl (cI, 16, .inl (kz_dg ga)))] sz) (va_Qi (fun (r : Int32) (u : Unit) => (r = 0 ∨ r = 1) ∧ ((r = 0 ∧ 3 ≤ kv_val ga 16) ∨ (r = 1 ∧ kv_val ga 16 < 3)) ∧ True) (kz_B (dC, dI) vwCl (va_A [] sz) (fun u : Unit => [])) (va_A [] sz)) 0 0 (va_A [] sz) := by
  refine kz_met (y := zy_N_isSmall) (ws := zw_N_isSmall) (av := [.ref a]) (sz := sz) (Qc := fun A => va_Qi (fun (r : Int32) (u : Unit) => (r = 0 ∨ r = 1) ∧ ((r = 0 ∧ 3 ≤ kv_val ga 16) ∨ (r = 1 ∧ kv_val ga 16 < 3)) ∧ True) (kz_B (dC, dI) vwCl A (fun u : Unit => [])) A) (cc := zc_N_isSmall) (maxL := 3) (ret := some .boolean) (by decide) rfl (Nat.le_of_ble_eq_true rfl) ?_
  intro p e s m below meth c A ls F hA hdy hK hro hZ hN hl
  obtain ⟨hx, hb, hml, hr, hown, hlocks, hts, hnm⟩ := id F
  have hl : lv_has ls 3 [(0, .ref a)] := hl
  refine lv_aload_n hx hb zd_N_isSmall_0 rfl (lv_at hl 0 rfl) ?_
  refine lv_iconst (v := (nI (0))) hx hb zd_N_isSmall_1 (by decide) ?_
  refine kz_riald hx hb hK hro hdy.2.2 0 0 rfl rfl (vp_in_nI (by omega) (by omega)) zd_N_isSmall_2 ?_
  refine lv_topi (fun x1 h9 => ?_)
  obtain rfl : x1 = nI (ga 0) := h9.trans (kz_dgl ga (by omega))
  have hbx1 := hd_ga 0
  refine lv_iconst (v := (nI (2))) hx hb zd_N_isSmall_3 (by decide) ?_
  refine lv_icmp_le (tgt := 11) hx hb zd_N_isSmall_4 (by decide) (fun hc4 => ?_) (fun hc4 => ?_)
  · have hc4 : (ga 0) ≤ 2 := (nI_leI (by omega) (by omega)).mp hc4
    refine lv_iconst (v := (nI (0))) hx hb zd_N_isSmall_11 (by decide) ?_
    refine lv_istore_n (lv' := [(1, .int (nI (0))), (0, .ref a)]) hx hb zd_N_isSmall_12 rfl hl (by decide) rfl (fun ls hl => ?_)
    refine lv_iconst (v := (nI (1))) hx hb zd_N_isSmall_13 (by decide) ?_
    refine lv_istore_n (lv' := [(2, .int (nI (1))), (1, .int (nI (0))), (0, .ref a)]) hx hb zd_N_isSmall_14 rfl hl (by decide) rfl (fun ls hl => ?_)
    have lp15 : ∀ (n15 k15 : Nat) (c2 : Nat) (H : Heap) (locs : List Loc) (ls : Array Slot), k15 ≤ 16 → 16 - k15 < n15 → 1 ≤ k15 → (c2 ≤ 1) → (kv_flag (c2) (3 ≤ kv_val ga 16)) → (c2 = 0 → ga 0 ≤ 2) → (c2 = 0 → ∀ j, 0 < j → j < k15 → ga j = 0) → kz_dy (dC, dI) vwCl A s.heap H locs [] → lv_has ls 3 [(2, .int (nI (k15))), (1, .int (nI (c2))), (0, .ref a)] → W p l e { frames := 0, cells := 0, slots := 0, locals := 0 } s m ([.ref a] : List Value).toArray below meth c H locs 0 0 (MQ below (va_Qi (fun (r : Int32) (u : Unit) => (r = 0 ∨ r = 1) ∧ ((r = 0 ∧ 3 ≤ kv_val ga 16) ∨ (r = 1 ∧ kv_val ga 16 < 3)) ∧ True) (kz_B (dC, dI) vwCl A (fun u : Unit => [])) A) ([.ref a] : List Value).toArray s 0 0 A) (F0 m 15 ls []) := by
      intro n15
      induction n15 with
      | zero => intro k15; intros; omega
      | succ n15 ih15 =>
        intro k15 c2 H locs ls hi15 hn15 hblow hg1 hgr hsm hzz hdy hl
        refine lv_iload_n hx hb zd_N_isSmall_15 rfl (lv_at hl 0 rfl) ?_
        refine lv_bipush (v := (nI (16))) hx hb zd_N_isSmall_16 (by decide) ?_
        refine lv_icmp_ge (tgt := 43) hx hb zd_N_isSmall_18 (by decide) (fun hc18 => ?_) (fun hc18 => ?_)
        · have hc18 : 16 ≤ k15 := (nI_leI (by omega) (by omega)).mp hc18
          refine lv_iload_n hx hb zd_N_isSmall_43 rfl (lv_at hl 1 rfl) ?_
          refine lv_if_ne (tgt := 51) hx hb zd_N_isSmall_44 (by decide) (fun hc44 => ?_) (fun hc44 => ?_)
          · have hc44 : ¬ c2 = 0 := fun h9 => hc44 (by have h8 := (nI_eq (by omega) (by omega)).mpr h9; rw [nI_0] at h8; exact h8)
            refine lv_iconst (v := (nI (0))) hx hb zd_N_isSmall_51 (by decide) ?_
            exact kz_zret F () hdy (by first | exact Or.inl rfl | exact Or.inr rfl | assumption) (⟨by first | exact Or.inl rfl | exact Or.inr rfl | assumption, by first | exact Or.inl ⟨rfl, kv_flag_of hgr (by omega)⟩ | exact Or.inr ⟨rfl, by rw [kv_small0 (fun j a b => hzz (by omega) j a (by omega))]; have h8 := hsm (by omega); omega⟩, trivial⟩) zd_N_isSmall_52
          · have hc44 : c2 = 0 := (nI_eq (by omega) (by omega)).mp (by rw [nI_0]; exact hc44)
            refine lv_iconst (v := (nI (1))) hx hb zd_N_isSmall_47 (by decide) ?_
            refine lv_goto (tgt := 52) hx hb zd_N_isSmall_48 (by decide) ?_
            exact kz_zret F () hdy (by first | exact Or.inl rfl | exact Or.inr rfl | assumption) (⟨by first | exact Or.inl rfl | exact Or.inr rfl | assumption, by first | exact Or.inl ⟨rfl, kv_flag_of hgr (by omega)⟩ | exact Or.inr ⟨rfl, by rw [kv_small0 (fun j a b => hzz (by omega) j a (by omega))]; have h8 := hsm (by omega); omega⟩, trivial⟩) zd_N_isSmall_52
        · have hc18 : ¬ 16 ≤ k15 := fun h9 => hc18 ((nI_leI (by omega) (by omega)).mpr h9)
          refine lv_iload_n hx hb zd_N_isSmall_21 rfl (lv_at hl 1 rfl) ?_
          refine lv_if_ne (tgt := 31) hx hb zd_N_isSmall_22 (by decide) (fun hc22 => ?_) (fun hc22 => ?_)
          · have hc22 : ¬ c2 = 0 := fun h9 => hc22 (by have h8 := (nI_eq (by omega) (by omega)).mpr h9; rw [nI_0] at h8; exact h8)
            refine lv_iconst (v := (nI (1))) hx hb zd_N_isSmall_31 (by decide) ?_
            refine lv_goto (tgt := 36) hx hb zd_N_isSmall_32 (by decide) ?_
            refine lv_istore_n (lv' := [(1, .int (nI (1))), (2, .int (nI (k15))), (0, .ref a)]) hx hb zd_N_isSmall_36 rfl hl (by decide) rfl (fun ls hl => ?_)
            refine lv_iinc (v := (nI (k15 + 1))) (lv' := [(2, .int (nI (k15 + 1))), (1, .int (nI (1))), (0, .ref a)]) hx hb zd_N_isSmall_37 hl (k := 1) rfl (nI_1 _) (by decide) rfl (fun ls hl => ?_)
            refine lv_goto (tgt := 15) hx hb zd_N_isSmall_40 (by decide) ?_
            have hi9_hg13 : 1 ≤ 1 := by omega
            have hi9_hgr4 : kv_flag (1) (3 ≤ kv_val ga 16) := by first | exact hgr | exact Or.inl rfl | exact Or.inr (kv_flag_of hgr (by omega)) | exact Or.inr (kv_big (k := k15) (by omega) (by omega) (by omega))
            have hi9_hsm5 : 1 = 0 → ga 0 ≤ 2 := by first | exact hsm | (intro h; first | (exfalso; omega) | exact hsm (by omega))
            have hi9_hzz6 : 1 = 0 → ∀ j, 0 < j → j < k15 + 1 → ga j = 0 := by intro h j a b; first | (exfalso; omega) | (rcases (by omega : j = k15 ∨ j < k15) with h8 | h8; (rw [h8]; omega); exact hzz (by omega) j a h8)
            exact ih15 (k15 + 1) (1) _ _ _ (by omega) (by omega) (by omega) hi9_hg13 hi9_hgr4 hi9_hsm5 hi9_hzz6 hdy (lv_sub hl [0, 1, 2] rfl)
          · have hc22 : c2 = 0 := (nI_eq (by omega) (by omega)).mp (by rw [nI_0]; exact hc22)
            refine lv_aload_n hx hb zd_N_isSmall_25 rfl (lv_at hl 2 rfl) ?_
            refine lv_iload_n hx hb zd_N_isSmall_26 rfl (lv_at hl 0 rfl) ?_
            refine kz_riald hx hb hK hro hdy.2.2 0 0 rfl rfl (vp_in_nI (by omega) (by omega)) zd_N_isSmall_27 ?_
            refine lv_topi (fun x7 h9 => ?_)
            obtain rfl : x7 = nI (ga k15) := h9.trans (kz_dgl ga (by omega))
            have hbx7 := hd_ga k15
            refine lv_if_le (tgt := 35) hx hb zd_N_isSmall_28 (by decide) (fun hc28 => ?_) (fun hc28 => ?_)
            · have hc28 : (ga k15) ≤ 0 := (nI_leI (by omega) (by omega)).mp (by rw [nI_0]; exact hc28)
              refine lv_iconst (v := (nI (0))) hx hb zd_N_isSmall_35 (by decide) ?_
              refine lv_istore_n (lv' := [(1, .int (nI (0))), (2, .int (nI (k15))), (0, .ref a)]) hx hb zd_N_isSmall_36 rfl hl (by decide) rfl (fun ls hl => ?_)
              refine lv_iinc (v := (nI (k15 + 1))) (lv' := [(2, .int (nI (k15 + 1))), (1, .int (nI (0))), (0, .ref a)]) hx hb zd_N_isSmall_37 hl (k := 1) rfl (nI_1 _) (by decide) rfl (fun ls hl => ?_)
              refine lv_goto (tgt := 15) hx hb zd_N_isSmall_40 (by decide) ?_
              have hi9_hg18 : 0 ≤ 1 := by omega
              have hi9_hgr9 : kv_flag (0) (3 ≤ kv_val ga 16) := by first | exact hgr | exact Or.inl rfl | exact Or.inr (kv_flag_of hgr (by omega)) | exact Or.inr (kv_big (k := k15) (by omega) (by omega) (by omega))
              have hi9_hsm10 : 0 = 0 → ga 0 ≤ 2 := by first | exact hsm | (intro h; first | (exfalso; omega) | exact hsm (by omega))
              have hi9_hzz11 : 0 = 0 → ∀ j, 0 < j → j < k15 + 1 → ga j = 0 := by intro h j a b; first | (exfalso; omega) | (rcases (by omega : j = k15 ∨ j < k15) with h8 | h8; (rw [h8]; omega); exact hzz (by omega) j a h8)
              exact ih15 (k15 + 1) (0) _ _ _ (by omega) (by omega) (by omega) hi9_hg18 hi9_hgr9 hi9_hsm10 hi9_hzz11 hdy (lv_sub hl [0, 1, 2] rfl)
            · have hc28 : ¬ (ga k15) ≤ 0 := fun h9 => hc28 (by have h8 := (nI_leI (by omega) (by omega)).mpr h9; rw [nI_0] at h8; exact h8)
              refine lv_iconst (v := (nI (1))) hx hb zd_N_isSmall_31 (by decide) ?_
              refine lv_goto (tgt := 36) hx hb zd_N_isSmall_32 (by decide) ?_
              refine lv_istore_n (lv' := [(1, .int (nI (1))), (2, .int (nI (k15))), (0, .ref a)]) hx hb zd_N_isSmall_36 rfl hl (by decide) rfl (fun ls hl => ?_)
              refine lv_iinc (v := (nI (k15 + 1))) (lv' := [(2, .int (nI (k15 + 1))), (1, .int (nI (1))), (0, .ref a)]) hx hb zd_N_isSmall_37 hl (k := 1) rfl (nI_1 _) (by decide) rfl (fun ls hl => ?_)
              refine lv_goto (tgt := 15) hx hb zd_N_isSmall_40 (by decide) ?_
              have hi9_hg112 : 1 ≤ 1 := by omega
              have hi9_hgr13 : kv_flag (1) (3 ≤ kv_val ga 16) := by first | exact hgr | exact Or.inl rfl | exact Or.inr (kv_flag_of hgr (by omega)) | exact Or.inr (kv_big (k := k15) (by omega) (by omega) (by omega))
              have hi9_hsm14 : 1 = 0 → ga 0 ≤ 2 := by first | exact hsm | (intro h; first | (exfalso; omega) | exact hsm (by omega))
              have hi9_hzz15 : 1 = 0 → ∀ j, 0 < j → j < k15 + 1 → ga j = 0 := by intro h j a b; first | (exfalso; omega) | (rcases (by omega : j = k15 ∨ j < k15) with h8 | h8; (rw [h8]; omega); exact hzz (by omega) j a h8)
              exact ih15 (k15 + 1) (1) _ _ _ (by omega) (by omega) (by omega) hi9_hg112 hi9_hgr13 hi9_hsm14 hi9_hzz15 hdy (lv_sub hl [0, 1, 2] rfl)
    have hi9_hg116 : 0 ≤ 1 := by omega
    have hi9_hgr17 : kv_flag (0) (3 ≤ kv_val ga 16) := by first | exact Or.inl rfl | (have h8 := kv_ge0 ga; exact Or.inr (by omega))
    have hi9_hsm18 : 0 = 0 → ga 0 ≤ 2 := by intro h; omega
    have hi9_hzz19 : 0 = 0 → ∀ j, 0 < j → j < 1 → ga j = 0 := by intro h j a b; omega
    exact lp15 (16 - 1 + 1) 1 (0) _ _ _ (by omega) (by omega) (by omega) hi9_hg116 hi9_hgr17 hi9_hsm18 hi9_hzz19 hdy (lv_sub hl [0, 1, 2] rfl)
  · have hc4 : ¬ (ga 0) ≤ 2 := fun h9 => hc4 ((nI_leI (by omega) (by omega)).mpr h9)
    refine lv_iconst (v := (nI (1))) hx hb zd_N_isSmall_7 (by decide) ?_
    refine lv_goto (tgt := 12) hx hb zd_N_isSmall_8 (by decide) ?_
    refine lv_istore_n (lv' := [(1, .int (nI (1))), (0, .ref a)]) hx hb zd_N_isSmall_12 rfl hl (by decide) rfl (fun ls hl => ?_)
    refine lv_iconst (v := (nI (1))) hx hb zd_N_isSmall_13 (by decide) ?_
    refine lv_istore_n (lv' := [(2, .int (nI (1))), (1, .int (nI (1))), (0, .ref a)]) hx hb zd_N_isSmall_14 rfl hl (by decide) rfl (fun ls hl => ?_)
    have lp15 : ∀ (n15 k15 : Nat) (c20 : Nat) (H : Heap) (locs : List Loc) (ls : Array Slot), k15 ≤ 16 → 16 - k15 < n15 → 1 ≤ k15 → (c20 ≤ 1) → (kv_flag (c20) (3 ≤ kv_val ga 16)) → (c20 = 0 → ga 0 ≤ 2) → (c20 = 0 → ∀ j, 0 < j → j < k15 → ga j = 0) → kz_dy (dC, dI) vwCl A s.heap H locs [] → lv_has ls 3 [(2, .int (nI (k15))), (1, .int (nI (c20))), (0, .ref a)] → W p l e { frames := 0, cells := 0, slots := 0, locals := 0 } s m ([.ref a] : List Value).toArray below meth c H locs 0 0 (MQ below (va_Qi (fun (r : Int32) (u : Unit) => (r = 0 ∨ r = 1) ∧ ((r = 0 ∧ 3 ≤ kv_val ga 16) ∨ (r = 1 ∧ kv_val ga 16 < 3)) ∧ True) (kz_B (dC, dI) vwCl A (fun u : Unit => [])) A) ([.ref a] : List Value).toArray s 0 0 A) (F0 m 15 ls []) := by
      intro n15
      induction n15 with
      | zero => intro k15; intros; omega
      | succ n15 ih15 =>
        intro k15 c20 H locs ls hi15 hn15 hblow hg1 hgr hsm hzz hdy hl
        refine lv_iload_n hx hb zd_N_isSmall_15 rfl (lv_at hl 0 rfl) ?_
        refine lv_bipush (v := (nI (16))) hx hb zd_N_isSmall_16 (by decide) ?_
        refine lv_icmp_ge (tgt := 43) hx hb zd_N_isSmall_18 (by decide) (fun hc18 => ?_) (fun hc18 => ?_)
        · have hc18 : 16 ≤ k15 := (nI_leI (by omega) (by omega)).mp hc18
          refine lv_iload_n hx hb zd_N_isSmall_43 rfl (lv_at hl 1 rfl) ?_
          refine lv_if_ne (tgt := 51) hx hb zd_N_isSmall_44 (by decide) (fun hc44 => ?_) (fun hc44 => ?_)
          · have hc44 : ¬ c20 = 0 := fun h9 => hc44 (by have h8 := (nI_eq (by omega) (by omega)).mpr h9; rw [nI_0] at h8; exact h8)
            refine lv_iconst (v := (nI (0))) hx hb zd_N_isSmall_51 (by decide) ?_
            exact kz_zret F () hdy (by first | exact Or.inl rfl | exact Or.inr rfl | assumption) (⟨by first | exact Or.inl rfl | exact Or.inr rfl | assumption, by first | exact Or.inl ⟨rfl, kv_flag_of hgr (by omega)⟩ | exact Or.inr ⟨rfl, by rw [kv_small0 (fun j a b => hzz (by omega) j a (by omega))]; have h8 := hsm (by omega); omega⟩, trivial⟩) zd_N_isSmall_52
          · have hc44 : c20 = 0 := (nI_eq (by omega) (by omega)).mp (by rw [nI_0]; exact hc44)
            refine lv_iconst (v := (nI (1))) hx hb zd_N_isSmall_47 (by decide) ?_
            refine lv_goto (tgt := 52) hx hb zd_N_isSmall_48 (by decide) ?_
            exact kz_zret F () hdy (by first | exact Or.inl rfl | exact Or.inr rfl | assumption) (⟨by first | exact Or.inl rfl | exact Or.inr rfl | assumption, by first | exact Or.inl ⟨rfl, kv_flag_of hgr (by omega)⟩ | exact Or.inr ⟨rfl, by rw [kv_small0 (fun j a b => hzz (by omega) j a (by omega))]; have h8 := hsm (by omega); omega⟩, trivial⟩) zd_N_isSmall_52
        · have hc18 : ¬ 16 ≤ k15 := fun h9 => hc18 ((nI_leI (by omega) (by omega)).mpr h9)
          refine lv_iload_n hx hb zd_N_isSmall_21 rfl (lv_at hl 1 rfl) ?_
          refine lv_if_ne (tgt := 31) hx hb zd_N_isSmall_22 (by decide) (fun hc22 => ?_) (fun hc22 => ?_)
          · have hc22 : ¬ c20 = 0 := fun h9 => hc22 (by have h8 := (nI_eq (by omega) (by omega)).mpr h9; rw [nI_0] at h8; exact h8)
            refine lv_iconst (v := (nI (1))) hx hb zd_N_isSmall_31 (by decide) ?_
            refine lv_goto (tgt := 36) hx hb zd_N_isSmall_32 (by decide) ?_
            refine lv_istore_n (lv' := [(1, .int (nI (1))), (2, .int (nI (k15))), (0, .ref a)]) hx hb zd_N_isSmall_36 rfl hl (by decide) rfl (fun ls hl => ?_)
            refine lv_iinc (v := (nI (k15 + 1))) (lv' := [(2, .int (nI (k15 + 1))), (1, .int (nI (1))), (0, .ref a)]) hx hb zd_N_isSmall_37 hl (k := 1) rfl (nI_1 _) (by decide) rfl (fun ls hl => ?_)
            refine lv_goto (tgt := 15) hx hb zd_N_isSmall_40 (by decide) ?_
            have hi9_hg121 : 1 ≤ 1 := by omega
            have hi9_hgr22 : kv_flag (1) (3 ≤ kv_val ga 16) := by first | exact hgr | exact Or.inl rfl | exact Or.inr (kv_flag_of hgr (by omega)) | exact Or.inr (kv_big (k := k15) (by omega) (by omega) (by omega))
            have hi9_hsm23 : 1 = 0 → ga 0 ≤ 2 := by first | exact hsm | (intro h; first | (exfalso; omega) | exact hsm (by omega))
            have hi9_hzz24 : 1 = 0 → ∀ j, 0 < j → j < k15 + 1 → ga j = 0 := by intro h j a b; first | (exfalso; omega) | (rcases (by omega : j = k15 ∨ j < k15) with h8 | h8; (rw [h8]; omega); exact hzz (by omega) j a h8)
            exact ih15 (k15 + 1) (1) _ _ _ (by omega) (by omega) (by omega) hi9_hg121 hi9_hgr22 hi9_hsm23 hi9_hzz24 hdy (lv_sub hl [0, 1, 2] rfl)
          · have hc22 : c20 = 0 := (nI_eq (by omega) (by omega)).mp (by rw [nI_0]; exact hc22)
            refine lv_aload_n hx hb zd_N_isSmall_25 rfl (lv_at hl 2 rfl) ?_
            refine lv_iload_n hx hb zd_N_isSmall_26 rfl (lv_at hl 0 rfl) ?_
            refine kz_riald hx hb hK hro hdy.2.2 0 0 rfl rfl (vp_in_nI (by omega) (by omega)) zd_N_isSmall_27 ?_
            refine lv_topi (fun x25 h9 => ?_)
            obtain rfl : x25 = nI (ga k15) := h9.trans (kz_dgl ga (by omega))
            have hbx25 := hd_ga k15
            refine lv_if_le (tgt := 35) hx hb zd_N_isSmall_28 (by decide) (fun hc28 => ?_) (fun hc28 => ?_)
            · have hc28 : (ga k15) ≤ 0 := (nI_leI (by omega) (by omega)).mp (by rw [nI_0]; exact hc28)
              refine lv_iconst (v := (nI (0))) hx hb zd_N_isSmall_35 (by decide) ?_
              refine lv_istore_n (lv' := [(1, .int (nI (0))), (2, .int (nI (k15))), (0, .ref a)]) hx hb zd_N_isSmall_36 rfl hl (by decide) rfl (fun ls hl => ?_)
              refine lv_iinc (v := (nI (k15 + 1))) (lv' := [(2, .int (nI (k15 + 1))), (1, .int (nI (0))), (0, .ref a)]) hx hb zd_N_isSmall_37 hl (k := 1) rfl (nI_1 _) (by decide) rfl (fun ls hl => ?_)
              refine lv_goto (tgt := 15) hx hb zd_N_isSmall_40 (by decide) ?_
              have hi9_hg126 : 0 ≤ 1 := by omega
              have hi9_hgr27 : kv_flag (0) (3 ≤ kv_val ga 16) := by first | exact hgr | exact Or.inl rfl | exact Or.inr (kv_flag_of hgr (by omega)) | exact Or.inr (kv_big (k := k15) (by omega) (by omega) (by omega))
              have hi9_hsm28 : 0 = 0 → ga 0 ≤ 2 := by first | exact hsm | (intro h; first | (exfalso; omega) | exact hsm (by omega))
              have hi9_hzz29 : 0 = 0 → ∀ j, 0 < j → j < k15 + 1 → ga j = 0 := by intro h j a b; first | (exfalso; omega) | (rcases (by omega : j = k15 ∨ j < k15) with h8 | h8; (rw [h8]; omega); exact hzz (by omega) j a h8)
              exact ih15 (k15 + 1) (0) _ _ _ (by omega) (by omega) (by omega) hi9_hg126 hi9_hgr27 hi9_hsm28 hi9_hzz29 hdy (lv_sub hl [0, 1, 2] rfl)
            · have hc28 : ¬ (ga k15) ≤ 0 := fun h9 => hc28 (by have h8 := (nI_leI (by omega) (by omega)).mpr h9; rw [nI_0] at h8; exact h8)
              refine lv_iconst (v := (nI (1))) hx hb zd_N_isSmall_31 (by decide) ?_
              refine lv_goto (tgt := 36) hx hb zd_N_isSmall_32 (by decide) ?_
              refine lv_istore_n (lv' := [(1, .int (nI (1))), (2, .int (nI (k15))), (0, .ref a)]) hx hb zd_N_isSmall_36 rfl hl (by decide) rfl (fun ls hl => ?_)
              refine lv_iinc (v := (nI (k15 + 1))) (lv' := [(2, .int (nI (k15 + 1))), (1, .int (nI (1))), (0, .ref a)]) hx hb zd_N_isSmall_37 hl (k := 1) rfl (nI_1 _) (by decide) rfl (fun ls hl => ?_)
              refine lv_goto (tgt := 15) hx hb zd_N_isSmall_40 (by decide) ?_
              have hi9_hg130 : 1 ≤ 1 := by omega
              have hi9_hgr31 : kv_flag (1) (3 ≤ kv_val ga 16) := by first | exact hgr | exact Or.inl rfl | exact Or.inr (kv_flag_of hgr (by omega)) | exact Or.inr (kv_big (k := k15) (by omega) (by omega) (by omega))
              have hi9_hsm32 : 1 = 0 → ga 0 ≤ 2 := by first | exact hsm | (intro h; first | (exfalso; omega) | exact hsm (by omega))
              have hi9_hzz33 : 1 = 0 → ∀ j, 0 < j → j < k15 + 1 → ga j = 0 := by intro h j a b; first | (exfalso; omega) | (rcases (by omega : j = k15 ∨ j < k15) with h8 | h8; (rw [h8]; omega); exact hzz (by omega) j a h8)
              exact ih15 (k15 + 1) (1) _ _ _ (by omega) (by omega) (by omega) hi9_hg130 hi9_hgr31 hi9_hsm32 hi9_hzz33 hdy (lv_sub hl [0, 1, 2] rfl)
    have hi9_hg134 : 1 ≤ 1 := by omega
    have hi9_hgr35 : kv_flag (1) (3 ≤ kv_val ga 16) := by first | exact Or.inl rfl | (have h8 := kv_ge0 ga; exact Or.inr (by omega))
    have hi9_hsm36 : 1 = 0 → ga 0 ≤ 2 := by intro h; omega
    have hi9_hzz37 : 1 = 0 → ∀ j, 0 < j → j < 1 → ga j = 0 := by intro h j a b; omega
    exact lp15 (16 - 1 + 1) 1 (1) _ _ _ (by omega) (by omega) (by omega) hi9_hg134 hi9_hgr35 hi9_hsm36 hi9_hzz37 hdy (lv_sub hl [0, 1, 2] rfl)

set_option maxHeartbeats 4000000 in
set_option maxRecDepth 100000 in
/-- KeyMeetingModel.lessOne([I)V -/
theorem c_F_lessOne (l : Launch) (dC : Nat → ClassId) (dI : Nat → Nat → Nat) (cI cAA cB cL : ClassId) (o : Nat) (go : Nat → Nat) (sz : Nat) (hd_go : ∀ j, go j < 65536) (hnz : kv_some go 0 16) : Met l zy_N_lessOne zw_N_lessOne { frames := 0, cells := 0, slots := 0, locals := 0 } (kz_Pc (dC, dI) vwCl [(cI, .int), (cAA, .array .int), (cB, .byte), (cL, .long)] [] [] [.ref o] [(o, .inl (cI, 16, .inl (kz_dg go)))] [] sz) (va_Qv (fun (u : (Nat → Nat)) => (∀ j, u j < 65536) ∧ (kv_val u 16 + 1 = kv_val go 16) ∧ True) (kz_B (dC, dI) vwCl (va_A [(o, .inl (cI, 16, .inl (kz_dg go)))] sz) (fun u : (Nat → Nat) => [(o, .inl (cI, 16, .inl (kz_dg u)))])) (va_A [(o, .inl (cI, 16, .inl (kz_dg go)))] sz)) 0 0 (va_A [(o, .inl (cI, 16, .inl (kz_dg go)))] sz) := by
  refine kz_met (y := zy_N_lessOne) (ws := zw_N_lessOne) (av := [.ref o]) (sz := sz) (Qc := fun A => va_Qv (fun (u : (Nat → Nat)) => (∀ j, u j < 65536) ∧ (kv_val u 16 + 1 = kv_val go 16) ∧ True) (kz_B (dC, dI) vwCl A (fun u : (Nat → Nat) => [(o, .inl (cI, 16, .inl (kz_dg u)))])) A) (cc := zc_N_lessOne) (maxL := 2) (ret := none) (by decide) rfl (Nat.le_of_ble_eq_true rfl) ?_
  intro p e s m below meth c A ls F hA hdy hK hro hZ hN hl
  obtain ⟨hx, hb, hml, hr, hown, hlocks, hts, hnm⟩ := id F
  have hl : lv_has ls 2 [(0, .ref o)] := hl
  refine lv_iconst (v := (nI (0))) hx hb zd_N_lessOne_0 (by decide) ?_
  refine lv_istore_n (lv' := [(1, .int (nI (0))), (0, .ref o)]) hx hb zd_N_lessOne_1 rfl hl (by decide) rfl (fun ls hl => ?_)
  have lp2 : ∀ (n2 k2 : Nat) (d1 : Nat → Nat) (H : Heap) (locs : List Loc) (ls : Array Slot), k2 ≤ 16 → 16 - k2 < n2 → (∀ j, d1 j < 65536) → (kv_some d1 (k2) 16) → (kv_val d1 16 + 1 = kv_val go 16 + 65536 ^ (k2)) → kz_dy (dC, dI) vwCl A s.heap H locs [(o, .inl (cI, 16, .inl (kz_dg d1)))] → lv_has ls 2 [(1, .int (nI (k2))), (0, .ref o)] → W p l e { frames := 0, cells := 0, slots := 0, locals := 0 } s m ([.ref o] : List Value).toArray below meth c H locs 0 0 (MQ below (va_Qv (fun (u : (Nat → Nat)) => (∀ j, u j < 65536) ∧ (kv_val u 16 + 1 = kv_val go 16) ∧ True) (kz_B (dC, dI) vwCl A (fun u : (Nat → Nat) => [(o, .inl (cI, 16, .inl (kz_dg u)))])) A) ([.ref o] : List Value).toArray s 0 0 A) (F0 m 2 ls []) := by
    intro n2
    induction n2 with
    | zero => intro k2; intros; omega
    | succ n2 ih2 =>
      intro k2 d1 H locs ls hi2 hn2 hd_d1 hlo hv hdy hl
      obtain ⟨j9, h91, h92, h93⟩ := id hlo
      refine lv_aload_n hx hb zd_N_lessOne_2 rfl (lv_at hl 1 rfl) ?_
      refine lv_iload_n hx hb zd_N_lessOne_3 rfl (lv_at hl 0 rfl) ?_
      refine va_iald hx hb hK hdy.1 0 0 rfl rfl (vp_in_nI (by omega) (by omega)) zd_N_lessOne_4 ?_
      refine lv_topi (fun x2 h9 => ?_)
      obtain rfl : x2 = nI (d1 k2) := h9.trans (kz_dgl d1 (by omega))
      have hbx2 := hd_d1 k2
      refine lv_if_ne (tgt := 19) hx hb zd_N_lessOne_5 (by decide) (fun hc5 => ?_) (fun hc5 => ?_)
      · have hc5 : ¬ (d1 k2) = 0 := fun h9 => hc5 (by have h8 := (nI_eq (by omega) (by omega)).mpr h9; rw [nI_0] at h8; exact h8)
        refine lv_aload_n hx hb zd_N_lessOne_19 rfl (lv_at hl 1 rfl) ?_
        refine lv_iload_n hx hb zd_N_lessOne_20 rfl (lv_at hl 0 rfl) ?_
        refine lv_dup2_11 hx hb zd_N_lessOne_21 rfl rfl ?_
        refine va_iald hx hb hK hdy.1 0 0 rfl rfl (vp_in_nI (by omega) (by omega)) zd_N_lessOne_22 ?_
        refine lv_topi (fun x3 h9 => ?_)
        obtain rfl : x3 = nI (d1 k2) := h9.trans (kz_dgl d1 (by omega))
        have hbx3 := hd_d1 k2
        refine lv_iconst (v := (nI (1))) hx hb zd_N_lessOne_23 (by decide) ?_
        refine kz_isub hx hb zd_N_lessOne_24 (pk_sub (by omega)) ?_
        refine va_iast hx hb hK hdy.1 hdy.2.1 hdy.2.2 0 0 rfl rfl (vp_in_nI (by omega) (by omega)) zd_N_lessOne_25 (fun H locs hP hD hS => ?_)
        have h9 := kz_dgu d1 (k := k2) (d1 k2 - 1) (by omega)
        rw [h9] at hP hD
        obtain ⟨f4, ef4, hd_f4, hdy⟩ : ∃ f4 : Nat → Nat, f4 = kv_up d1 k2 (d1 k2 - 1) ∧ (∀ j, f4 j < 65536) ∧ kz_dy (dC, dI) vwCl A s.heap H locs [(o, .inl (cI, 16, .inl (kz_dg f4)))] := ⟨_, rfl, kv_up_lt hd_d1 (by omega), hP, hD, hS⟩
        exact kz_vret F (f4) hdy (⟨hd_f4, by rw [ef4]; exact kv_lessEnd (by omega) (by omega) hv, trivial⟩) zd_N_lessOne_26
      · have hc5 : (d1 k2) = 0 := (nI_eq (by omega) (by omega)).mp (by rw [nI_0]; exact hc5)
        refine lv_aload_n hx hb zd_N_lessOne_8 rfl (lv_at hl 1 rfl) ?_
        refine lv_iload_n hx hb zd_N_lessOne_9 rfl (lv_at hl 0 rfl) ?_
        refine lv_ldc (v := (nI (65535))) hx hb hown (hts _ (kz_c mw_693)) zd_N_lessOne_10 ?_
        refine va_iast hx hb hK hdy.1 hdy.2.1 hdy.2.2 0 0 rfl rfl (vp_in_nI (by omega) (by omega)) zd_N_lessOne_12 (fun H locs hP hD hS => ?_)
        have h9 := kz_dgu d1 (k := k2) 65535 (by omega)
        rw [h9] at hP hD
        obtain ⟨f5, ef5, hd_f5, hdy⟩ : ∃ f5 : Nat → Nat, f5 = kv_up d1 k2 65535 ∧ (∀ j, f5 j < 65536) ∧ kz_dy (dC, dI) vwCl A s.heap H locs [(o, .inl (cI, 16, .inl (kz_dg f5)))] := ⟨_, rfl, kv_up_lt hd_d1 (by omega), hP, hD, hS⟩
        refine lv_iinc (v := (nI (k2 + 1))) (lv' := [(1, .int (nI (k2 + 1))), (0, .ref o)]) hx hb zd_N_lessOne_13 hl (k := 0) rfl (nI_1 _) (by decide) rfl (fun ls hl => ?_)
        refine lv_goto (tgt := 2) hx hb zd_N_lessOne_16 (by decide) ?_
        have hi9_hlo6 : kv_some f5 (k2 + 1) 16 := by rw [ef5]; rcases Nat.lt_or_eq_of_le h91 with h8 | h8; exact ⟨j9, by omega, h92, by rw [kv_up_ne _ _ (by omega)]; exact h93⟩; exact absurd h93 (by rw [← h8]; omega)
        have hi9_hv7 : kv_val f5 16 + 1 = kv_val go 16 + 65536 ^ (k2 + 1) := by rw [ef5]; exact kv_lessStep (by omega) (by omega) hv
        exact ih2 (k2 + 1) f5 _ _ _ (by omega) (by omega) hd_f5 hi9_hlo6 hi9_hv7 hdy (lv_sub hl [0, 1] rfl)
  have hi9_hlo8 : kv_some go (0) 16 := by exact hnz
  have hi9_hv9 : kv_val go 16 + 1 = kv_val go 16 + 65536 ^ (0) := by show _ + 1 = _ + 1; rfl
  exact lp2 (16 - 0 + 1) 0 go _ _ _ (by omega) (by omega) hd_go hi9_hlo8 hi9_hv9 hdy (lv_sub hl [0, 1] rfl)

set_option maxHeartbeats 4000000 in
set_option maxRecDepth 100000 in
/-- KeyMeetingModel.find()V -/
theorem c_F_find (l : Launch) (dC : Nat → ClassId) (dI : Nat → Nat → Nat) (cI cAA cB cL : ClassId) (o mt mn ml mc mh mk mp mm mb mw mr mx me mP mQ ms mo mW mD mB mR mS : Nat) (th : Int32) (sta : Int32) (hs : Int32) (sz_ : Nat) (gmP : Nat → Nat) (gmQ : Nat → Nat) (gms : Nat → Nat) (gmx : Nat → Nat) (gmt : Nat → Int32) (sz : Nat) (hd_gmP : ∀ j, gmP j < 65536) (hd_gmQ : ∀ j, gmQ j < 65536) (hd_gms : ∀ j, gms j < 4294967296) (hd_gmx : ∀ j, gmx j < 65536) : Met l zy_N_find zw_N_find { frames := 1, cells := 0, slots := 0, locals := 26 } (kz_Pc (dC, dI) vwCl [(cI, .int), (cAA, .array .int), (cB, .byte), (cL, .long)] [] [] [.ref o] [(o, .inr (4, [.int th, .int sta, .ref mt, .ref mn, .ref ml, .ref mc, .ref mh, .ref mk, .ref mp, .ref mm, .ref mb, .ref mw, .ref mr, .ref mx, .ref me, .ref mP, .ref mQ, .ref ms, .int hs, .int (nI (sz_)), .ref mo, .ref mW, .ref mD, .ref mB, .ref mR, .ref mS])), (mP, .inl (cI, 16, .inl (kz_dg gmP))), (mQ, .inl (cI, 16, .inl (kz_dg gmQ))), (ms, .inl (cI, 18, .inl (kz_dg gms))), (mx, .inl (cI, 32, .inl (kz_dg gmx)))] [(mt, .inl (cI, 56, .inl gmt))] sz) (va_Qv (fun (u : Int32 × (Nat → Nat) × (Nat → Nat) × (Nat → Nat) × (Nat → Nat)) => (∀ j, u.2.1 j < 65536) ∧ (∀ j, u.2.2.1 j < 65536) ∧ (∀ j, u.2.2.2.1 j < 4294967296) ∧ (∀ j, u.2.2.2.2 j < 65536) ∧ ((u.1 = 0 ∧ ¬ kx_fit (kv_val (kv_fig gmt 16) 8) (kv_val (kv_fig gmt 24) 8)) ∨ (u.1 = 1 ∧ kx_fit (kv_val (kv_fig gmt 16) 8) (kv_val (kv_fig gmt 24) 8) ∧ kx_isD (kv_val (kv_fig gmt 16) 8) (kv_val (kv_fig gmt 24) 8) (kv_val u.2.2.2.1 18))) ∧ (u.1 = 1 → ∀ j, j < 18 → u.2.2.2.1 j < 65536) ∧ True) (kz_B (dC, dI) vwCl (va_A [(o, .inr (4, [.int th, .int sta, .ref mt, .ref mn, .ref ml, .ref mc, .ref mh, .ref mk, .ref mp, .ref mm, .ref mb, .ref mw, .ref mr, .ref mx, .ref me, .ref mP, .ref mQ, .ref ms, .int hs, .int (nI (sz_)), .ref mo, .ref mW, .ref mD, .ref mB, .ref mR, .ref mS])), (mP, .inl (cI, 16, .inl (kz_dg gmP))), (mQ, .inl (cI, 16, .inl (kz_dg gmQ))), (ms, .inl (cI, 18, .inl (kz_dg gms))), (mx, .inl (cI, 32, .inl (kz_dg gmx)))] sz) (fun u : Int32 × (Nat → Nat) × (Nat → Nat) × (Nat → Nat) × (Nat → Nat) => [(o, .inr (4, [.int th, .int sta, .ref mt, .ref mn, .ref ml, .ref mc, .ref mh, .ref mk, .ref mp, .ref mm, .ref mb, .ref mw, .ref mr, .ref mx, .ref me, .ref mP, .ref mQ, .ref ms, .int u.1, .int (nI (sz_)), .ref mo, .ref mW, .ref mD, .ref mB, .ref mR, .ref mS])), (mP, .inl (cI, 16, .inl (kz_dg u.2.1))), (mQ, .inl (cI, 16, .inl (kz_dg u.2.2.1))), (ms, .inl (cI, 18, .inl (kz_dg u.2.2.2.1))), (mx, .inl (cI, 32, .inl (kz_dg u.2.2.2.2)))])) (va_A [(o, .inr (4, [.int th, .int sta, .ref mt, .ref mn, .ref ml, .ref mc, .ref mh, .ref mk, .ref mp, .ref mm, .ref mb, .ref mw, .ref mr, .ref mx, .ref me, .ref mP, .ref mQ, .ref ms, .int hs, .int (nI (sz_)), .ref mo, .ref mW, .ref mD, .ref mB, .ref mR, .ref mS])), (mP, .inl (cI, 16, .inl (kz_dg gmP))), (mQ, .inl (cI, 16, .inl (kz_dg gmQ))), (ms, .inl (cI, 18, .inl (kz_dg gms))), (mx, .inl (cI, 32, .inl (kz_dg gmx)))] sz)) 0 0 (va_A [(o, .inr (4, [.int th, .int sta, .ref mt, .ref mn, .ref ml, .ref mc, .ref mh, .ref mk, .ref mp, .ref mm, .ref mb, .ref mw, .ref mr, .ref mx, .ref me, .ref mP, .ref mQ, .ref ms, .int hs, .int (nI (sz_)), .ref mo, .ref mW, .ref mD, .ref mB, .ref mR, .ref mS])), (mP, .inl (cI, 16, .inl (kz_dg gmP))), (mQ, .inl (cI, 16, .inl (kz_dg gmQ))), (ms, .inl (cI, 18, .inl (kz_dg gms))), (mx, .inl (cI, 32, .inl (kz_dg gmx)))] sz) := by
  refine kz_met (y := zy_N_find) (ws := zw_N_find) (av := [.ref o]) (sz := sz) (Qc := fun A => va_Qv (fun (u : Int32 × (Nat → Nat) × (Nat → Nat) × (Nat → Nat) × (Nat → Nat)) => (∀ j, u.2.1 j < 65536) ∧ (∀ j, u.2.2.1 j < 65536) ∧ (∀ j, u.2.2.2.1 j < 4294967296) ∧ (∀ j, u.2.2.2.2 j < 65536) ∧ ((u.1 = 0 ∧ ¬ kx_fit (kv_val (kv_fig gmt 16) 8) (kv_val (kv_fig gmt 24) 8)) ∨ (u.1 = 1 ∧ kx_fit (kv_val (kv_fig gmt 16) 8) (kv_val (kv_fig gmt 24) 8) ∧ kx_isD (kv_val (kv_fig gmt 16) 8) (kv_val (kv_fig gmt 24) 8) (kv_val u.2.2.2.1 18))) ∧ (u.1 = 1 → ∀ j, j < 18 → u.2.2.2.1 j < 65536) ∧ True) (kz_B (dC, dI) vwCl A (fun u : Int32 × (Nat → Nat) × (Nat → Nat) × (Nat → Nat) × (Nat → Nat) => [(o, .inr (4, [.int th, .int sta, .ref mt, .ref mn, .ref ml, .ref mc, .ref mh, .ref mk, .ref mp, .ref mm, .ref mb, .ref mw, .ref mr, .ref mx, .ref me, .ref mP, .ref mQ, .ref ms, .int u.1, .int (nI (sz_)), .ref mo, .ref mW, .ref mD, .ref mB, .ref mR, .ref mS])), (mP, .inl (cI, 16, .inl (kz_dg u.2.1))), (mQ, .inl (cI, 16, .inl (kz_dg u.2.2.1))), (ms, .inl (cI, 18, .inl (kz_dg u.2.2.2.1))), (mx, .inl (cI, 32, .inl (kz_dg u.2.2.2.2)))])) A) (cc := zc_N_find) (maxL := 9) (ret := none) (by decide) rfl (Nat.le_of_ble_eq_true rfl) ?_
  intro p e s m below meth c A ls F hA hdy hK hro hZ hN hl
  obtain ⟨hx, hb, hml, hr, hown, hlocks, hts, hnm⟩ := id F
  have hl : lv_has ls 9 [(0, .ref o)] := hl
  refine lv_aload_n hx hb zd_N_find_0 rfl (lv_at hl 0 rfl) ?_
  refine va_get (D := (dC, dI)) (ci := 4) (v := .ref mt) (C := zR_N) (T := zT_N) (N := 26) hx hb hts (fun w h => kz_c (zi_N w h)) hown hK hdy.1 0 rfl rfl 2 (by decide) (hts _ (kz_c mw_593)) (fun _ h9 => h9) rfl zd_N_find_1 ?_
  refine lv_bipush (v := (nI (16))) hx hb zd_N_find_4 (by decide) ?_
  refine lv_aload_n hx hb zd_N_find_6 rfl (lv_at hl 0 rfl) ?_
  refine va_get (D := (dC, dI)) (ci := 4) (v := .ref mP) (C := zR_N) (T := zT_N) (N := 26) hx hb hts (fun w h => kz_c (zi_N w h)) hown hK hdy.1 0 rfl rfl 15 (by decide) (hts _ (kz_c mw_606)) (fun _ h9 => h9) rfl zd_N_find_7 ?_
  refine kz_callv (wk := [(o, .inr (4, [.int th, .int sta, .ref mt, .ref mn, .ref ml, .ref mc, .ref mh, .ref mk, .ref mp, .ref mm, .ref mb, .ref mw, .ref mr, .ref mx, .ref me, .ref mP, .ref mQ, .ref ms, .int hs, .int (nI (sz_)), .ref mo, .ref mW, .ref mD, .ref mB, .ref mR, .ref mS])), (mQ, .inl (cI, 16, .inl (kz_dg gmQ))), (ms, .inl (cI, 18, .inl (kz_dg gms))), (mx, .inl (cI, 32, .inl (kz_dg gmx)))]) (va_runS (As := [.ref mt, .int (nI (16)), .ref mP]) (rest := []) ⟨hx, hb, hml, hown, hts⟩ (c_X_figures56 l dC dI cI cAA cB cL mP mt gmP gmt 16 _ hd_gmP (by first | omega | assumption)) (va_cwS 3 hts (kz_g (kz_mc mw_690 (kz_mc mw_691 (kz_mc mw_43 kz_mn))) mw_692) rfl rfl rfl (by decide +kernel) ⟨Nat.le_of_ble_eq_true rfl, Nat.le_of_ble_eq_true rfl⟩) (kz_preS hdy hA hK hro hZ hN [1] (by decide) rfl [(true, 0)] rfl (by decide) [0, 1, 2, 3] rfl (fun _ h => by cases h) (fun _ h => by cases h) rfl) rfl rfl hl.1 rfl (lv_room (Nat.le_of_ble_eq_true rfl)) zd_N_find_10 ⟨Nat.le_of_ble_eq_true rfl, Nat.le_of_ble_eq_true rfl⟩) hdy hA [1] [0, 2, 3, 4] rfl rfl (by decide) (by decide) (fun u H locs hw hdy => ?_)
  obtain ⟨d1, rfl⟩ : ∃ z, z = u := ⟨_, rfl⟩
  try dsimp only at hw
  obtain ⟨hd_d1, q2, -⟩ := hw
  have hdy : kz_dy (dC, dI) vwCl A s.heap H locs [(o, .inr (4, [.int th, .int sta, .ref mt, .ref mn, .ref ml, .ref mc, .ref mh, .ref mk, .ref mp, .ref mm, .ref mb, .ref mw, .ref mr, .ref mx, .ref me, .ref mP, .ref mQ, .ref ms, .int hs, .int (nI (sz_)), .ref mo, .ref mW, .ref mD, .ref mB, .ref mR, .ref mS])), (mP, .inl (cI, 16, .inl (kz_dg d1))), (mQ, .inl (cI, 16, .inl (kz_dg gmQ))), (ms, .inl (cI, 18, .inl (kz_dg gms))), (mx, .inl (cI, 32, .inl (kz_dg gmx)))] := hdy.sub [0, 4, 1, 2, 3] (by decide) rfl
  refine lv_aload_n hx hb zd_N_find_13 rfl (lv_at hl 0 rfl) ?_
  refine va_get (D := (dC, dI)) (ci := 4) (v := .ref mt) (C := zR_N) (T := zT_N) (N := 26) hx hb hts (fun w h => kz_c (zi_N w h)) hown hK hdy.1 0 rfl rfl 2 (by decide) (hts _ (kz_c mw_593)) (fun _ h9 => h9) rfl zd_N_find_14 ?_
  refine lv_bipush (v := (nI (24))) hx hb zd_N_find_17 (by decide) ?_
  refine lv_aload_n hx hb zd_N_find_19 rfl (lv_at hl 0 rfl) ?_
  refine va_get (D := (dC, dI)) (ci := 4) (v := .ref mQ) (C := zR_N) (T := zT_N) (N := 26) hx hb hts (fun w h => kz_c (zi_N w h)) hown hK hdy.1 0 rfl rfl 16 (by decide) (hts _ (kz_c mw_607)) (fun _ h9 => h9) rfl zd_N_find_20 ?_
  refine kz_callv (wk := [(o, .inr (4, [.int th, .int sta, .ref mt, .ref mn, .ref ml, .ref mc, .ref mh, .ref mk, .ref mp, .ref mm, .ref mb, .ref mw, .ref mr, .ref mx, .ref me, .ref mP, .ref mQ, .ref ms, .int hs, .int (nI (sz_)), .ref mo, .ref mW, .ref mD, .ref mB, .ref mR, .ref mS])), (mP, .inl (cI, 16, .inl (kz_dg d1))), (ms, .inl (cI, 18, .inl (kz_dg gms))), (mx, .inl (cI, 32, .inl (kz_dg gmx)))]) (va_runS (As := [.ref mt, .int (nI (24)), .ref mQ]) (rest := []) ⟨hx, hb, hml, hown, hts⟩ (c_X_figures56 l dC dI cI cAA cB cL mQ mt gmQ gmt 24 _ hd_gmQ (by first | omega | assumption)) (va_cwS 3 hts (kz_g (kz_mc mw_690 (kz_mc mw_691 (kz_mc mw_43 kz_mn))) mw_692) rfl rfl rfl (by decide +kernel) ⟨Nat.le_of_ble_eq_true rfl, Nat.le_of_ble_eq_true rfl⟩) (kz_preS hdy hA hK hro hZ hN [2] (by decide) rfl [(true, 0)] rfl (by decide) [0, 1, 2, 3] rfl (fun _ h => by cases h) (fun _ h => by cases h) rfl) rfl rfl hl.1 rfl (lv_room (Nat.le_of_ble_eq_true rfl)) zd_N_find_23 ⟨Nat.le_of_ble_eq_true rfl, Nat.le_of_ble_eq_true rfl⟩) hdy hA [2] [0, 1, 3, 4] rfl rfl (by decide) (by decide) (fun u H locs hw hdy => ?_)
  obtain ⟨d3, rfl⟩ : ∃ z, z = u := ⟨_, rfl⟩
  try dsimp only at hw
  obtain ⟨hd_d3, q4, -⟩ := hw
  have hdy : kz_dy (dC, dI) vwCl A s.heap H locs [(o, .inr (4, [.int th, .int sta, .ref mt, .ref mn, .ref ml, .ref mc, .ref mh, .ref mk, .ref mp, .ref mm, .ref mb, .ref mw, .ref mr, .ref mx, .ref me, .ref mP, .ref mQ, .ref ms, .int hs, .int (nI (sz_)), .ref mo, .ref mW, .ref mD, .ref mB, .ref mR, .ref mS])), (mP, .inl (cI, 16, .inl (kz_dg d1))), (mQ, .inl (cI, 16, .inl (kz_dg d3))), (ms, .inl (cI, 18, .inl (kz_dg gms))), (mx, .inl (cI, 32, .inl (kz_dg gmx)))] := hdy.sub [0, 1, 4, 2, 3] (by decide) rfl
  refine lv_bipush (v := (nI (8))) hx hb zd_N_find_26 (by decide) ?_
  refine lv_istore_n (lv' := [(1, .int (nI (8))), (0, .ref o)]) hx hb zd_N_find_28 rfl hl (by decide) rfl (fun ls hl => ?_)
  have lp29 : ∀ (n29 k29 : Nat) (d5 : Nat → Nat) (d6 : Nat → Nat) (H : Heap) (locs : List Loc) (ls : Array Slot), k29 ≤ 16 → 16 - k29 < n29 → 8 ≤ k29 → (∀ j, d5 j < 65536) → (∀ j, d6 j < 65536) → (∀ j, j < 8 → d5 j = kv_fig gmt 16 j) → (∀ j, 8 ≤ j → j < k29 → d5 j = 0) → (∀ j, j < 8 → d6 j = kv_fig gmt 24 j) → (∀ j, 8 ≤ j → j < k29 → d6 j = 0) → kz_dy (dC, dI) vwCl A s.heap H locs [(o, .inr (4, [.int th, .int sta, .ref mt, .ref mn, .ref ml, .ref mc, .ref mh, .ref mk, .ref mp, .ref mm, .ref mb, .ref mw, .ref mr, .ref mx, .ref me, .ref mP, .ref mQ, .ref ms, .int hs, .int (nI (sz_)), .ref mo, .ref mW, .ref mD, .ref mB, .ref mR, .ref mS])), (mP, .inl (cI, 16, .inl (kz_dg d5))), (mQ, .inl (cI, 16, .inl (kz_dg d6))), (ms, .inl (cI, 18, .inl (kz_dg gms))), (mx, .inl (cI, 32, .inl (kz_dg gmx)))] → lv_has ls 9 [(1, .int (nI (k29))), (0, .ref o)] → W p l e { frames := 1, cells := 0, slots := 0, locals := 26 } s m ([.ref o] : List Value).toArray below meth c H locs 0 0 (MQ below (va_Qv (fun (u : Int32 × (Nat → Nat) × (Nat → Nat) × (Nat → Nat) × (Nat → Nat)) => (∀ j, u.2.1 j < 65536) ∧ (∀ j, u.2.2.1 j < 65536) ∧ (∀ j, u.2.2.2.1 j < 4294967296) ∧ (∀ j, u.2.2.2.2 j < 65536) ∧ ((u.1 = 0 ∧ ¬ kx_fit (kv_val (kv_fig gmt 16) 8) (kv_val (kv_fig gmt 24) 8)) ∨ (u.1 = 1 ∧ kx_fit (kv_val (kv_fig gmt 16) 8) (kv_val (kv_fig gmt 24) 8) ∧ kx_isD (kv_val (kv_fig gmt 16) 8) (kv_val (kv_fig gmt 24) 8) (kv_val u.2.2.2.1 18))) ∧ (u.1 = 1 → ∀ j, j < 18 → u.2.2.2.1 j < 65536) ∧ True) (kz_B (dC, dI) vwCl A (fun u : Int32 × (Nat → Nat) × (Nat → Nat) × (Nat → Nat) × (Nat → Nat) => [(o, .inr (4, [.int th, .int sta, .ref mt, .ref mn, .ref ml, .ref mc, .ref mh, .ref mk, .ref mp, .ref mm, .ref mb, .ref mw, .ref mr, .ref mx, .ref me, .ref mP, .ref mQ, .ref ms, .int u.1, .int (nI (sz_)), .ref mo, .ref mW, .ref mD, .ref mB, .ref mR, .ref mS])), (mP, .inl (cI, 16, .inl (kz_dg u.2.1))), (mQ, .inl (cI, 16, .inl (kz_dg u.2.2.1))), (ms, .inl (cI, 18, .inl (kz_dg u.2.2.2.1))), (mx, .inl (cI, 32, .inl (kz_dg u.2.2.2.2)))])) A) ([.ref o] : List Value).toArray s 0 0 A) (F0 m 29 ls []) := by
    intro n29
    induction n29 with
    | zero => intro k29; intros; omega
    | succ n29 ih29 =>
      intro k29 d5 d6 H locs ls hi29 hn29 hblow hd_d5 hd_d6 hfp hfp0 hfq hfq0 hdy hl
      refine lv_iload_n hx hb zd_N_find_29 rfl (lv_at hl 0 rfl) ?_
      refine lv_bipush (v := (nI (16))) hx hb zd_N_find_30 (by decide) ?_
      refine lv_icmp_ge (tgt := 55) hx hb zd_N_find_32 (by decide) (fun hc32 => ?_) (fun hc32 => ?_)
      · have hc32 : 16 ≤ k29 := (nI_leI (by omega) (by omega)).mp hc32
        have hVP : kv_val d5 16 = kv_val (kv_fig gmt 16) 8 := kv_valLow hfp (fun j a b => hfp0 j a (by omega))
        have hVQ : kv_val d6 16 = kv_val (kv_fig gmt 24) 8 := kv_valLow hfq (fun j a b => hfq0 j a (by omega))
        have hPl := kv_lt (kv_fig_lt gmt 16) 8
        have hQl := kv_lt (kv_fig_lt gmt 24) 8
        refine lv_aload_n hx hb zd_N_find_55 rfl (lv_at hl 1 rfl) ?_
        refine lv_iconst (v := (nI (0))) hx hb zd_N_find_56 (by decide) ?_
        refine va_put (D := (dC, dI)) (ci := 4) (v := .int (nI (0))) (ty := .boolean) (C := zR_N) (T := zT_N) (N := 26) hx hb hts (fun w h => kz_c (zi_N w h)) zt_N zo_N zn_N hown hK hdy.1 hdy.2.1 hdy.2.2 0 rfl rfl 18 (by decide) (hts _ (kz_c mw_609)) (fun _ h9 => h9) rfl (by decide +kernel) rfl rfl (Nat.le_of_ble_eq_true rfl) zd_N_find_57 (fun H locs hP hD hS => ?_)
        have hdy : kz_dy (dC, dI) vwCl A s.heap H locs [(o, .inr (4, [.int th, .int sta, .ref mt, .ref mn, .ref ml, .ref mc, .ref mh, .ref mk, .ref mp, .ref mm, .ref mb, .ref mw, .ref mr, .ref mx, .ref me, .ref mP, .ref mQ, .ref ms, .int (nI (0)), .int (nI (sz_)), .ref mo, .ref mW, .ref mD, .ref mB, .ref mR, .ref mS])), (mP, .inl (cI, 16, .inl (kz_dg d5))), (mQ, .inl (cI, 16, .inl (kz_dg d6))), (ms, .inl (cI, 18, .inl (kz_dg gms))), (mx, .inl (cI, 32, .inl (kz_dg gmx)))] := ⟨hP, hD, hS⟩
        refine lv_iconst (v := (nI (0))) hx hb zd_N_find_60 (by decide) ?_
        refine lv_istore_n (lv' := [(1, .int (nI (0))), (0, .ref o)]) hx hb zd_N_find_61 rfl hl (by decide) rfl (fun ls hl => ?_)
        have lp62 : ∀ (n62 k62 : Nat) (d7 : Nat → Nat) (H : Heap) (locs : List Loc) (ls : Array Slot), k62 ≤ 18 → 18 - k62 < n62 → (∀ j, d7 j < 4294967296) → kz_dy (dC, dI) vwCl A s.heap H locs [(o, .inr (4, [.int th, .int sta, .ref mt, .ref mn, .ref ml, .ref mc, .ref mh, .ref mk, .ref mp, .ref mm, .ref mb, .ref mw, .ref mr, .ref mx, .ref me, .ref mP, .ref mQ, .ref ms, .int (nI (0)), .int (nI (sz_)), .ref mo, .ref mW, .ref mD, .ref mB, .ref mR, .ref mS])), (mP, .inl (cI, 16, .inl (kz_dg d5))), (mQ, .inl (cI, 16, .inl (kz_dg d6))), (ms, .inl (cI, 18, .inl (kz_dg d7))), (mx, .inl (cI, 32, .inl (kz_dg gmx)))] → lv_has ls 9 [(1, .int (nI (k62))), (0, .ref o)] → W p l e { frames := 1, cells := 0, slots := 0, locals := 26 } s m ([.ref o] : List Value).toArray below meth c H locs 0 0 (MQ below (va_Qv (fun (u : Int32 × (Nat → Nat) × (Nat → Nat) × (Nat → Nat) × (Nat → Nat)) => (∀ j, u.2.1 j < 65536) ∧ (∀ j, u.2.2.1 j < 65536) ∧ (∀ j, u.2.2.2.1 j < 4294967296) ∧ (∀ j, u.2.2.2.2 j < 65536) ∧ ((u.1 = 0 ∧ ¬ kx_fit (kv_val (kv_fig gmt 16) 8) (kv_val (kv_fig gmt 24) 8)) ∨ (u.1 = 1 ∧ kx_fit (kv_val (kv_fig gmt 16) 8) (kv_val (kv_fig gmt 24) 8) ∧ kx_isD (kv_val (kv_fig gmt 16) 8) (kv_val (kv_fig gmt 24) 8) (kv_val u.2.2.2.1 18))) ∧ (u.1 = 1 → ∀ j, j < 18 → u.2.2.2.1 j < 65536) ∧ True) (kz_B (dC, dI) vwCl A (fun u : Int32 × (Nat → Nat) × (Nat → Nat) × (Nat → Nat) × (Nat → Nat) => [(o, .inr (4, [.int th, .int sta, .ref mt, .ref mn, .ref ml, .ref mc, .ref mh, .ref mk, .ref mp, .ref mm, .ref mb, .ref mw, .ref mr, .ref mx, .ref me, .ref mP, .ref mQ, .ref ms, .int u.1, .int (nI (sz_)), .ref mo, .ref mW, .ref mD, .ref mB, .ref mR, .ref mS])), (mP, .inl (cI, 16, .inl (kz_dg u.2.1))), (mQ, .inl (cI, 16, .inl (kz_dg u.2.2.1))), (ms, .inl (cI, 18, .inl (kz_dg u.2.2.2.1))), (mx, .inl (cI, 32, .inl (kz_dg u.2.2.2.2)))])) A) ([.ref o] : List Value).toArray s 0 0 A) (F0 m 62 ls []) := by
          intro n62
          induction n62 with
          | zero => intro k62; intros; omega
          | succ n62 ih62 =>
            intro k62 d7 H locs ls hi62 hn62 hd_d7 hdy hl
            refine lv_iload_n hx hb zd_N_find_62 rfl (lv_at hl 0 rfl) ?_
            refine lv_bipush (v := (nI (18))) hx hb zd_N_find_63 (by decide) ?_
            refine lv_icmp_ge (tgt := 81) hx hb zd_N_find_65 (by decide) (fun hc65 => ?_) (fun hc65 => ?_)
            · have hc65 : 18 ≤ k62 := (nI_leI (by omega) (by omega)).mp hc65
              refine lv_aload_n hx hb zd_N_find_81 rfl (lv_at hl 1 rfl) ?_
              refine va_get (D := (dC, dI)) (ci := 4) (v := .ref mP) (C := zR_N) (T := zT_N) (N := 26) hx hb hts (fun w h => kz_c (zi_N w h)) hown hK hdy.1 0 rfl rfl 15 (by decide) (hts _ (kz_c mw_606)) (fun _ h9 => h9) rfl zd_N_find_82 ?_
              refine kz_calli (wk := [(o, .inr (4, [.int th, .int sta, .ref mt, .ref mn, .ref ml, .ref mc, .ref mh, .ref mk, .ref mp, .ref mm, .ref mb, .ref mw, .ref mr, .ref mx, .ref me, .ref mP, .ref mQ, .ref ms, .int (nI (0)), .int (nI (sz_)), .ref mo, .ref mW, .ref mD, .ref mB, .ref mR, .ref mS])), (mP, .inl (cI, 16, .inl (kz_dg d5))), (mQ, .inl (cI, 16, .inl (kz_dg d6))), (ms, .inl (cI, 18, .inl (kz_dg d7))), (mx, .inl (cI, 32, .inl (kz_dg gmx)))]) (va_runS (As := [.ref mP]) (rest := []) ⟨hx, hb, hml, hown, hts⟩ (c_F_isSmall l dC dI cI cAA cB cL mP d5 _ hd_d5) (va_cwS 1 hts (kz_g (kz_mc mw_698 (kz_mc mw_699 (kz_mc mw_43 kz_mn))) mw_700) rfl rfl rfl (by decide +kernel) ⟨Nat.le_of_ble_eq_true rfl, Nat.le_of_ble_eq_true rfl⟩) (kz_preS hdy hA hK hro hZ hN [] (by decide) rfl [(false, 1)] rfl (by decide) [0, 1, 2, 3] rfl (fun _ h => by cases h) (fun _ h => by cases h) rfl) rfl rfl hl.1 rfl (lv_room (Nat.le_of_ble_eq_true rfl)) zd_N_find_85 ⟨Nat.le_of_ble_eq_true rfl, Nat.le_of_ble_eq_true rfl⟩) hdy hA [] [0, 1, 2, 3, 4] rfl rfl (by decide) (by decide) (fun r u H locs hw hdy => ?_)
              obtain ⟨r8, rfl⟩ : ∃ z, z = r := ⟨_, rfl⟩
              try dsimp only at hw
              obtain ⟨hzr8, q9, -⟩ := hw
              have hdy : kz_dy (dC, dI) vwCl A s.heap H locs [(o, .inr (4, [.int th, .int sta, .ref mt, .ref mn, .ref ml, .ref mc, .ref mh, .ref mk, .ref mp, .ref mm, .ref mb, .ref mw, .ref mr, .ref mx, .ref me, .ref mP, .ref mQ, .ref ms, .int (nI (0)), .int (nI (sz_)), .ref mo, .ref mW, .ref mD, .ref mB, .ref mR, .ref mS])), (mP, .inl (cI, 16, .inl (kz_dg d5))), (mQ, .inl (cI, 16, .inl (kz_dg d6))), (ms, .inl (cI, 18, .inl (kz_dg d7))), (mx, .inl (cI, 32, .inl (kz_dg gmx)))] := hdy.sub [0, 1, 2, 3, 4] (by decide) rfl
              refine lv_if_ne (tgt := 101) hx hb zd_N_find_88 (by decide) (fun hc88 => ?_) (fun hc88 => ?_)
              · exact kz_vret F ((nI (0)), d5, d6, d7, gmx) hdy (⟨hd_d5, hd_d6, hd_d7, hd_gmx, by (exact Or.inl ⟨rfl, fun h9 => by have h8 := h9.1; rcases q9 with h7 | h7; exact absurd h7.1 hc88; omega⟩), by intro h; exact absurd (show nI 0 = 1 from h) (by decide), trivial⟩) zd_N_find_101
              · have hP3 := (q9.resolve_right (fun h => absurd (hc88.symm.trans h.1) (by decide))).2
                refine lv_aload_n hx hb zd_N_find_91 rfl (lv_at hl 1 rfl) ?_
                refine va_get (D := (dC, dI)) (ci := 4) (v := .ref mQ) (C := zR_N) (T := zT_N) (N := 26) hx hb hts (fun w h => kz_c (zi_N w h)) hown hK hdy.1 0 rfl rfl 16 (by decide) (hts _ (kz_c mw_607)) (fun _ h9 => h9) rfl zd_N_find_92 ?_
                refine kz_calli (wk := [(o, .inr (4, [.int th, .int sta, .ref mt, .ref mn, .ref ml, .ref mc, .ref mh, .ref mk, .ref mp, .ref mm, .ref mb, .ref mw, .ref mr, .ref mx, .ref me, .ref mP, .ref mQ, .ref ms, .int (nI (0)), .int (nI (sz_)), .ref mo, .ref mW, .ref mD, .ref mB, .ref mR, .ref mS])), (mP, .inl (cI, 16, .inl (kz_dg d5))), (mQ, .inl (cI, 16, .inl (kz_dg d6))), (ms, .inl (cI, 18, .inl (kz_dg d7))), (mx, .inl (cI, 32, .inl (kz_dg gmx)))]) (va_runS (As := [.ref mQ]) (rest := []) ⟨hx, hb, hml, hown, hts⟩ (c_F_isSmall l dC dI cI cAA cB cL mQ d6 _ hd_d6) (va_cwS 1 hts (kz_g (kz_mc mw_698 (kz_mc mw_699 (kz_mc mw_43 kz_mn))) mw_700) rfl rfl rfl (by decide +kernel) ⟨Nat.le_of_ble_eq_true rfl, Nat.le_of_ble_eq_true rfl⟩) (kz_preS hdy hA hK hro hZ hN [] (by decide) rfl [(false, 2)] rfl (by decide) [0, 1, 2, 3] rfl (fun _ h => by cases h) (fun _ h => by cases h) rfl) rfl rfl hl.1 rfl (lv_room (Nat.le_of_ble_eq_true rfl)) zd_N_find_95 ⟨Nat.le_of_ble_eq_true rfl, Nat.le_of_ble_eq_true rfl⟩) hdy hA [] [0, 1, 2, 3, 4] rfl rfl (by decide) (by decide) (fun r u H locs hw hdy => ?_)
                obtain ⟨r10, rfl⟩ : ∃ z, z = r := ⟨_, rfl⟩
                try dsimp only at hw
                obtain ⟨hzr10, q11, -⟩ := hw
                have hdy : kz_dy (dC, dI) vwCl A s.heap H locs [(o, .inr (4, [.int th, .int sta, .ref mt, .ref mn, .ref ml, .ref mc, .ref mh, .ref mk, .ref mp, .ref mm, .ref mb, .ref mw, .ref mr, .ref mx, .ref me, .ref mP, .ref mQ, .ref ms, .int (nI (0)), .int (nI (sz_)), .ref mo, .ref mW, .ref mD, .ref mB, .ref mR, .ref mS])), (mP, .inl (cI, 16, .inl (kz_dg d5))), (mQ, .inl (cI, 16, .inl (kz_dg d6))), (ms, .inl (cI, 18, .inl (kz_dg d7))), (mx, .inl (cI, 32, .inl (kz_dg gmx)))] := hdy.sub [0, 1, 2, 3, 4] (by decide) rfl
                refine lv_if_eq (tgt := 102) hx hb zd_N_find_98 (by decide) (fun hc98 => ?_) (fun hc98 => ?_)
                · have hQ3 := (q11.resolve_right (fun h => absurd (hc98.symm.trans h.1) (by decide))).2
                  have hsP := kv_some_of (d := d5) (n := 16) (by omega)
                  have hsQ := kv_some_of (d := d6) (n := 16) (by omega)
                  refine lv_aload_n hx hb zd_N_find_102 rfl (lv_at hl 1 rfl) ?_
                  refine va_get (D := (dC, dI)) (ci := 4) (v := .ref mP) (C := zR_N) (T := zT_N) (N := 26) hx hb hts (fun w h => kz_c (zi_N w h)) hown hK hdy.1 0 rfl rfl 15 (by decide) (hts _ (kz_c mw_606)) (fun _ h9 => h9) rfl zd_N_find_103 ?_
                  refine kz_callv (wk := [(o, .inr (4, [.int th, .int sta, .ref mt, .ref mn, .ref ml, .ref mc, .ref mh, .ref mk, .ref mp, .ref mm, .ref mb, .ref mw, .ref mr, .ref mx, .ref me, .ref mP, .ref mQ, .ref ms, .int (nI (0)), .int (nI (sz_)), .ref mo, .ref mW, .ref mD, .ref mB, .ref mR, .ref mS])), (mQ, .inl (cI, 16, .inl (kz_dg d6))), (ms, .inl (cI, 18, .inl (kz_dg d7))), (mx, .inl (cI, 32, .inl (kz_dg gmx)))]) (va_runS (As := [.ref mP]) (rest := []) ⟨hx, hb, hml, hown, hts⟩ (c_F_lessOne l dC dI cI cAA cB cL mP d5 _ hd_d5 (by first | omega | assumption)) (va_cwS 1 hts (kz_g (kz_mc mw_701 (kz_mc mw_702 (kz_mc mw_43 kz_mn))) mw_703) rfl rfl rfl (by decide +kernel) ⟨Nat.le_of_ble_eq_true rfl, Nat.le_of_ble_eq_true rfl⟩) (kz_preS hdy hA hK hro hZ hN [1] (by decide) rfl [] rfl (by decide) [0, 1, 2, 3] rfl (fun _ h => by cases h) (fun _ h => by cases h) rfl) rfl rfl hl.1 rfl (lv_room (Nat.le_of_ble_eq_true rfl)) zd_N_find_106 ⟨Nat.le_of_ble_eq_true rfl, Nat.le_of_ble_eq_true rfl⟩) hdy hA [1] [0, 2, 3, 4] rfl rfl (by decide) (by decide) (fun u H locs hw hdy => ?_)
                  obtain ⟨d12, rfl⟩ : ∃ z, z = u := ⟨_, rfl⟩
                  try dsimp only at hw
                  obtain ⟨hd_d12, q13, -⟩ := hw
                  have hdy : kz_dy (dC, dI) vwCl A s.heap H locs [(o, .inr (4, [.int th, .int sta, .ref mt, .ref mn, .ref ml, .ref mc, .ref mh, .ref mk, .ref mp, .ref mm, .ref mb, .ref mw, .ref mr, .ref mx, .ref me, .ref mP, .ref mQ, .ref ms, .int (nI (0)), .int (nI (sz_)), .ref mo, .ref mW, .ref mD, .ref mB, .ref mR, .ref mS])), (mP, .inl (cI, 16, .inl (kz_dg d12))), (mQ, .inl (cI, 16, .inl (kz_dg d6))), (ms, .inl (cI, 18, .inl (kz_dg d7))), (mx, .inl (cI, 32, .inl (kz_dg gmx)))] := hdy.sub [0, 4, 1, 2, 3] (by decide) rfl
                  refine lv_aload_n hx hb zd_N_find_109 rfl (lv_at hl 1 rfl) ?_
                  refine va_get (D := (dC, dI)) (ci := 4) (v := .ref mQ) (C := zR_N) (T := zT_N) (N := 26) hx hb hts (fun w h => kz_c (zi_N w h)) hown hK hdy.1 0 rfl rfl 16 (by decide) (hts _ (kz_c mw_607)) (fun _ h9 => h9) rfl zd_N_find_110 ?_
                  refine kz_callv (wk := [(o, .inr (4, [.int th, .int sta, .ref mt, .ref mn, .ref ml, .ref mc, .ref mh, .ref mk, .ref mp, .ref mm, .ref mb, .ref mw, .ref mr, .ref mx, .ref me, .ref mP, .ref mQ, .ref ms, .int (nI (0)), .int (nI (sz_)), .ref mo, .ref mW, .ref mD, .ref mB, .ref mR, .ref mS])), (mP, .inl (cI, 16, .inl (kz_dg d12))), (ms, .inl (cI, 18, .inl (kz_dg d7))), (mx, .inl (cI, 32, .inl (kz_dg gmx)))]) (va_runS (As := [.ref mQ]) (rest := []) ⟨hx, hb, hml, hown, hts⟩ (c_F_lessOne l dC dI cI cAA cB cL mQ d6 _ hd_d6 (by first | omega | assumption)) (va_cwS 1 hts (kz_g (kz_mc mw_701 (kz_mc mw_702 (kz_mc mw_43 kz_mn))) mw_703) rfl rfl rfl (by decide +kernel) ⟨Nat.le_of_ble_eq_true rfl, Nat.le_of_ble_eq_true rfl⟩) (kz_preS hdy hA hK hro hZ hN [2] (by decide) rfl [] rfl (by decide) [0, 1, 2, 3] rfl (fun _ h => by cases h) (fun _ h => by cases h) rfl) rfl rfl hl.1 rfl (lv_room (Nat.le_of_ble_eq_true rfl)) zd_N_find_113 ⟨Nat.le_of_ble_eq_true rfl, Nat.le_of_ble_eq_true rfl⟩) hdy hA [2] [0, 1, 3, 4] rfl rfl (by decide) (by decide) (fun u H locs hw hdy => ?_)
                  obtain ⟨d14, rfl⟩ : ∃ z, z = u := ⟨_, rfl⟩
                  try dsimp only at hw
                  obtain ⟨hd_d14, q15, -⟩ := hw
                  have hdy : kz_dy (dC, dI) vwCl A s.heap H locs [(o, .inr (4, [.int th, .int sta, .ref mt, .ref mn, .ref ml, .ref mc, .ref mh, .ref mk, .ref mp, .ref mm, .ref mb, .ref mw, .ref mr, .ref mx, .ref me, .ref mP, .ref mQ, .ref ms, .int (nI (0)), .int (nI (sz_)), .ref mo, .ref mW, .ref mD, .ref mB, .ref mR, .ref mS])), (mP, .inl (cI, 16, .inl (kz_dg d12))), (mQ, .inl (cI, 16, .inl (kz_dg d14))), (ms, .inl (cI, 18, .inl (kz_dg d7))), (mx, .inl (cI, 32, .inl (kz_dg gmx)))] := hdy.sub [0, 1, 4, 2, 3] (by decide) rfl
                  refine lv_aload_n hx hb zd_N_find_116 rfl (lv_at hl 1 rfl) ?_
                  refine lv_aload_n hx hb zd_N_find_117 rfl (lv_at hl 1 rfl) ?_
                  refine va_get (D := (dC, dI)) (ci := 4) (v := .ref mP) (C := zR_N) (T := zT_N) (N := 26) hx hb hts (fun w h => kz_c (zi_N w h)) hown hK hdy.1 0 rfl rfl 15 (by decide) (hts _ (kz_c mw_606)) (fun _ h9 => h9) rfl zd_N_find_118 ?_
                  refine lv_aload_n hx hb zd_N_find_121 rfl (lv_at hl 1 rfl) ?_
                  refine va_get (D := (dC, dI)) (ci := 4) (v := .ref mQ) (C := zR_N) (T := zT_N) (N := 26) hx hb hts (fun w h => kz_c (zi_N w h)) hown hK hdy.1 0 rfl rfl 16 (by decide) (hts _ (kz_c mw_607)) (fun _ h9 => h9) rfl zd_N_find_122 ?_
                  refine kz_callv (wk := [(o, .inr (4, [.int th, .int sta, .ref mt, .ref mn, .ref ml, .ref mc, .ref mh, .ref mk, .ref mp, .ref mm, .ref mb, .ref mw, .ref mr, .ref mx, .ref me, .ref mP, .ref mQ, .ref ms, .int (nI (0)), .int (nI (sz_)), .ref mo, .ref mW, .ref mD, .ref mB, .ref mR, .ref mS])), (mP, .inl (cI, 16, .inl (kz_dg d12))), (mQ, .inl (cI, 16, .inl (kz_dg d14))), (ms, .inl (cI, 18, .inl (kz_dg d7)))]) (va_runV (As := [.ref mP, .ref mQ]) (rest := []) ⟨hx, hb, hml, hown, hts⟩ (c_Y_multiply l dC dI cI cAA cB cL mx o mt mn ml mc mh mk mp mm mb mw mr me mP mQ ms mo mW mD mB mR mS mP mQ gmx (th) (sta) ((nI (0))) sz_ d12 d14 _ hd_gmx hd_d12 hd_d14) (cwV 2 hts (kz_g (kz_mc mw_704 (kz_mc mw_706 (kz_mc mw_23 (kz_mc mw_43 kz_mn)))) mw_707) rfl rfl rfl (by decide +kernel) ⟨Nat.le_of_ble_eq_true rfl, Nat.le_of_ble_eq_true rfl⟩) (kz_preV hdy hA hK hro hZ hN [4] (by decide) rfl [(false, 0), (false, 1), (false, 2)] rfl (by decide) [0, 1, 2, 3] rfl (fun _ h => by cases h) (fun _ h => by cases h) rfl (ci := 4) (q0 := 0) rfl rfl rfl) rfl rfl hl.1 rfl (lv_room (Nat.le_of_ble_eq_true rfl)) zd_N_find_125 ⟨Nat.le_of_ble_eq_true rfl, Nat.le_of_ble_eq_true rfl⟩) hdy hA [4] [0, 1, 2, 3] rfl rfl (by decide) (by decide) (fun u H locs hw hdy => ?_)
                  obtain ⟨d16, rfl⟩ : ∃ z, z = u := ⟨_, rfl⟩
                  try dsimp only at hw
                  obtain ⟨hd_d16, q17, -⟩ := hw
                  have hdy : kz_dy (dC, dI) vwCl A s.heap H locs [(o, .inr (4, [.int th, .int sta, .ref mt, .ref mn, .ref ml, .ref mc, .ref mh, .ref mk, .ref mp, .ref mm, .ref mb, .ref mw, .ref mr, .ref mx, .ref me, .ref mP, .ref mQ, .ref ms, .int (nI (0)), .int (nI (sz_)), .ref mo, .ref mW, .ref mD, .ref mB, .ref mR, .ref mS])), (mP, .inl (cI, 16, .inl (kz_dg d12))), (mQ, .inl (cI, 16, .inl (kz_dg d14))), (ms, .inl (cI, 18, .inl (kz_dg d7))), (mx, .inl (cI, 32, .inl (kz_dg d16)))] := hdy.sub [0, 1, 2, 3, 4] (by decide) rfl
                  obtain ⟨hMv, hMl⟩ := kv_prodM q17 (q13.trans hVP) (q15.trans hVQ) hPl hQl
                  refine lv_lconst (v := 0) hx hb zd_N_find_128 (by decide) ?_
                  refine lv_topl (fun yl18 h9 => ?_)
                  obtain rfl : yl18 = kz_lz (0) := h9.trans (kz_lz_c0)
                  refine lv_topl (fun yl20 h9 => ?_)
                  obtain ⟨n19, en19, rfl⟩ := kz_toN (e := 0) h9 (by omega)
                  refine lv_lstore_n (lv' := [(1, .long (kz_lz (((n19 : Nat) : Int)))), (0, .ref o)]) hx hb zd_N_find_129 rfl hl (by decide) rfl (fun ls hl => ?_)
                  refine lv_bipush (v := (nI (15))) hx hb zd_N_find_130 (by decide) ?_
                  refine lv_istore_n (lv' := [(3, .int (nI (15))), (1, .long (kz_lz (((n19 : Nat) : Int)))), (0, .ref o)]) hx hb zd_N_find_132 rfl hl (by decide) rfl (fun ls hl => ?_)
                  have lp133 : ∀ (n133 k133 : Nat) (c21 : Nat) (H : Heap) (locs : List Loc) (ls : Array Slot), k133 ≤ 16 → k133 < n133 → (c21 = kv_hiN 16 d16 (k133) % 65537) → kz_dy (dC, dI) vwCl A s.heap H locs [(o, .inr (4, [.int th, .int sta, .ref mt, .ref mn, .ref ml, .ref mc, .ref mh, .ref mk, .ref mp, .ref mm, .ref mb, .ref mw, .ref mr, .ref mx, .ref me, .ref mP, .ref mQ, .ref ms, .int (nI (0)), .int (nI (sz_)), .ref mo, .ref mW, .ref mD, .ref mB, .ref mR, .ref mS])), (mP, .inl (cI, 16, .inl (kz_dg d12))), (mQ, .inl (cI, 16, .inl (kz_dg d14))), (ms, .inl (cI, 18, .inl (kz_dg d7))), (mx, .inl (cI, 32, .inl (kz_dg d16)))] → lv_has ls 9 [(3, .int (nI (k133) - 1)), (1, .long (kz_lz (((c21 : Nat) : Int)))), (0, .ref o)] → W p l e { frames := 1, cells := 0, slots := 0, locals := 26 } s m ([.ref o] : List Value).toArray below meth c H locs 0 0 (MQ below (va_Qv (fun (u : Int32 × (Nat → Nat) × (Nat → Nat) × (Nat → Nat) × (Nat → Nat)) => (∀ j, u.2.1 j < 65536) ∧ (∀ j, u.2.2.1 j < 65536) ∧ (∀ j, u.2.2.2.1 j < 4294967296) ∧ (∀ j, u.2.2.2.2 j < 65536) ∧ ((u.1 = 0 ∧ ¬ kx_fit (kv_val (kv_fig gmt 16) 8) (kv_val (kv_fig gmt 24) 8)) ∨ (u.1 = 1 ∧ kx_fit (kv_val (kv_fig gmt 16) 8) (kv_val (kv_fig gmt 24) 8) ∧ kx_isD (kv_val (kv_fig gmt 16) 8) (kv_val (kv_fig gmt 24) 8) (kv_val u.2.2.2.1 18))) ∧ (u.1 = 1 → ∀ j, j < 18 → u.2.2.2.1 j < 65536) ∧ True) (kz_B (dC, dI) vwCl A (fun u : Int32 × (Nat → Nat) × (Nat → Nat) × (Nat → Nat) × (Nat → Nat) => [(o, .inr (4, [.int th, .int sta, .ref mt, .ref mn, .ref ml, .ref mc, .ref mh, .ref mk, .ref mp, .ref mm, .ref mb, .ref mw, .ref mr, .ref mx, .ref me, .ref mP, .ref mQ, .ref ms, .int u.1, .int (nI (sz_)), .ref mo, .ref mW, .ref mD, .ref mB, .ref mR, .ref mS])), (mP, .inl (cI, 16, .inl (kz_dg u.2.1))), (mQ, .inl (cI, 16, .inl (kz_dg u.2.2.1))), (ms, .inl (cI, 18, .inl (kz_dg u.2.2.2.1))), (mx, .inl (cI, 32, .inl (kz_dg u.2.2.2.2)))])) A) ([.ref o] : List Value).toArray s 0 0 A) (F0 m 133 ls []) := by
                    intro n133
                    induction n133 with
                    | zero => intro k133 c21 H locs ls hi133 hn133; exact absurd hn133 (Nat.not_lt_zero _)
                    | succ n133 ih133 =>
                      intro k133 c21 H locs ls hi133 hn133 hp hdy hl
                      refine lv_iload_n hx hb zd_N_find_133 rfl (lv_at hl 0 rfl) ?_
                      refine lv_if_lt (tgt := 161) hx hb zd_N_find_134 (by decide) (fun hc134 => ?_) (fun hc134 => ?_)
                      · have hc134 : k133 = 0 := (kz_neg (by omega)).mp hc134
                        have hpe : c21 = ((kv_val (kv_fig gmt 16) 8) - 1) * ((kv_val (kv_fig gmt 24) 8) - 1) % 65537 := (by rw [hp, hc134, kv_hiN_0, hMv])
                        refine lv_lload_n hx hb zd_N_find_161 rfl (lv_at hl 1 rfl) ?_
                        refine lv_lconst (v := 0) hx hb zd_N_find_162 (by decide) ?_
                        refine lv_topl (fun yl22 h9 => ?_)
                        obtain rfl : yl22 = kz_lz (0) := h9.trans (kz_lz_c0)
                        refine kz_lne (tgt := 168) hx hb zd_N_find_163 zd_N_find_164 (by decide) (fun hc164 => ?_) (fun hc164 => ?_)
                        · have hc164 : ¬ (((c21 : Nat) : Int)) = 0 := fun h9 => hc164 ((kz_lz_eq (by omega) (by omega) (by omega) (by omega)).mpr h9)
                          obtain ⟨x9, hx9, hx7⟩ := kv_invZ (z := ((c21 : Nat) : Int)) (by omega) (by omega) hc164
                          refine lv_iconst (v := (nI (0))) hx hb zd_N_find_168 (by decide) ?_
                          refine lv_istore_n (lv' := [(3, .int (nI (0))), (1, .long (kz_lz (((c21 : Nat) : Int)))), (0, .ref o)]) hx hb zd_N_find_169 rfl hl (by decide) rfl (fun ls hl => ?_)
                          have lp170 : ∀ (n170 k170 : Nat) (H : Heap) (locs : List Loc) (ls : Array Slot), k170 ≤ x9 → x9 - k170 < n170 → kz_dy (dC, dI) vwCl A s.heap H locs [(o, .inr (4, [.int th, .int sta, .ref mt, .ref mn, .ref ml, .ref mc, .ref mh, .ref mk, .ref mp, .ref mm, .ref mb, .ref mw, .ref mr, .ref mx, .ref me, .ref mP, .ref mQ, .ref ms, .int (nI (0)), .int (nI (sz_)), .ref mo, .ref mW, .ref mD, .ref mB, .ref mR, .ref mS])), (mP, .inl (cI, 16, .inl (kz_dg d12))), (mQ, .inl (cI, 16, .inl (kz_dg d14))), (ms, .inl (cI, 18, .inl (kz_dg d7))), (mx, .inl (cI, 32, .inl (kz_dg d16)))] → lv_has ls 9 [(3, .int (nI (k170))), (1, .long (kz_lz (((c21 : Nat) : Int)))), (0, .ref o)] → W p l e { frames := 1, cells := 0, slots := 0, locals := 26 } s m ([.ref o] : List Value).toArray below meth c H locs 0 0 (MQ below (va_Qv (fun (u : Int32 × (Nat → Nat) × (Nat → Nat) × (Nat → Nat) × (Nat → Nat)) => (∀ j, u.2.1 j < 65536) ∧ (∀ j, u.2.2.1 j < 65536) ∧ (∀ j, u.2.2.2.1 j < 4294967296) ∧ (∀ j, u.2.2.2.2 j < 65536) ∧ ((u.1 = 0 ∧ ¬ kx_fit (kv_val (kv_fig gmt 16) 8) (kv_val (kv_fig gmt 24) 8)) ∨ (u.1 = 1 ∧ kx_fit (kv_val (kv_fig gmt 16) 8) (kv_val (kv_fig gmt 24) 8) ∧ kx_isD (kv_val (kv_fig gmt 16) 8) (kv_val (kv_fig gmt 24) 8) (kv_val u.2.2.2.1 18))) ∧ (u.1 = 1 → ∀ j, j < 18 → u.2.2.2.1 j < 65536) ∧ True) (kz_B (dC, dI) vwCl A (fun u : Int32 × (Nat → Nat) × (Nat → Nat) × (Nat → Nat) × (Nat → Nat) => [(o, .inr (4, [.int th, .int sta, .ref mt, .ref mn, .ref ml, .ref mc, .ref mh, .ref mk, .ref mp, .ref mm, .ref mb, .ref mw, .ref mr, .ref mx, .ref me, .ref mP, .ref mQ, .ref ms, .int u.1, .int (nI (sz_)), .ref mo, .ref mW, .ref mD, .ref mB, .ref mR, .ref mS])), (mP, .inl (cI, 16, .inl (kz_dg u.2.1))), (mQ, .inl (cI, 16, .inl (kz_dg u.2.2.1))), (ms, .inl (cI, 18, .inl (kz_dg u.2.2.2.1))), (mx, .inl (cI, 32, .inl (kz_dg u.2.2.2.2)))])) A) ([.ref o] : List Value).toArray s 0 0 A) (F0 m 170 ls []) := by
                            intro n170
                            induction n170 with
                            | zero => intro k170; intros; omega
                            | succ n170 ih170 =>
                              intro k170 H locs ls hi170 hn170 hdy hl
                              refine lv_lconst (v := 1) hx hb zd_N_find_170 (by decide) ?_
                              refine lv_topl (fun yl23 h9 => ?_)
                              obtain rfl : yl23 = kz_lz (1) := h9.trans (kz_lz_c1)
                              refine lv_iload_n hx hb zd_N_find_171 rfl (lv_at hl 0 rfl) ?_
                              refine lv_i2l hx hb zd_N_find_172 (kz_lz_i (n := k170) (by omega)) ?_
                              refine lv_lload_n hx hb zd_N_find_173 rfl (lv_at hl 1 rfl) ?_
                              refine lv_lmul hx hb zd_N_find_174 ?_
                              refine lv_topl (fun yl24 h9 => ?_)
                              obtain rfl : yl24 = kz_lz ((((k170 : Nat) : Int)) * (((c21 : Nat) : Int))) := h9.trans (kz_lz_mul _ _)
                              refine lv_ladd hx hb zd_N_find_175 ?_
                              refine lv_topl (fun yl25 h9 => ?_)
                              obtain rfl : yl25 = kz_lz (1 + ((((k170 : Nat) : Int)) * (((c21 : Nat) : Int)))) := h9.trans (kz_lz_add _ _)
                              have hkz := kv_kz (k := k170) (z := ((c21 : Nat) : Int)) (by omega) (by omega) (by omega)
                              refine lv_ldc2 (v := (65537)) hx hb hown (hts _ (kz_c mw_710)) zd_N_find_176 ?_
                              refine lv_topl (fun yl26 h9 => ?_)
                              obtain rfl : yl26 = kz_lz (65537) := h9.trans (kz_lz_c65537)
                              refine lv_lrem hx hb zd_N_find_179 (kz_lz_ne0 (by omega) (by omega)) ?_
                              refine lv_topl (fun yl27 h9 => ?_)
                              obtain rfl : yl27 = kz_lz ((1 + ((((k170 : Nat) : Int)) * (((c21 : Nat) : Int)))) % 65537) := h9.trans (kz_lz_remz (by omega) (by omega) (by omega) (by omega))
                              refine lv_lconst (v := 0) hx hb zd_N_find_180 (by decide) ?_
                              refine lv_topl (fun yl28 h9 => ?_)
                              obtain rfl : yl28 = kz_lz (0) := h9.trans (kz_lz_c0)
                              refine kz_leq (tgt := 191) hx hb zd_N_find_181 zd_N_find_182 (by decide) (fun hc182 => ?_) (fun hc182 => ?_)
                              · have hc182 : ((1 + ((((k170 : Nat) : Int)) * (((c21 : Nat) : Int)))) % 65537) = 0 := (kz_lz_eq (by omega) (by omega) (by omega) (by omega)).mp hc182
                                have hof : (1 + k170 * (((kv_val (kv_fig gmt 16) 8) - 1) * ((kv_val (kv_fig gmt 24) 8) - 1))) % 65537 = 0 := (by have h8 : (1 + k170 * c21) % 65537 = 0 := (by have h7 : (((k170 * c21 : Nat)) : Int) = ((k170 : Nat) : Int) * ((c21 : Nat) : Int) := Int.natCast_mul _ _; omega); rw [hpe, Nat.add_mod, Nat.mul_mod_mod, ← Nat.add_mod] at h8; exact h8)
                                refine lv_lconst (v := 1) hx hb zd_N_find_191 (by decide) ?_
                                refine lv_topl (fun yl29 h9 => ?_)
                                obtain rfl : yl29 = kz_lz (1) := h9.trans (kz_lz_c1)
                                refine lv_topl (fun yl31 h9 => ?_)
                                obtain ⟨n30, en30, rfl⟩ := kz_toN (e := 1) h9 (by omega)
                                refine lv_lstore (lv' := [(4, .long (kz_lz (((n30 : Nat) : Int)))), (3, .int (nI (k170))), (1, .long (kz_lz (((c21 : Nat) : Int)))), (0, .ref o)]) hx hb zd_N_find_192 hl (by decide) rfl (fun ls hl => ?_)
                                refine lv_iconst (v := (nI (0))) hx hb zd_N_find_194 (by decide) ?_
                                refine lv_istore (lv' := [(6, .int (nI (0))), (4, .long (kz_lz (((n30 : Nat) : Int)))), (3, .int (nI (k170))), (1, .long (kz_lz (((c21 : Nat) : Int)))), (0, .ref o)]) hx hb zd_N_find_195 hl (by decide) rfl (fun ls hl => ?_)
                                have lp197 : ∀ (n197 k197 : Nat) (c32 : Nat) (d33 : Nat → Nat) (H : Heap) (locs : List Loc) (ls : Array Slot), k197 ≤ 18 → 18 - k197 < n197 → (∀ j, d33 j < 4294967296) → (c32 < 262144) → (kv_val d33 (k197) + c32 * 65536 ^ (k197) = 1 + k170 * kv_val (kv_m18 d16) (k197)) → (∀ j, j < k197 → d33 j < 65536) → kz_dy (dC, dI) vwCl A s.heap H locs [(o, .inr (4, [.int th, .int sta, .ref mt, .ref mn, .ref ml, .ref mc, .ref mh, .ref mk, .ref mp, .ref mm, .ref mb, .ref mw, .ref mr, .ref mx, .ref me, .ref mP, .ref mQ, .ref ms, .int (nI (0)), .int (nI (sz_)), .ref mo, .ref mW, .ref mD, .ref mB, .ref mR, .ref mS])), (mP, .inl (cI, 16, .inl (kz_dg d12))), (mQ, .inl (cI, 16, .inl (kz_dg d14))), (ms, .inl (cI, 18, .inl (kz_dg d33))), (mx, .inl (cI, 32, .inl (kz_dg d16)))] → lv_has ls 9 [(6, .int (nI (k197))), (4, .long (kz_lz (((c32 : Nat) : Int)))), (3, .int (nI (k170))), (1, .long (kz_lz (((c21 : Nat) : Int)))), (0, .ref o)] → W p l e { frames := 1, cells := 0, slots := 0, locals := 26 } s m ([.ref o] : List Value).toArray below meth c H locs 0 0 (MQ below (va_Qv (fun (u : Int32 × (Nat → Nat) × (Nat → Nat) × (Nat → Nat) × (Nat → Nat)) => (∀ j, u.2.1 j < 65536) ∧ (∀ j, u.2.2.1 j < 65536) ∧ (∀ j, u.2.2.2.1 j < 4294967296) ∧ (∀ j, u.2.2.2.2 j < 65536) ∧ ((u.1 = 0 ∧ ¬ kx_fit (kv_val (kv_fig gmt 16) 8) (kv_val (kv_fig gmt 24) 8)) ∨ (u.1 = 1 ∧ kx_fit (kv_val (kv_fig gmt 16) 8) (kv_val (kv_fig gmt 24) 8) ∧ kx_isD (kv_val (kv_fig gmt 16) 8) (kv_val (kv_fig gmt 24) 8) (kv_val u.2.2.2.1 18))) ∧ (u.1 = 1 → ∀ j, j < 18 → u.2.2.2.1 j < 65536) ∧ True) (kz_B (dC, dI) vwCl A (fun u : Int32 × (Nat → Nat) × (Nat → Nat) × (Nat → Nat) × (Nat → Nat) => [(o, .inr (4, [.int th, .int sta, .ref mt, .ref mn, .ref ml, .ref mc, .ref mh, .ref mk, .ref mp, .ref mm, .ref mb, .ref mw, .ref mr, .ref mx, .ref me, .ref mP, .ref mQ, .ref ms, .int u.1, .int (nI (sz_)), .ref mo, .ref mW, .ref mD, .ref mB, .ref mR, .ref mS])), (mP, .inl (cI, 16, .inl (kz_dg u.2.1))), (mQ, .inl (cI, 16, .inl (kz_dg u.2.2.1))), (ms, .inl (cI, 18, .inl (kz_dg u.2.2.2.1))), (mx, .inl (cI, 32, .inl (kz_dg u.2.2.2.2)))])) A) ([.ref o] : List Value).toArray s 0 0 A) (F0 m 197 ls []) := by
                                  intro n197
                                  induction n197 with
                                  | zero => intro k197; intros; omega
                                  | succ n197 ih197 =>
                                    intro k197 c32 d33 H locs ls hi197 hn197 hd_d33 hcb hI hfl hdy hl
                                    refine lv_iload hx hb zd_N_find_197 (lv_at hl 0 rfl) ?_
                                    refine lv_bipush (v := (nI (18))) hx hb zd_N_find_199 (by decide) ?_
                                    refine lv_icmp_ge (tgt := 258) hx hb zd_N_find_201 (by decide) (fun hc201 => ?_) (fun hc201 => ?_)
                                    · have hc201 : 18 ≤ k197 := (nI_leI (by omega) (by omega)).mp hc201
                                      have h18 : k197 = 18 := (by omega)
                                      rw [h18] at hI hfl
                                      have hSv := kv_carryEnd hMv hMl (by omega) hI
                                      refine lv_lconst (v := 0) hx hb zd_N_find_258 (by decide) ?_
                                      refine lv_topl (fun yl34 h9 => ?_)
                                      obtain rfl : yl34 = kz_lz (0) := h9.trans (kz_lz_c0)
                                      refine lv_topl (fun yl36 h9 => ?_)
                                      obtain ⟨n35, en35, rfl⟩ := kz_toN (e := 0) h9 (by omega)
                                      refine lv_lstore (lv' := [(6, .long (kz_lz (((n35 : Nat) : Int)))), (4, .long (kz_lz (((c32 : Nat) : Int)))), (3, .int (nI (k170))), (1, .long (kz_lz (((c21 : Nat) : Int)))), (0, .ref o)]) hx hb zd_N_find_259 hl (by decide) rfl (fun ls hl => ?_)
                                      refine lv_bipush (v := (nI (17))) hx hb zd_N_find_261 (by decide) ?_
                                      refine lv_istore (lv' := [(8, .int (nI (17))), (6, .long (kz_lz (((n35 : Nat) : Int)))), (4, .long (kz_lz (((c32 : Nat) : Int)))), (3, .int (nI (k170))), (1, .long (kz_lz (((c21 : Nat) : Int)))), (0, .ref o)]) hx hb zd_N_find_263 hl (by decide) rfl (fun ls hl => ?_)
                                      have lp265 : ∀ (n265 k265 : Nat) (c37 : Nat) (d38 : Nat → Nat) (H : Heap) (locs : List Loc) (ls : Array Slot), k265 ≤ 18 → k265 < n265 → (∀ j, d38 j < 4294967296) → (c37 < 65537) → (65537 * kv_hiN 18 d38 (k265) + c37 = kv_hiN 18 d33 (k265)) → (∀ j, j < k265 → d38 j = d33 j) → (∀ j, k265 ≤ j → j < 18 → d38 j < 65536) → kz_dy (dC, dI) vwCl A s.heap H locs [(o, .inr (4, [.int th, .int sta, .ref mt, .ref mn, .ref ml, .ref mc, .ref mh, .ref mk, .ref mp, .ref mm, .ref mb, .ref mw, .ref mr, .ref mx, .ref me, .ref mP, .ref mQ, .ref ms, .int (nI (0)), .int (nI (sz_)), .ref mo, .ref mW, .ref mD, .ref mB, .ref mR, .ref mS])), (mP, .inl (cI, 16, .inl (kz_dg d12))), (mQ, .inl (cI, 16, .inl (kz_dg d14))), (ms, .inl (cI, 18, .inl (kz_dg d38))), (mx, .inl (cI, 32, .inl (kz_dg d16)))] → lv_has ls 9 [(8, .int (nI (k265) - 1)), (6, .long (kz_lz (((c37 : Nat) : Int)))), (4, .long (kz_lz (((c32 : Nat) : Int)))), (3, .int (nI (k170))), (1, .long (kz_lz (((c21 : Nat) : Int)))), (0, .ref o)] → W p l e { frames := 1, cells := 0, slots := 0, locals := 26 } s m ([.ref o] : List Value).toArray below meth c H locs 0 0 (MQ below (va_Qv (fun (u : Int32 × (Nat → Nat) × (Nat → Nat) × (Nat → Nat) × (Nat → Nat)) => (∀ j, u.2.1 j < 65536) ∧ (∀ j, u.2.2.1 j < 65536) ∧ (∀ j, u.2.2.2.1 j < 4294967296) ∧ (∀ j, u.2.2.2.2 j < 65536) ∧ ((u.1 = 0 ∧ ¬ kx_fit (kv_val (kv_fig gmt 16) 8) (kv_val (kv_fig gmt 24) 8)) ∨ (u.1 = 1 ∧ kx_fit (kv_val (kv_fig gmt 16) 8) (kv_val (kv_fig gmt 24) 8) ∧ kx_isD (kv_val (kv_fig gmt 16) 8) (kv_val (kv_fig gmt 24) 8) (kv_val u.2.2.2.1 18))) ∧ (u.1 = 1 → ∀ j, j < 18 → u.2.2.2.1 j < 65536) ∧ True) (kz_B (dC, dI) vwCl A (fun u : Int32 × (Nat → Nat) × (Nat → Nat) × (Nat → Nat) × (Nat → Nat) => [(o, .inr (4, [.int th, .int sta, .ref mt, .ref mn, .ref ml, .ref mc, .ref mh, .ref mk, .ref mp, .ref mm, .ref mb, .ref mw, .ref mr, .ref mx, .ref me, .ref mP, .ref mQ, .ref ms, .int u.1, .int (nI (sz_)), .ref mo, .ref mW, .ref mD, .ref mB, .ref mR, .ref mS])), (mP, .inl (cI, 16, .inl (kz_dg u.2.1))), (mQ, .inl (cI, 16, .inl (kz_dg u.2.2.1))), (ms, .inl (cI, 18, .inl (kz_dg u.2.2.2.1))), (mx, .inl (cI, 32, .inl (kz_dg u.2.2.2.2)))])) A) ([.ref o] : List Value).toArray s 0 0 A) (F0 m 265 ls []) := by
                                        intro n265
                                        induction n265 with
                                        | zero => intro k265 c37 d38 H locs ls hi265 hn265; exact absurd hn265 (Nat.not_lt_zero _)
                                        | succ n265 ih265 =>
                                          intro k265 c37 d38 H locs ls hi265 hn265 hd_d38 hr hDv hlo hfs hdy hl
                                          refine lv_iload hx hb zd_N_find_265 (lv_at hl 0 rfl) ?_
                                          refine lv_if_lt (tgt := 315) hx hb zd_N_find_267 (by decide) (fun hc267 => ?_) (fun hc267 => ?_)
                                          · have hc267 : k265 = 0 := (kz_neg (by omega)).mp hc267
                                            refine lv_aload_n hx hb zd_N_find_315 rfl (lv_at hl 5 rfl) ?_
                                            refine lv_iconst (v := (nI (1))) hx hb zd_N_find_316 (by decide) ?_
                                            refine va_put (D := (dC, dI)) (ci := 4) (v := .int (nI (1))) (ty := .boolean) (C := zR_N) (T := zT_N) (N := 26) hx hb hts (fun w h => kz_c (zi_N w h)) zt_N zo_N zn_N hown hK hdy.1 hdy.2.1 hdy.2.2 0 rfl rfl 18 (by decide) (hts _ (kz_c mw_609)) (fun _ h9 => h9) rfl (by decide +kernel) rfl rfl (Nat.le_of_ble_eq_true rfl) zd_N_find_317 (fun H locs hP hD hS => ?_)
                                            have hdy : kz_dy (dC, dI) vwCl A s.heap H locs [(o, .inr (4, [.int th, .int sta, .ref mt, .ref mn, .ref ml, .ref mc, .ref mh, .ref mk, .ref mp, .ref mm, .ref mb, .ref mw, .ref mr, .ref mx, .ref me, .ref mP, .ref mQ, .ref ms, .int (nI (1)), .int (nI (sz_)), .ref mo, .ref mW, .ref mD, .ref mB, .ref mR, .ref mS])), (mP, .inl (cI, 16, .inl (kz_dg d12))), (mQ, .inl (cI, 16, .inl (kz_dg d14))), (ms, .inl (cI, 18, .inl (kz_dg d38))), (mx, .inl (cI, 32, .inl (kz_dg d16)))] := ⟨hP, hD, hS⟩
                                            exact kz_vret F ((nI (1)), d12, d14, d38, d16) hdy (⟨hd_d12, hd_d14, hd_d38, hd_d16, by exact Or.inr ⟨rfl, ⟨by omega, by omega, fun h9 => hc164 (by rw [hpe, h9]; rfl)⟩, kv_findD hr (by omega) hof hSv (by rw [hc267] at hDv; exact hDv)⟩, by exact fun _ j hj => hfs j (by omega) hj, trivial⟩) zd_N_find_320
                                          · have hc267 : ¬ k265 = 0 := fun h9 => hc267 ((kz_neg (by omega)).mpr h9)
                                            obtain ⟨k265p, rfl⟩ : ∃ j, k265 = j + 1 := ⟨k265 - 1, by omega⟩
                                            rw [nI_pred] at hl
                                            refine lv_ldc2 (v := (65536)) hx hb hown (hts _ (kz_c mw_709)) zd_N_find_270 ?_
                                            refine lv_topl (fun yl39 h9 => ?_)
                                            obtain rfl : yl39 = kz_lz (65536) := h9.trans (kz_lz_c65536)
                                            refine lv_lload hx hb zd_N_find_273 (lv_at hl 1 rfl) ?_
                                            refine lv_lmul hx hb zd_N_find_275 ?_
                                            refine lv_topl (fun yl40 h9 => ?_)
                                            obtain rfl : yl40 = kz_lz (65536 * (((c37 : Nat) : Int))) := h9.trans (kz_lz_mul _ _)
                                            refine lv_aload_n hx hb zd_N_find_276 rfl (lv_at hl 5 rfl) ?_
                                            refine va_get (D := (dC, dI)) (ci := 4) (v := .ref ms) (C := zR_N) (T := zT_N) (N := 26) hx hb hts (fun w h => kz_c (zi_N w h)) hown hK hdy.1 0 rfl rfl 17 (by decide) (hts _ (kz_c mw_608)) (fun _ h9 => h9) rfl zd_N_find_277 ?_
                                            refine lv_iload hx hb zd_N_find_280 (lv_at hl 0 rfl) ?_
                                            refine va_iald hx hb hK hdy.1 3 0 rfl rfl (vp_in_nI (by omega) (by omega)) zd_N_find_282 ?_
                                            refine lv_topi (fun x41 h9 => ?_)
                                            obtain rfl : x41 = nI (d38 k265p) := h9.trans (kz_dgl d38 (by omega))
                                            have hbx41 := hd_d38 k265p
                                            have hsk : d38 k265p = d33 k265p := hlo k265p (by omega)
                                            have hsl := hfl k265p (by omega)
                                            refine lv_i2l hx hb zd_N_find_283 (kz_lz_i (n := d38 k265p) (by omega)) ?_
                                            refine lv_ladd hx hb zd_N_find_284 ?_
                                            refine lv_topl (fun yl42 h9 => ?_)
                                            obtain rfl : yl42 = kz_lz ((65536 * (((c37 : Nat) : Int))) + (((d38 k265p : Nat) : Int))) := h9.trans (kz_lz_add _ _)
                                            refine lv_topl (fun yl44 h9 => ?_)
                                            obtain ⟨n43, en43, rfl⟩ := kz_toN (e := (65536 * (((c37 : Nat) : Int))) + (((d38 k265p : Nat) : Int))) h9 (by omega)
                                            refine lv_lstore (lv' := [(6, .long (kz_lz (((n43 : Nat) : Int)))), (8, .int (nI (k265p))), (4, .long (kz_lz (((c32 : Nat) : Int)))), (3, .int (nI (k170))), (1, .long (kz_lz (((c21 : Nat) : Int)))), (0, .ref o)]) hx hb zd_N_find_285 hl (by decide) rfl (fun ls hl => ?_)
                                            have hn6 : n43 < 65536 * 65537 := (by omega)
                                            have hq6 : n43 / 65537 < 65536 := (Nat.div_lt_iff_lt_mul (by omega)).mpr hn6
                                            refine lv_aload_n hx hb zd_N_find_287 rfl (lv_at hl 5 rfl) ?_
                                            refine va_get (D := (dC, dI)) (ci := 4) (v := .ref ms) (C := zR_N) (T := zT_N) (N := 26) hx hb hts (fun w h => kz_c (zi_N w h)) hown hK hdy.1 0 rfl rfl 17 (by decide) (hts _ (kz_c mw_608)) (fun _ h9 => h9) rfl zd_N_find_288 ?_
                                            refine lv_iload hx hb zd_N_find_291 (lv_at hl 1 rfl) ?_
                                            refine lv_lload hx hb zd_N_find_293 (lv_at hl 0 rfl) ?_
                                            refine lv_ldc2 (v := (65537)) hx hb hown (hts _ (kz_c mw_710)) zd_N_find_295 ?_
                                            refine lv_topl (fun yl45 h9 => ?_)
                                            obtain rfl : yl45 = kz_lz (65537) := h9.trans (kz_lz_c65537)
                                            refine lv_ldiv hx hb zd_N_find_298 (kz_lz_ne0 (by omega) (by omega)) ?_
                                            refine lv_topl (fun yl46 h9 => ?_)
                                            obtain rfl : yl46 = kz_lz ((((n43 : Nat) : Int)) / 65537) := h9.trans (kz_lz_divz (by omega) (by omega) (by omega) (by omega))
                                            refine lv_l2i hx hb zd_N_find_299 (kz_lz_i32 ((((n43 : Nat) : Int)) / 65537)) ?_
                                            refine va_iast hx hb hK hdy.1 hdy.2.1 hdy.2.2 3 0 rfl rfl (vp_in_nI (by omega) (by omega)) zd_N_find_300 (fun H locs hP hD hS => ?_)
                                            have h9 := kz_dgu d38 (k := k265p) ((((((n43 : Nat) : Int)) / 65537) % 4294967296).toNat) (by omega)
                                            rw [h9] at hP hD
                                            obtain ⟨f47, ef47, hd_f47, hdy⟩ : ∃ f47 : Nat → Nat, f47 = kv_up d38 k265p ((((((n43 : Nat) : Int)) / 65537) % 4294967296).toNat) ∧ (∀ j, f47 j < 4294967296) ∧ kz_dy (dC, dI) vwCl A s.heap H locs [(o, .inr (4, [.int th, .int sta, .ref mt, .ref mn, .ref ml, .ref mc, .ref mh, .ref mk, .ref mp, .ref mm, .ref mb, .ref mw, .ref mr, .ref mx, .ref me, .ref mP, .ref mQ, .ref ms, .int (nI (0)), .int (nI (sz_)), .ref mo, .ref mW, .ref mD, .ref mB, .ref mR, .ref mS])), (mP, .inl (cI, 16, .inl (kz_dg d12))), (mQ, .inl (cI, 16, .inl (kz_dg d14))), (ms, .inl (cI, 18, .inl (kz_dg f47))), (mx, .inl (cI, 32, .inl (kz_dg d16)))] := ⟨_, rfl, kx_up_lt hd_d38 (by omega), hP, hD, hS⟩
                                            refine lv_lload hx hb zd_N_find_301 (lv_at hl 0 rfl) ?_
                                            refine lv_ldc2 (v := (65537)) hx hb hown (hts _ (kz_c mw_710)) zd_N_find_303 ?_
                                            refine lv_topl (fun yl48 h9 => ?_)
                                            obtain rfl : yl48 = kz_lz (65537) := h9.trans (kz_lz_c65537)
                                            refine lv_lrem hx hb zd_N_find_306 (kz_lz_ne0 (by omega) (by omega)) ?_
                                            refine lv_topl (fun yl49 h9 => ?_)
                                            obtain rfl : yl49 = kz_lz ((((n43 : Nat) : Int)) % 65537) := h9.trans (kz_lz_remz (by omega) (by omega) (by omega) (by omega))
                                            refine lv_topl (fun yl51 h9 => ?_)
                                            obtain ⟨n50, en50, rfl⟩ := kz_toN (e := (((n43 : Nat) : Int)) % 65537) h9 (by omega)
                                            refine lv_lstore (lv' := [(6, .long (kz_lz (((n50 : Nat) : Int)))), (8, .int (nI (k265p))), (4, .long (kz_lz (((c32 : Nat) : Int)))), (3, .int (nI (k170))), (1, .long (kz_lz (((c21 : Nat) : Int)))), (0, .ref o)]) hx hb zd_N_find_307 hl (by decide) rfl (fun ls hl => ?_)
                                            refine lv_iinc (v := (nI (k265p) - 1)) (lv' := [(8, .int (nI (k265p) - 1)), (6, .long (kz_lz (((n50 : Nat) : Int)))), (4, .long (kz_lz (((c32 : Nat) : Int)))), (3, .int (nI (k170))), (1, .long (kz_lz (((c21 : Nat) : Int)))), (0, .ref o)]) hx hb zd_N_find_309 hl (k := 1) rfl (kz_m1 _) (by decide) rfl (fun ls hl => ?_)
                                            refine lv_goto (tgt := 265) hx hb zd_N_find_312 (by decide) ?_
                                            have hi9_hr52 : n50 < 65537 := by omega
                                            have hi9_hDv53 : 65537 * kv_hiN 18 f47 (k265p) + n50 = kv_hiN 18 d33 (k265p) := by rw [ef47]; have h7 : ((((n43 : Nat) : Int) / 65537) % 4294967296).toNat = n43 / 65537 := (by omega); have h6 : n50 = n43 % 65537 := (by omega); rw [h7, h6]; exact kv_divStep (by omega) (by rw [← hsk]; omega) hDv
                                            have hi9_hlo54 : ∀ j, j < k265p → f47 j = d33 j := by intro j hj; rw [ef47, kv_up_ne _ _ (by omega)]; exact hlo j (by omega)
                                            have hi9_hfs55 : ∀ j, k265p ≤ j → j < 18 → f47 j < 65536 := by intro j a b; rw [ef47]; unfold kv_up; split; (have h7 : ((((n43 : Nat) : Int) / 65537) % 4294967296).toNat = n43 / 65537 := (by omega); rw [h7]; exact hq6); exact hfs j (by omega) b
                                            exact ih265 k265p (n50) f47 _ _ _ (by omega) (by omega) hd_f47 hi9_hr52 hi9_hDv53 hi9_hlo54 hi9_hfs55 hdy (lv_sub hl [0, 1, 2, 3, 4, 5] rfl)
                                      have hi9_hr56 : n35 < 65537 := by omega
                                      have hi9_hDv57 : 65537 * kv_hiN 18 d33 (18) + n35 = kv_hiN 18 d33 (18) := by have h0 : n35 = 0 := (by omega); rw [h0, kv_hiN_top]
                                      have hi9_hlo58 : ∀ j, j < 18 → d33 j = d33 j := by exact fun _ _ => rfl
                                      have hi9_hfs59 : ∀ j, 18 ≤ j → j < 18 → d33 j < 65536 := by intro j a b; omega
                                      exact lp265 (18 + 1) 18 (n35) d33 _ _ _ (by omega) (by omega) hd_d33 hi9_hr56 hi9_hDv57 hi9_hlo58 hi9_hfs59 hdy (lv_sub hl [0, 1, 2, 3, 4, 5] rfl)
                                    · have hc201 : ¬ 18 ≤ k197 := fun h9 => hc201 ((nI_leI (by omega) (by omega)).mpr h9)
                                      refine lv_lload hx hb zd_N_find_204 (lv_at hl 1 rfl) ?_
                                      refine lv_iload hx hb zd_N_find_206 (lv_at hl 0 rfl) ?_
                                      refine lv_bipush (v := (nI (16))) hx hb zd_N_find_208 (by decide) ?_
                                      refine lv_icmp_ge (tgt := 227) hx hb zd_N_find_210 (by decide) (fun hc210 => ?_) (fun hc210 => ?_)
                                      · have hc210 : 16 ≤ k197 := (nI_leI (by omega) (by omega)).mp hc210
                                        refine lv_lconst (v := 0) hx hb zd_N_find_227 (by decide) ?_
                                        refine lv_topl (fun yl60 h9 => ?_)
                                        obtain rfl : yl60 = kz_lz (0) := h9.trans (kz_lz_c0)
                                        refine lv_ladd hx hb zd_N_find_228 ?_
                                        refine lv_topl (fun yl61 h9 => ?_)
                                        obtain rfl : yl61 = kz_lz ((((c32 : Nat) : Int)) + 0) := h9.trans (kz_lz_add _ _)
                                        refine lv_topl (fun yl63 h9 => ?_)
                                        obtain ⟨n62, en62, rfl⟩ := kz_toN (e := (((c32 : Nat) : Int)) + 0) h9 (by omega)
                                        refine lv_lstore (lv' := [(4, .long (kz_lz (((n62 : Nat) : Int)))), (6, .int (nI (k197))), (3, .int (nI (k170))), (1, .long (kz_lz (((c21 : Nat) : Int)))), (0, .ref o)]) hx hb zd_N_find_229 hl (by decide) rfl (fun ls hl => ?_)
                                        refine lv_aload_n hx hb zd_N_find_231 rfl (lv_at hl 4 rfl) ?_
                                        refine va_get (D := (dC, dI)) (ci := 4) (v := .ref ms) (C := zR_N) (T := zT_N) (N := 26) hx hb hts (fun w h => kz_c (zi_N w h)) hown hK hdy.1 0 rfl rfl 17 (by decide) (hts _ (kz_c mw_608)) (fun _ h9 => h9) rfl zd_N_find_232 ?_
                                        refine lv_iload hx hb zd_N_find_235 (lv_at hl 1 rfl) ?_
                                        refine lv_lload hx hb zd_N_find_237 (lv_at hl 0 rfl) ?_
                                        refine lv_ldc2 (v := (65535)) hx hb hown (hts _ (kz_c mw_708)) zd_N_find_239 ?_
                                        refine lv_topl (fun yl64 h9 => ?_)
                                        obtain rfl : yl64 = kz_lz (65535) := h9.trans (kz_lz_c65535)
                                        refine lv_land hx hb zd_N_find_242 ?_
                                        refine lv_topl (fun yl65 h9 => ?_)
                                        obtain rfl : yl65 = kz_lz ((((n62 : Nat) : Int)) % 65536) := h9.trans (kz_lz_andz _)
                                        refine lv_l2i hx hb zd_N_find_243 (kz_lz_i32 ((((n62 : Nat) : Int)) % 65536)) ?_
                                        refine va_iast hx hb hK hdy.1 hdy.2.1 hdy.2.2 3 0 rfl rfl (vp_in_nI (by omega) (by omega)) zd_N_find_244 (fun H locs hP hD hS => ?_)
                                        have h9 := kz_dgu d33 (k := k197) ((((((n62 : Nat) : Int)) % 65536) % 4294967296).toNat) (by omega)
                                        rw [h9] at hP hD
                                        obtain ⟨f66, ef66, hd_f66, hdy⟩ : ∃ f66 : Nat → Nat, f66 = kv_up d33 k197 ((((((n62 : Nat) : Int)) % 65536) % 4294967296).toNat) ∧ (∀ j, f66 j < 4294967296) ∧ kz_dy (dC, dI) vwCl A s.heap H locs [(o, .inr (4, [.int th, .int sta, .ref mt, .ref mn, .ref ml, .ref mc, .ref mh, .ref mk, .ref mp, .ref mm, .ref mb, .ref mw, .ref mr, .ref mx, .ref me, .ref mP, .ref mQ, .ref ms, .int (nI (0)), .int (nI (sz_)), .ref mo, .ref mW, .ref mD, .ref mB, .ref mR, .ref mS])), (mP, .inl (cI, 16, .inl (kz_dg d12))), (mQ, .inl (cI, 16, .inl (kz_dg d14))), (ms, .inl (cI, 18, .inl (kz_dg f66))), (mx, .inl (cI, 32, .inl (kz_dg d16)))] := ⟨_, rfl, kx_up_lt hd_d33 (by omega), hP, hD, hS⟩
                                        refine lv_lload hx hb zd_N_find_245 (lv_at hl 0 rfl) ?_
                                        refine lv_bipush (v := (nI (16))) hx hb zd_N_find_247 (by decide) ?_
                                        refine lv_lshr hx hb zd_N_find_249 (kz_lz_shr (z := (((n62 : Nat) : Int))) (by omega) (by omega)) ?_
                                        refine lv_topl (fun yl68 h9 => ?_)
                                        obtain ⟨n67, en67, rfl⟩ := kz_toN (e := (((n62 : Nat) : Int)) / 65536) h9 (by omega)
                                        refine lv_lstore (lv' := [(4, .long (kz_lz (((n67 : Nat) : Int)))), (6, .int (nI (k197))), (3, .int (nI (k170))), (1, .long (kz_lz (((c21 : Nat) : Int)))), (0, .ref o)]) hx hb zd_N_find_250 hl (by decide) rfl (fun ls hl => ?_)
                                        refine lv_iinc (v := (nI (k197 + 1))) (lv' := [(6, .int (nI (k197 + 1))), (4, .long (kz_lz (((n67 : Nat) : Int)))), (3, .int (nI (k170))), (1, .long (kz_lz (((c21 : Nat) : Int)))), (0, .ref o)]) hx hb zd_N_find_252 hl (k := 1) rfl (nI_1 _) (by decide) rfl (fun ls hl => ?_)
                                        refine lv_goto (tgt := 197) hx hb zd_N_find_255 (by decide) ?_
                                        have hi9_hcb69 : n67 < 262144 := by omega
                                        have hi9_hI70 : kv_val f66 (k197 + 1) + n67 * 65536 ^ (k197 + 1) = 1 + k170 * kv_val (kv_m18 d16) (k197 + 1) := by rw [ef66]; have h7 : ((((n62 : Nat) : Int) % 65536) % 4294967296).toNat = n62 % 65536 := (by omega); have h6 : n67 = n62 / 65536 := (by omega); rw [h7, h6]; exact kv_carry (by unfold kv_m18; first | (rw [if_pos (by omega), ← hm7]; omega) | (rw [if_neg (by omega)]; omega)) hI
                                        have hi9_hfl71 : ∀ j, j < k197 + 1 → f66 j < 65536 := by intro j hj; rw [ef66]; unfold kv_up; split; omega; exact hfl j (by omega)
                                        exact ih197 (k197 + 1) (n67) f66 _ _ _ (by omega) (by omega) hd_f66 hi9_hcb69 hi9_hI70 hi9_hfl71 hdy (lv_sub hl [0, 1, 2, 3, 4] rfl)
                                      · have hc210 : ¬ 16 ≤ k197 := fun h9 => hc210 ((nI_leI (by omega) (by omega)).mpr h9)
                                        obtain ⟨m9, hm7⟩ : ∃ m : Nat, m = k170 * d16 k197 := ⟨_, rfl⟩
                                        have hm9 : m9 ≤ 65536 * 65535 := (by rw [hm7]; exact Nat.mul_le_mul (by omega) (by have h9 := hd_d16 k197; omega))
                                        have hm8 : ((k170 : Nat) : Int) * ((d16 k197 : Nat) : Int) = (m9 : Int) := (by rw [hm7, Int.natCast_mul])
                                        refine lv_iload_n hx hb zd_N_find_213 rfl (lv_at hl 2 rfl) ?_
                                        refine lv_i2l hx hb zd_N_find_214 (kz_lz_i (n := k170) (by omega)) ?_
                                        refine lv_aload_n hx hb zd_N_find_215 rfl (lv_at hl 4 rfl) ?_
                                        refine va_get (D := (dC, dI)) (ci := 4) (v := .ref mx) (C := zR_N) (T := zT_N) (N := 26) hx hb hts (fun w h => kz_c (zi_N w h)) hown hK hdy.1 0 rfl rfl 13 (by decide) (hts _ (kz_c mw_604)) (fun _ h9 => h9) rfl zd_N_find_216 ?_
                                        refine lv_iload hx hb zd_N_find_219 (lv_at hl 0 rfl) ?_
                                        refine va_iald hx hb hK hdy.1 4 0 rfl rfl (vp_in_nI (by omega) (by omega)) zd_N_find_221 ?_
                                        refine lv_topi (fun x72 h9 => ?_)
                                        obtain rfl : x72 = nI (d16 k197) := h9.trans (kz_dgl d16 (by omega))
                                        have hbx72 := hd_d16 k197
                                        refine lv_i2l hx hb zd_N_find_222 (kz_lz_i (n := d16 k197) (by omega)) ?_
                                        refine lv_lmul hx hb zd_N_find_223 ?_
                                        refine lv_topl (fun yl73 h9 => ?_)
                                        obtain rfl : yl73 = kz_lz ((((k170 : Nat) : Int)) * (((d16 k197 : Nat) : Int))) := h9.trans (kz_lz_mul _ _)
                                        refine lv_goto (tgt := 228) hx hb zd_N_find_224 (by decide) ?_
                                        refine lv_ladd hx hb zd_N_find_228 ?_
                                        refine lv_topl (fun yl74 h9 => ?_)
                                        obtain rfl : yl74 = kz_lz ((((c32 : Nat) : Int)) + ((((k170 : Nat) : Int)) * (((d16 k197 : Nat) : Int)))) := h9.trans (kz_lz_add _ _)
                                        refine lv_topl (fun yl76 h9 => ?_)
                                        obtain ⟨n75, en75, rfl⟩ := kz_toN (e := (((c32 : Nat) : Int)) + ((((k170 : Nat) : Int)) * (((d16 k197 : Nat) : Int)))) h9 (by omega)
                                        refine lv_lstore (lv' := [(4, .long (kz_lz (((n75 : Nat) : Int)))), (6, .int (nI (k197))), (3, .int (nI (k170))), (1, .long (kz_lz (((c21 : Nat) : Int)))), (0, .ref o)]) hx hb zd_N_find_229 hl (by decide) rfl (fun ls hl => ?_)
                                        refine lv_aload_n hx hb zd_N_find_231 rfl (lv_at hl 4 rfl) ?_
                                        refine va_get (D := (dC, dI)) (ci := 4) (v := .ref ms) (C := zR_N) (T := zT_N) (N := 26) hx hb hts (fun w h => kz_c (zi_N w h)) hown hK hdy.1 0 rfl rfl 17 (by decide) (hts _ (kz_c mw_608)) (fun _ h9 => h9) rfl zd_N_find_232 ?_
                                        refine lv_iload hx hb zd_N_find_235 (lv_at hl 1 rfl) ?_
                                        refine lv_lload hx hb zd_N_find_237 (lv_at hl 0 rfl) ?_
                                        refine lv_ldc2 (v := (65535)) hx hb hown (hts _ (kz_c mw_708)) zd_N_find_239 ?_
                                        refine lv_topl (fun yl77 h9 => ?_)
                                        obtain rfl : yl77 = kz_lz (65535) := h9.trans (kz_lz_c65535)
                                        refine lv_land hx hb zd_N_find_242 ?_
                                        refine lv_topl (fun yl78 h9 => ?_)
                                        obtain rfl : yl78 = kz_lz ((((n75 : Nat) : Int)) % 65536) := h9.trans (kz_lz_andz _)
                                        refine lv_l2i hx hb zd_N_find_243 (kz_lz_i32 ((((n75 : Nat) : Int)) % 65536)) ?_
                                        refine va_iast hx hb hK hdy.1 hdy.2.1 hdy.2.2 3 0 rfl rfl (vp_in_nI (by omega) (by omega)) zd_N_find_244 (fun H locs hP hD hS => ?_)
                                        have h9 := kz_dgu d33 (k := k197) ((((((n75 : Nat) : Int)) % 65536) % 4294967296).toNat) (by omega)
                                        rw [h9] at hP hD
                                        obtain ⟨f79, ef79, hd_f79, hdy⟩ : ∃ f79 : Nat → Nat, f79 = kv_up d33 k197 ((((((n75 : Nat) : Int)) % 65536) % 4294967296).toNat) ∧ (∀ j, f79 j < 4294967296) ∧ kz_dy (dC, dI) vwCl A s.heap H locs [(o, .inr (4, [.int th, .int sta, .ref mt, .ref mn, .ref ml, .ref mc, .ref mh, .ref mk, .ref mp, .ref mm, .ref mb, .ref mw, .ref mr, .ref mx, .ref me, .ref mP, .ref mQ, .ref ms, .int (nI (0)), .int (nI (sz_)), .ref mo, .ref mW, .ref mD, .ref mB, .ref mR, .ref mS])), (mP, .inl (cI, 16, .inl (kz_dg d12))), (mQ, .inl (cI, 16, .inl (kz_dg d14))), (ms, .inl (cI, 18, .inl (kz_dg f79))), (mx, .inl (cI, 32, .inl (kz_dg d16)))] := ⟨_, rfl, kx_up_lt hd_d33 (by omega), hP, hD, hS⟩
                                        refine lv_lload hx hb zd_N_find_245 (lv_at hl 0 rfl) ?_
                                        refine lv_bipush (v := (nI (16))) hx hb zd_N_find_247 (by decide) ?_
                                        refine lv_lshr hx hb zd_N_find_249 (kz_lz_shr (z := (((n75 : Nat) : Int))) (by omega) (by omega)) ?_
                                        refine lv_topl (fun yl81 h9 => ?_)
                                        obtain ⟨n80, en80, rfl⟩ := kz_toN (e := (((n75 : Nat) : Int)) / 65536) h9 (by omega)
                                        refine lv_lstore (lv' := [(4, .long (kz_lz (((n80 : Nat) : Int)))), (6, .int (nI (k197))), (3, .int (nI (k170))), (1, .long (kz_lz (((c21 : Nat) : Int)))), (0, .ref o)]) hx hb zd_N_find_250 hl (by decide) rfl (fun ls hl => ?_)
                                        refine lv_iinc (v := (nI (k197 + 1))) (lv' := [(6, .int (nI (k197 + 1))), (4, .long (kz_lz (((n80 : Nat) : Int)))), (3, .int (nI (k170))), (1, .long (kz_lz (((c21 : Nat) : Int)))), (0, .ref o)]) hx hb zd_N_find_252 hl (k := 1) rfl (nI_1 _) (by decide) rfl (fun ls hl => ?_)
                                        refine lv_goto (tgt := 197) hx hb zd_N_find_255 (by decide) ?_
                                        have hi9_hcb82 : n80 < 262144 := by omega
                                        have hi9_hI83 : kv_val f79 (k197 + 1) + n80 * 65536 ^ (k197 + 1) = 1 + k170 * kv_val (kv_m18 d16) (k197 + 1) := by rw [ef79]; have h7 : ((((n75 : Nat) : Int) % 65536) % 4294967296).toNat = n75 % 65536 := (by omega); have h6 : n80 = n75 / 65536 := (by omega); rw [h7, h6]; exact kv_carry (by unfold kv_m18; first | (rw [if_pos (by omega), ← hm7]; omega) | (rw [if_neg (by omega)]; omega)) hI
                                        have hi9_hfl84 : ∀ j, j < k197 + 1 → f79 j < 65536 := by intro j hj; rw [ef79]; unfold kv_up; split; omega; exact hfl j (by omega)
                                        exact ih197 (k197 + 1) (n80) f79 _ _ _ (by omega) (by omega) hd_f79 hi9_hcb82 hi9_hI83 hi9_hfl84 hdy (lv_sub hl [0, 1, 2, 3, 4] rfl)
                                have hi9_hcb85 : n30 < 262144 := by omega
                                have hi9_hI86 : kv_val d7 (0) + n30 * 65536 ^ (0) = 1 + k170 * kv_val (kv_m18 d16) (0) := by have h0 : n30 = 1 := (by omega); rw [h0]; show 0 + 1 * 1 = 1 + _ * 0; omega
                                have hi9_hfl87 : ∀ j, j < 0 → d7 j < 65536 := by intro j hj; omega
                                exact lp197 (18 - 0 + 1) 0 (n30) d7 _ _ _ (by omega) (by omega) hd_d7 hi9_hcb85 hi9_hI86 hi9_hfl87 hdy (lv_sub hl [0, 1, 2, 3, 4] rfl)
                              · have hc182 : ¬ ((1 + ((((k170 : Nat) : Int)) * (((c21 : Nat) : Int)))) % 65537) = 0 := fun h9 => hc182 ((kz_lz_eq (by omega) (by omega) (by omega) (by omega)).mpr h9)
                                have hne : k170 ≠ x9 := fun q => hc182 (by rw [q]; exact hx7)
                                refine lv_iinc (v := (nI (k170 + 1))) (lv' := [(3, .int (nI (k170 + 1))), (1, .long (kz_lz (((c21 : Nat) : Int)))), (0, .ref o)]) hx hb zd_N_find_185 hl (k := 0) rfl (nI_1 _) (by decide) rfl (fun ls hl => ?_)
                                refine lv_goto (tgt := 170) hx hb zd_N_find_188 (by decide) ?_
                                exact ih170 (k170 + 1) _ _ _ (by omega) (by omega) hdy (lv_sub hl [0, 1, 2] rfl)
                          exact lp170 (x9 - 0 + 1) 0 _ _ _ (by omega) (by omega) hdy (lv_sub hl [0, 1, 2] rfl)
                        · have hc164 : (((c21 : Nat) : Int)) = 0 := (kz_lz_eq (by omega) (by omega) (by omega) (by omega)).mp hc164
                          exact kz_vret F ((nI (0)), d12, d14, d7, d16) hdy (⟨hd_d12, hd_d14, hd_d7, hd_d16, by exact Or.inl ⟨rfl, fun h9 => h9.2.2 (by rw [← hpe]; omega)⟩, by intro h; exact absurd (show nI 0 = 1 from h) (by decide), trivial⟩) zd_N_find_167
                      · have hc134 : ¬ k133 = 0 := fun h9 => hc134 ((kz_neg (by omega)).mpr h9)
                        obtain ⟨k133p, rfl⟩ : ∃ j, k133 = j + 1 := ⟨k133 - 1, by omega⟩
                        rw [nI_pred] at hl
                        refine lv_ldc2 (v := (65536)) hx hb hown (hts _ (kz_c mw_709)) zd_N_find_137 ?_
                        refine lv_topl (fun yl88 h9 => ?_)
                        obtain rfl : yl88 = kz_lz (65536) := h9.trans (kz_lz_c65536)
                        refine lv_lload_n hx hb zd_N_find_140 rfl (lv_at hl 1 rfl) ?_
                        refine lv_lmul hx hb zd_N_find_141 ?_
                        refine lv_topl (fun yl89 h9 => ?_)
                        obtain rfl : yl89 = kz_lz (65536 * (((c21 : Nat) : Int))) := h9.trans (kz_lz_mul _ _)
                        refine lv_aload_n hx hb zd_N_find_142 rfl (lv_at hl 2 rfl) ?_
                        refine va_get (D := (dC, dI)) (ci := 4) (v := .ref mx) (C := zR_N) (T := zT_N) (N := 26) hx hb hts (fun w h => kz_c (zi_N w h)) hown hK hdy.1 0 rfl rfl 13 (by decide) (hts _ (kz_c mw_604)) (fun _ h9 => h9) rfl zd_N_find_143 ?_
                        refine lv_iload_n hx hb zd_N_find_146 rfl (lv_at hl 0 rfl) ?_
                        refine va_iald hx hb hK hdy.1 4 0 rfl rfl (vp_in_nI (by omega) (by omega)) zd_N_find_147 ?_
                        refine lv_topi (fun x90 h9 => ?_)
                        obtain rfl : x90 = nI (d16 k133p) := h9.trans (kz_dgl d16 (by omega))
                        have hbx90 := hd_d16 k133p
                        refine lv_i2l hx hb zd_N_find_148 (kz_lz_i (n := d16 k133p) (by omega)) ?_
                        refine lv_ladd hx hb zd_N_find_149 ?_
                        refine lv_topl (fun yl91 h9 => ?_)
                        obtain rfl : yl91 = kz_lz ((65536 * (((c21 : Nat) : Int))) + (((d16 k133p : Nat) : Int))) := h9.trans (kz_lz_add _ _)
                        refine lv_ldc2 (v := (65537)) hx hb hown (hts _ (kz_c mw_710)) zd_N_find_150 ?_
                        refine lv_topl (fun yl92 h9 => ?_)
                        obtain rfl : yl92 = kz_lz (65537) := h9.trans (kz_lz_c65537)
                        refine lv_lrem hx hb zd_N_find_153 (kz_lz_ne0 (by omega) (by omega)) ?_
                        refine lv_topl (fun yl93 h9 => ?_)
                        obtain rfl : yl93 = kz_lz (((65536 * (((c21 : Nat) : Int))) + (((d16 k133p : Nat) : Int))) % 65537) := h9.trans (kz_lz_remz (by omega) (by omega) (by omega) (by omega))
                        refine lv_topl (fun yl95 h9 => ?_)
                        obtain ⟨n94, en94, rfl⟩ := kz_toN (e := ((65536 * (((c21 : Nat) : Int))) + (((d16 k133p : Nat) : Int))) % 65537) h9 (by omega)
                        refine lv_lstore_n (lv' := [(1, .long (kz_lz (((n94 : Nat) : Int)))), (3, .int (nI (k133p))), (0, .ref o)]) hx hb zd_N_find_154 rfl hl (by decide) rfl (fun ls hl => ?_)
                        refine lv_iinc (v := (nI (k133p) - 1)) (lv' := [(3, .int (nI (k133p) - 1)), (1, .long (kz_lz (((n94 : Nat) : Int)))), (0, .ref o)]) hx hb zd_N_find_155 hl (k := 1) rfl (kz_m1 _) (by decide) rfl (fun ls hl => ?_)
                        refine lv_goto (tgt := 133) hx hb zd_N_find_158 (by decide) ?_
                        have hi9_hp96 : n94 = kv_hiN 16 d16 (k133p) % 65537 := by rw [← kv_modStep (by omega) hp]; omega
                        exact ih133 k133p (n94) _ _ _ (by omega) (by omega) hi9_hp96 hdy (lv_sub hl [0, 1, 2] rfl)
                  have hi9_hp97 : n19 = kv_hiN 16 d16 (16) % 65537 := by have h0 : n19 = 0 := (by omega); rw [h0, kv_hiN_top]
                  exact lp133 (16 + 1) 16 (n19) _ _ _ (by omega) (by omega) hi9_hp97 hdy (lv_sub hl [0, 1, 2] rfl)
                · exact kz_vret F ((nI (0)), d5, d6, d7, gmx) hdy (⟨hd_d5, hd_d6, hd_d7, hd_gmx, by first | (exact Or.inl ⟨rfl, fun h9 => by have h8 := h9.2.1; rcases q11 with h7 | h7; exact absurd h7.1 hc98; omega⟩) | (exact Or.inl ⟨rfl, fun h9 => by have h8 := h9.1; rcases q9 with h7 | h7; exact absurd h7.1 hc88; omega⟩), by intro h; exact absurd (show nI 0 = 1 from h) (by decide), trivial⟩) zd_N_find_101
            · have hc65 : ¬ 18 ≤ k62 := fun h9 => hc65 ((nI_leI (by omega) (by omega)).mpr h9)
              refine lv_aload_n hx hb zd_N_find_68 rfl (lv_at hl 1 rfl) ?_
              refine va_get (D := (dC, dI)) (ci := 4) (v := .ref ms) (C := zR_N) (T := zT_N) (N := 26) hx hb hts (fun w h => kz_c (zi_N w h)) hown hK hdy.1 0 rfl rfl 17 (by decide) (hts _ (kz_c mw_608)) (fun _ h9 => h9) rfl zd_N_find_69 ?_
              refine lv_iload_n hx hb zd_N_find_72 rfl (lv_at hl 0 rfl) ?_
              refine lv_iconst (v := (nI (0))) hx hb zd_N_find_73 (by decide) ?_
              refine va_iast hx hb hK hdy.1 hdy.2.1 hdy.2.2 3 0 rfl rfl (vp_in_nI (by omega) (by omega)) zd_N_find_74 (fun H locs hP hD hS => ?_)
              have h9 := kz_dgu d7 (k := k62) 0 (by omega)
              rw [h9] at hP hD
              obtain ⟨f98, ef98, hd_f98, hdy⟩ : ∃ f98 : Nat → Nat, f98 = kv_up d7 k62 0 ∧ (∀ j, f98 j < 4294967296) ∧ kz_dy (dC, dI) vwCl A s.heap H locs [(o, .inr (4, [.int th, .int sta, .ref mt, .ref mn, .ref ml, .ref mc, .ref mh, .ref mk, .ref mp, .ref mm, .ref mb, .ref mw, .ref mr, .ref mx, .ref me, .ref mP, .ref mQ, .ref ms, .int (nI (0)), .int (nI (sz_)), .ref mo, .ref mW, .ref mD, .ref mB, .ref mR, .ref mS])), (mP, .inl (cI, 16, .inl (kz_dg d5))), (mQ, .inl (cI, 16, .inl (kz_dg d6))), (ms, .inl (cI, 18, .inl (kz_dg f98))), (mx, .inl (cI, 32, .inl (kz_dg gmx)))] := ⟨_, rfl, kx_up_lt hd_d7 (by omega), hP, hD, hS⟩
              refine lv_iinc (v := (nI (k62 + 1))) (lv' := [(1, .int (nI (k62 + 1))), (0, .ref o)]) hx hb zd_N_find_75 hl (k := 0) rfl (nI_1 _) (by decide) rfl (fun ls hl => ?_)
              refine lv_goto (tgt := 62) hx hb zd_N_find_78 (by decide) ?_
              exact ih62 (k62 + 1) f98 _ _ _ (by omega) (by omega) hd_f98 hdy (lv_sub hl [0, 1] rfl)
        exact lp62 (18 - 0 + 1) 0 gms _ _ _ (by omega) (by omega) hd_gms hdy (lv_sub hl [0, 1] rfl)
      · have hc32 : ¬ 16 ≤ k29 := fun h9 => hc32 ((nI_leI (by omega) (by omega)).mpr h9)
        refine lv_aload_n hx hb zd_N_find_35 rfl (lv_at hl 1 rfl) ?_
        refine va_get (D := (dC, dI)) (ci := 4) (v := .ref mP) (C := zR_N) (T := zT_N) (N := 26) hx hb hts (fun w h => kz_c (zi_N w h)) hown hK hdy.1 0 rfl rfl 15 (by decide) (hts _ (kz_c mw_606)) (fun _ h9 => h9) rfl zd_N_find_36 ?_
        refine lv_iload_n hx hb zd_N_find_39 rfl (lv_at hl 0 rfl) ?_
        refine lv_iconst (v := (nI (0))) hx hb zd_N_find_40 (by decide) ?_
        refine va_iast hx hb hK hdy.1 hdy.2.1 hdy.2.2 1 0 rfl rfl (vp_in_nI (by omega) (by omega)) zd_N_find_41 (fun H locs hP hD hS => ?_)
        have h9 := kz_dgu d5 (k := k29) 0 (by omega)
        rw [h9] at hP hD
        obtain ⟨f99, ef99, hd_f99, hdy⟩ : ∃ f99 : Nat → Nat, f99 = kv_up d5 k29 0 ∧ (∀ j, f99 j < 65536) ∧ kz_dy (dC, dI) vwCl A s.heap H locs [(o, .inr (4, [.int th, .int sta, .ref mt, .ref mn, .ref ml, .ref mc, .ref mh, .ref mk, .ref mp, .ref mm, .ref mb, .ref mw, .ref mr, .ref mx, .ref me, .ref mP, .ref mQ, .ref ms, .int hs, .int (nI (sz_)), .ref mo, .ref mW, .ref mD, .ref mB, .ref mR, .ref mS])), (mP, .inl (cI, 16, .inl (kz_dg f99))), (mQ, .inl (cI, 16, .inl (kz_dg d6))), (ms, .inl (cI, 18, .inl (kz_dg gms))), (mx, .inl (cI, 32, .inl (kz_dg gmx)))] := ⟨_, rfl, kv_up_lt hd_d5 (by omega), hP, hD, hS⟩
        refine lv_aload_n hx hb zd_N_find_42 rfl (lv_at hl 1 rfl) ?_
        refine va_get (D := (dC, dI)) (ci := 4) (v := .ref mQ) (C := zR_N) (T := zT_N) (N := 26) hx hb hts (fun w h => kz_c (zi_N w h)) hown hK hdy.1 0 rfl rfl 16 (by decide) (hts _ (kz_c mw_607)) (fun _ h9 => h9) rfl zd_N_find_43 ?_
        refine lv_iload_n hx hb zd_N_find_46 rfl (lv_at hl 0 rfl) ?_
        refine lv_iconst (v := (nI (0))) hx hb zd_N_find_47 (by decide) ?_
        refine va_iast hx hb hK hdy.1 hdy.2.1 hdy.2.2 2 0 rfl rfl (vp_in_nI (by omega) (by omega)) zd_N_find_48 (fun H locs hP hD hS => ?_)
        have h9 := kz_dgu d6 (k := k29) 0 (by omega)
        rw [h9] at hP hD
        obtain ⟨f100, ef100, hd_f100, hdy⟩ : ∃ f100 : Nat → Nat, f100 = kv_up d6 k29 0 ∧ (∀ j, f100 j < 65536) ∧ kz_dy (dC, dI) vwCl A s.heap H locs [(o, .inr (4, [.int th, .int sta, .ref mt, .ref mn, .ref ml, .ref mc, .ref mh, .ref mk, .ref mp, .ref mm, .ref mb, .ref mw, .ref mr, .ref mx, .ref me, .ref mP, .ref mQ, .ref ms, .int hs, .int (nI (sz_)), .ref mo, .ref mW, .ref mD, .ref mB, .ref mR, .ref mS])), (mP, .inl (cI, 16, .inl (kz_dg f99))), (mQ, .inl (cI, 16, .inl (kz_dg f100))), (ms, .inl (cI, 18, .inl (kz_dg gms))), (mx, .inl (cI, 32, .inl (kz_dg gmx)))] := ⟨_, rfl, kv_up_lt hd_d6 (by omega), hP, hD, hS⟩
        refine lv_iinc (v := (nI (k29 + 1))) (lv' := [(1, .int (nI (k29 + 1))), (0, .ref o)]) hx hb zd_N_find_49 hl (k := 0) rfl (nI_1 _) (by decide) rfl (fun ls hl => ?_)
        refine lv_goto (tgt := 29) hx hb zd_N_find_52 (by decide) ?_
        have hi9_hfp101 : ∀ j, j < 8 → f99 j = kv_fig gmt 16 j := by intro j hj; rw [ef99, kv_up_ne _ _ (by omega)]; exact hfp j hj
        have hi9_hfp0102 : ∀ j, 8 ≤ j → j < k29 + 1 → f99 j = 0 := by intro j a b; rw [ef99]; unfold kv_up; split; rfl; exact hfp0 j a (by omega)
        have hi9_hfq103 : ∀ j, j < 8 → f100 j = kv_fig gmt 24 j := by intro j hj; rw [ef100, kv_up_ne _ _ (by omega)]; exact hfq j hj
        have hi9_hfq0104 : ∀ j, 8 ≤ j → j < k29 + 1 → f100 j = 0 := by intro j a b; rw [ef100]; unfold kv_up; split; rfl; exact hfq0 j a (by omega)
        exact ih29 (k29 + 1) f99 f100 _ _ _ (by omega) (by omega) (by omega) hd_f99 hd_f100 hi9_hfp101 hi9_hfp0102 hi9_hfq103 hi9_hfq0104 hdy (lv_sub hl [0, 1] rfl)
  have hi9_hfp105 : ∀ j, j < 8 → d1 j = kv_fig gmt 16 j := by exact fun j hj => q2 j (by omega)
  have hi9_hfp0106 : ∀ j, 8 ≤ j → j < 8 → d1 j = 0 := by intro j a b; omega
  have hi9_hfq107 : ∀ j, j < 8 → d3 j = kv_fig gmt 24 j := by exact fun j hj => q4 j (by omega)
  have hi9_hfq0108 : ∀ j, 8 ≤ j → j < 8 → d3 j = 0 := by intro j a b; omega
  exact lp29 (16 - 8 + 1) 8 d1 d3 _ _ _ (by omega) (by omega) (by omega) hd_d1 hd_d3 hi9_hfp105 hi9_hfp0106 hi9_hfq107 hi9_hfq0108 hdy (lv_sub hl [0, 1] rfl)

set_option maxHeartbeats 4000000 in
set_option maxRecDepth 100000 in
/-- KeyMeetingModel.isWithin([III)Z -/
theorem c_F_isWithin (l : Launch) (dC : Nat → ClassId) (dI : Nat → Nat → Nat) (cI cAA cB cL : ClassId) (me o mt mn ml mc mh mk mp mm mb mw mr mx mP mQ ms mo mW mD mB mR mS a : Nat) (gme : Nat → Nat) (th : Int32) (sta : Int32) (hs : Int32) (sz_ : Nat) (ga : Nat → Nat) (gmp : Nat → Nat) (sz : Nat) (hd_gme : ∀ j, gme j < 65536) (hd_ga : ∀ j, ga j < 65536) (hd_gmp : ∀ j, gmp j < 65536) : Met l zy_N_isWithin zw_N_isWithin { frames := 1, cells := 0, slots := 0, locals := 22 } (kz_Pc (dC, dI) vwCl [(cI, .int), (cAA, .array .int), (cB, .byte), (cL, .long)] [] [] [.ref o, .ref a, .int (nI (2)), .int (nI (2))] [(me, .inl (cI, 18, .inl (kz_dg gme)))] [(o, .inr (4, [.int th, .int sta, .ref mt, .ref mn, .ref ml, .ref mc, .ref mh, .ref mk, .ref mp, .ref mm, .ref mb, .ref mw, .ref mr, .ref mx, .ref me, .ref mP, .ref mQ, .ref ms, .int hs, .int (nI (sz_)), .ref mo, .ref mW, .ref mD, .ref mB, .ref mR, .ref mS])), (a, .inl (cI, 16, .inl (kz_dg ga))), (mp, .inl (cI, 16, .inl (kz_dg gmp)))] sz) (va_Qi (fun (r : Int32) (u : (Nat → Nat)) => (∀ j, u j < 65536) ∧ (r = 0 ∨ r = 1) ∧ ((r = 1 ∧ 2 ≤ kv_val ga 16 ∧ kv_val ga 16 + 2 ≤ kv_val gmp 16) ∨ (r = 0 ∧ ¬ (2 ≤ kv_val ga 16 ∧ kv_val ga 16 + 2 ≤ kv_val gmp 16))) ∧ True) (kz_B (dC, dI) vwCl (va_A [(me, .inl (cI, 18, .inl (kz_dg gme)))] sz) (fun u : (Nat → Nat) => [(me, .inl (cI, 18, .inl (kz_dg u)))])) (va_A [(me, .inl (cI, 18, .inl (kz_dg gme)))] sz)) 0 0 (va_A [(me, .inl (cI, 18, .inl (kz_dg gme)))] sz) := by
  refine kz_met (y := zy_N_isWithin) (ws := zw_N_isWithin) (av := [.ref o, .ref a, .int (nI (2)), .int (nI (2))]) (sz := sz) (Qc := fun A => va_Qi (fun (r : Int32) (u : (Nat → Nat)) => (∀ j, u j < 65536) ∧ (r = 0 ∨ r = 1) ∧ ((r = 1 ∧ 2 ≤ kv_val ga 16 ∧ kv_val ga 16 + 2 ≤ kv_val gmp 16) ∨ (r = 0 ∧ ¬ (2 ≤ kv_val ga 16 ∧ kv_val ga 16 + 2 ≤ kv_val gmp 16))) ∧ True) (kz_B (dC, dI) vwCl A (fun u : (Nat → Nat) => [(me, .inl (cI, 18, .inl (kz_dg u)))])) A) (cc := zc_N_isWithin) (maxL := 10) (ret := some .boolean) (by decide) rfl (Nat.le_of_ble_eq_true rfl) ?_
  intro p e s m below meth c A ls F hA hdy hK hro hZ hN hl
  obtain ⟨hx, hb, hml, hr, hown, hlocks, hts, hnm⟩ := id F
  have hl : lv_has ls 10 [(0, .ref o), (1, .ref a), (2, .int (nI (2))), (3, .int (nI (2)))] := hl
  refine lv_lconst (v := 0) hx hb zd_N_isWithin_0 (by decide) ?_
  refine lv_topl (fun yl1 h9 => ?_)
  obtain rfl : yl1 = kz_lz (0) := h9.trans (kz_lz_c0)
  refine lv_topl (fun yl3 h9 => ?_)
  obtain ⟨n2, en2, rfl⟩ := kz_toN (e := 0) h9 (by omega)
  refine lv_lstore (lv' := [(4, .long (kz_lz (((n2 : Nat) : Int)))), (0, .ref o), (1, .ref a), (2, .int (nI (2))), (3, .int (nI (2)))]) hx hb zd_N_isWithin_1 hl (by decide) rfl (fun ls hl => ?_)
  refine lv_iconst (v := (nI (0))) hx hb zd_N_isWithin_3 (by decide) ?_
  refine lv_istore (lv' := [(6, .int (nI (0))), (4, .long (kz_lz (((n2 : Nat) : Int)))), (0, .ref o), (1, .ref a), (2, .int (nI (2))), (3, .int (nI (2)))]) hx hb zd_N_isWithin_4 hl (by decide) rfl (fun ls hl => ?_)
  refine lv_bipush (v := (nI (15))) hx hb zd_N_isWithin_6 (by decide) ?_
  refine lv_istore (lv' := [(7, .int (nI (15))), (6, .int (nI (0))), (4, .long (kz_lz (((n2 : Nat) : Int)))), (0, .ref o), (1, .ref a), (2, .int (nI (2))), (3, .int (nI (2)))]) hx hb zd_N_isWithin_8 hl (by decide) rfl (fun ls hl => ?_)
  have lp10 : ∀ (n10 k10 : Nat) (c4 : Nat) (c5 : Nat) (H : Heap) (locs : List Loc) (ls : Array Slot), k10 ≤ 16 → k10 < n10 → (c4 ≤ 1) → (kv_flag (c4) (4294967296 ≤ kv_val ga 16)) → (c4 = 0 → ∀ j, k10 ≤ j → 2 ≤ j → j < 16 → ga j = 0) → (2 ≤ k10 → c5 = 0) → (k10 = 1 → c5 = ga 1) → (k10 = 0 → c5 = 65536 * ga 1 + ga 0) → (c5 < 4294967296) → kz_dy (dC, dI) vwCl A s.heap H locs [(me, .inl (cI, 18, .inl (kz_dg gme)))] → lv_has ls 10 [(7, .int (nI (k10) - 1)), (6, .int (nI (c4))), (4, .long (kz_lz (((c5 : Nat) : Int)))), (0, .ref o), (1, .ref a), (2, .int (nI (2))), (3, .int (nI (2)))] → W p l e { frames := 1, cells := 0, slots := 0, locals := 22 } s m ([.ref o, .ref a, .int (nI (2)), .int (nI (2))] : List Value).toArray below meth c H locs 0 0 (MQ below (va_Qi (fun (r : Int32) (u : (Nat → Nat)) => (∀ j, u j < 65536) ∧ (r = 0 ∨ r = 1) ∧ ((r = 1 ∧ 2 ≤ kv_val ga 16 ∧ kv_val ga 16 + 2 ≤ kv_val gmp 16) ∨ (r = 0 ∧ ¬ (2 ≤ kv_val ga 16 ∧ kv_val ga 16 + 2 ≤ kv_val gmp 16))) ∧ True) (kz_B (dC, dI) vwCl A (fun u : (Nat → Nat) => [(me, .inl (cI, 18, .inl (kz_dg u)))])) A) ([.ref o, .ref a, .int (nI (2)), .int (nI (2))] : List Value).toArray s 0 0 A) (F0 m 10 ls []) := by
    intro n10
    induction n10 with
    | zero => intro k10 c4 c5 H locs ls hi10 hn10; exact absurd hn10 (Nat.not_lt_zero _)
    | succ n10 ih10 =>
      intro k10 c4 c5 H locs ls hi10 hn10 hg1 hgt hgz hs2 hs1 hs0 hsb hdy hl
      refine lv_iload hx hb zd_N_isWithin_10 (lv_at hl 0 rfl) ?_
      refine lv_if_lt (tgt := 71) hx hb zd_N_isWithin_12 (by decide) (fun hc12 => ?_) (fun hc12 => ?_)
      · have hc12 : k10 = 0 := (kz_neg (by omega)).mp hc12
        refine lv_iload hx hb zd_N_isWithin_71 (lv_at hl 1 rfl) ?_
        refine lv_if_ne (tgt := 86) hx hb zd_N_isWithin_73 (by decide) (fun hc73 => ?_) (fun hc73 => ?_)
        · have hc73 : ¬ c4 = 0 := fun h9 => hc73 (by have h8 := (kx_nIeq (by omega) (by omega)).mpr h9; rw [nI_0] at h8; exact h8)
          have h2V : 2 ≤ kv_val ga 16 := by first | (have h8 := kv_flag_of hgt (by omega); omega) | (rw [kv_two (fun j a b => hgz (by omega) j (by omega) a b)]; have h8 := hs0 hc12; omega)
          refine lv_iload_n hx hb zd_N_isWithin_86 rfl (lv_at hl 6 rfl) ?_
          refine lv_i2l hx hb zd_N_isWithin_87 (kz_lz_i (n := 2) (by omega)) ?_
          refine lv_lstore (lv' := [(7, .long (kz_lz (((2 : Nat) : Int)))), (6, .int (nI (c4))), (4, .long (kz_lz (((c5 : Nat) : Int)))), (0, .ref o), (1, .ref a), (2, .int (nI (2))), (3, .int (nI (2)))]) hx hb zd_N_isWithin_88 hl (by decide) rfl (fun ls hl => ?_)
          refine lv_iconst (v := (nI (0))) hx hb zd_N_isWithin_90 (by decide) ?_
          refine lv_istore (lv' := [(9, .int (nI (0))), (7, .long (kz_lz (((2 : Nat) : Int)))), (6, .int (nI (c4))), (4, .long (kz_lz (((c5 : Nat) : Int)))), (0, .ref o), (1, .ref a), (2, .int (nI (2))), (3, .int (nI (2)))]) hx hb zd_N_isWithin_91 hl (by decide) rfl (fun ls hl => ?_)
          have lp93 : ∀ (n93 k93 : Nat) (c6 : Nat) (d7 : Nat → Nat) (H : Heap) (locs : List Loc) (ls : Array Slot), k93 ≤ 16 → 16 - k93 < n93 → (∀ j, d7 j < 65536) → (c6 ≤ 2) → (kv_val d7 (k93) + c6 * 65536 ^ (k93) = 2 + kv_val ga (k93)) → kz_dy (dC, dI) vwCl A s.heap H locs [(me, .inl (cI, 18, .inl (kz_dg d7)))] → lv_has ls 10 [(9, .int (nI (k93))), (7, .long (kz_lz (((c6 : Nat) : Int)))), (6, .int (nI (c4))), (4, .long (kz_lz (((c5 : Nat) : Int)))), (0, .ref o), (1, .ref a), (2, .int (nI (2))), (3, .int (nI (2)))] → W p l e { frames := 1, cells := 0, slots := 0, locals := 22 } s m ([.ref o, .ref a, .int (nI (2)), .int (nI (2))] : List Value).toArray below meth c H locs 0 0 (MQ below (va_Qi (fun (r : Int32) (u : (Nat → Nat)) => (∀ j, u j < 65536) ∧ (r = 0 ∨ r = 1) ∧ ((r = 1 ∧ 2 ≤ kv_val ga 16 ∧ kv_val ga 16 + 2 ≤ kv_val gmp 16) ∨ (r = 0 ∧ ¬ (2 ≤ kv_val ga 16 ∧ kv_val ga 16 + 2 ≤ kv_val gmp 16))) ∧ True) (kz_B (dC, dI) vwCl A (fun u : (Nat → Nat) => [(me, .inl (cI, 18, .inl (kz_dg u)))])) A) ([.ref o, .ref a, .int (nI (2)), .int (nI (2))] : List Value).toArray s 0 0 A) (F0 m 93 ls []) := by
            intro n93
            induction n93 with
            | zero => intro k93; intros; omega
            | succ n93 ih93 =>
              intro k93 c6 d7 H locs ls hi93 hn93 hd_d7 hcb hI hdy hl
              refine lv_iload hx hb zd_N_isWithin_93 (lv_at hl 0 rfl) ?_
              refine lv_bipush (v := (nI (16))) hx hb zd_N_isWithin_95 (by decide) ?_
              refine lv_icmp_ge (tgt := 137) hx hb zd_N_isWithin_97 (by decide) (fun hc97 => ?_) (fun hc97 => ?_)
              · have hc97 : 16 ≤ k93 := (nI_leI (by omega) (by omega)).mp hc97
                have h16 : k93 = 16 := (by omega)
                rw [h16] at hI
                refine lv_lload hx hb zd_N_isWithin_137 (lv_at hl 1 rfl) ?_
                refine lv_lconst (v := 0) hx hb zd_N_isWithin_139 (by decide) ?_
                refine lv_topl (fun yl8 h9 => ?_)
                obtain rfl : yl8 = kz_lz (0) := h9.trans (kz_lz_c0)
                refine kz_lne (tgt := 162) hx hb zd_N_isWithin_140 zd_N_isWithin_141 (by decide) (fun hc141 => ?_) (fun hc141 => ?_)
                · have hc141 : ¬ (((c6 : Nat) : Int)) = 0 := fun h9 => hc141 ((kz_lz_eq (by omega) (by omega) (by omega) (by omega)).mpr h9)
                  refine lv_iconst (v := (nI (0))) hx hb zd_N_isWithin_162 (by decide) ?_
                  exact kz_zret F (d7) hdy (by first | exact Or.inl rfl | exact Or.inr rfl | assumption) (⟨hd_d7, by first | exact Or.inl rfl | exact Or.inr rfl | assumption, by first | exact Or.inr ⟨rfl, fun h9 => kv_over hd_gmp (by omega) hI h9.2⟩ | exact Or.inr ⟨rfl, fun h9 => by have h8 := kv_cmpGt hI hc155; have h7 := h9.2; omega⟩, trivial⟩) zd_N_isWithin_163
                · have hc141 : (((c6 : Nat) : Int)) = 0 := (kz_lz_eq (by omega) (by omega) (by omega) (by omega)).mp hc141
                  refine lv_aload_n hx hb zd_N_isWithin_144 rfl (lv_at hl 4 rfl) ?_
                  refine va_get (D := (dC, dI)) (ci := 4) (v := .ref me) (C := zR_N) (T := zT_N) (N := 26) hx hb hts (fun w h => kz_c (zi_N w h)) hown hK (hro.ob hdy.2.2 (k := 0) rfl) 0 rfl rfl 14 (by decide) (hts _ (kz_c mw_605)) (fun _ h9 => h9) rfl zd_N_isWithin_145 ?_
                  refine lv_aload_n hx hb zd_N_isWithin_148 rfl (lv_at hl 4 rfl) ?_
                  refine va_get (D := (dC, dI)) (ci := 4) (v := .ref mp) (C := zR_N) (T := zT_N) (N := 26) hx hb hts (fun w h => kz_c (zi_N w h)) hown hK (hro.ob hdy.2.2 (k := 0) rfl) 0 rfl rfl 8 (by decide) (hts _ (kz_c mw_599)) (fun _ h9 => h9) rfl zd_N_isWithin_149 ?_
                  refine kz_calli (wk := [(me, .inl (cI, 18, .inl (kz_dg d7)))]) (va_runS (As := [.ref me, .ref mp]) (rest := []) ⟨hx, hb, hml, hown, hts⟩ (c_F_compare18 l dC dI cI cAA cB cL me mp d7 gmp _ hd_d7 hd_gmp) (va_cwS 2 hts (kz_g (kz_mc mw_715 (kz_mc mw_716 (kz_mc mw_43 kz_mn))) mw_717) rfl rfl rfl (by decide +kernel) ⟨Nat.le_of_ble_eq_true rfl, Nat.le_of_ble_eq_true rfl⟩) (kz_preS hdy hA hK hro hZ hN [] (by decide) rfl [(false, 0), (true, 2)] rfl (by decide) [0, 1, 2, 3] rfl (fun _ h => by cases h) (fun _ h => by cases h) rfl) rfl rfl hl.1 rfl (lv_room (Nat.le_of_ble_eq_true rfl)) zd_N_isWithin_152 ⟨Nat.le_of_ble_eq_true rfl, Nat.le_of_ble_eq_true rfl⟩) hdy hA [] [0] rfl rfl (by decide) (by decide) (fun r u H locs hw hdy => ?_)
                  obtain ⟨r9, rfl⟩ : ∃ z, z = r := ⟨_, rfl⟩
                  try dsimp only at hw
                  obtain ⟨q10, -⟩ := hw
                  have hdy : kz_dy (dC, dI) vwCl A s.heap H locs [(me, .inl (cI, 18, .inl (kz_dg d7)))] := hdy.sub [0] (by decide) rfl
                  have hev := kv_even (by omega) hI
                  refine lv_if_gt (tgt := 162) hx hb zd_N_isWithin_155 (by decide) (fun hc155 => ?_) (fun hc155 => ?_)
                  · refine lv_iconst (v := (nI (0))) hx hb zd_N_isWithin_162 (by decide) ?_
                    exact kz_zret F (d7) hdy (by first | exact Or.inl rfl | exact Or.inr rfl | assumption) (⟨hd_d7, by first | exact Or.inl rfl | exact Or.inr rfl | assumption, by first | exact Or.inr ⟨rfl, fun h9 => kv_over hd_gmp (by omega) hI h9.2⟩ | exact Or.inr ⟨rfl, fun h9 => by have h8 := kv_cmpGt q10 hc155; have h7 := h9.2; omega⟩, trivial⟩) zd_N_isWithin_163
                  · refine lv_iconst (v := (nI (1))) hx hb zd_N_isWithin_158 (by decide) ?_
                    refine lv_goto (tgt := 163) hx hb zd_N_isWithin_159 (by decide) ?_
                    exact kz_zret F (d7) hdy (by first | exact Or.inl rfl | exact Or.inr rfl | assumption) (⟨hd_d7, by first | exact Or.inl rfl | exact Or.inr rfl | assumption, by exact Or.inl ⟨rfl, h2V, by have h8 := kv_cmpLe q10 hc155; omega⟩, trivial⟩) zd_N_isWithin_163
              · have hc97 : ¬ 16 ≤ k93 := fun h9 => hc97 ((nI_leI (by omega) (by omega)).mpr h9)
                refine lv_lload hx hb zd_N_isWithin_100 (lv_at hl 1 rfl) ?_
                refine lv_aload_n hx hb zd_N_isWithin_102 rfl (lv_at hl 5 rfl) ?_
                refine lv_iload hx hb zd_N_isWithin_103 (lv_at hl 0 rfl) ?_
                refine kz_riald hx hb hK hro hdy.2.2 1 0 rfl rfl (vp_in_nI (by omega) (by omega)) zd_N_isWithin_105 ?_
                refine lv_topi (fun x11 h9 => ?_)
                obtain rfl : x11 = nI (ga k93) := h9.trans (kz_dgl ga (by omega))
                have hbx11 := hd_ga k93
                refine lv_i2l hx hb zd_N_isWithin_106 (kz_lz_i (n := ga k93) (by omega)) ?_
                refine lv_ladd hx hb zd_N_isWithin_107 ?_
                refine lv_topl (fun yl12 h9 => ?_)
                obtain rfl : yl12 = kz_lz ((((c6 : Nat) : Int)) + (((ga k93 : Nat) : Int))) := h9.trans (kz_lz_add _ _)
                refine lv_topl (fun yl14 h9 => ?_)
                obtain ⟨n13, en13, rfl⟩ := kz_toN (e := (((c6 : Nat) : Int)) + (((ga k93 : Nat) : Int))) h9 (by omega)
                refine lv_lstore (lv' := [(7, .long (kz_lz (((n13 : Nat) : Int)))), (9, .int (nI (k93))), (6, .int (nI (c4))), (4, .long (kz_lz (((c5 : Nat) : Int)))), (0, .ref o), (1, .ref a), (2, .int (nI (2))), (3, .int (nI (2)))]) hx hb zd_N_isWithin_108 hl (by decide) rfl (fun ls hl => ?_)
                refine lv_aload_n hx hb zd_N_isWithin_110 rfl (lv_at hl 4 rfl) ?_
                refine va_get (D := (dC, dI)) (ci := 4) (v := .ref me) (C := zR_N) (T := zT_N) (N := 26) hx hb hts (fun w h => kz_c (zi_N w h)) hown hK (hro.ob hdy.2.2 (k := 0) rfl) 0 rfl rfl 14 (by decide) (hts _ (kz_c mw_605)) (fun _ h9 => h9) rfl zd_N_isWithin_111 ?_
                refine lv_iload hx hb zd_N_isWithin_114 (lv_at hl 1 rfl) ?_
                refine lv_lload hx hb zd_N_isWithin_116 (lv_at hl 0 rfl) ?_
                refine lv_ldc2 (v := (65535)) hx hb hown (hts _ (kz_c mw_708)) zd_N_isWithin_118 ?_
                refine lv_topl (fun yl15 h9 => ?_)
                obtain rfl : yl15 = kz_lz (65535) := h9.trans (kz_lz_c65535)
                refine lv_land hx hb zd_N_isWithin_121 ?_
                refine lv_topl (fun yl16 h9 => ?_)
                obtain rfl : yl16 = kz_lz ((((n13 : Nat) : Int)) % 65536) := h9.trans (kz_lz_andz _)
                refine lv_l2i hx hb zd_N_isWithin_122 (kz_lz_i32 ((((n13 : Nat) : Int)) % 65536)) ?_
                refine va_iast hx hb hK hdy.1 hdy.2.1 hdy.2.2 0 0 rfl rfl (vp_in_nI (by omega) (by omega)) zd_N_isWithin_123 (fun H locs hP hD hS => ?_)
                have h9 := kz_dgu d7 (k := k93) ((((((n13 : Nat) : Int)) % 65536) % 4294967296).toNat) (by omega)
                rw [h9] at hP hD
                obtain ⟨f17, ef17, hd_f17, hdy⟩ : ∃ f17 : Nat → Nat, f17 = kv_up d7 k93 ((((((n13 : Nat) : Int)) % 65536) % 4294967296).toNat) ∧ (∀ j, f17 j < 65536) ∧ kz_dy (dC, dI) vwCl A s.heap H locs [(me, .inl (cI, 18, .inl (kz_dg f17)))] := ⟨_, rfl, kv_up_lt hd_d7 (by omega), hP, hD, hS⟩
                refine lv_lload hx hb zd_N_isWithin_124 (lv_at hl 0 rfl) ?_
                refine lv_bipush (v := (nI (16))) hx hb zd_N_isWithin_126 (by decide) ?_
                refine lv_lshr hx hb zd_N_isWithin_128 (kz_lz_shr (z := (((n13 : Nat) : Int))) (by omega) (by omega)) ?_
                refine lv_topl (fun yl19 h9 => ?_)
                obtain ⟨n18, en18, rfl⟩ := kz_toN (e := (((n13 : Nat) : Int)) / 65536) h9 (by omega)
                refine lv_lstore (lv' := [(7, .long (kz_lz (((n18 : Nat) : Int)))), (9, .int (nI (k93))), (6, .int (nI (c4))), (4, .long (kz_lz (((c5 : Nat) : Int)))), (0, .ref o), (1, .ref a), (2, .int (nI (2))), (3, .int (nI (2)))]) hx hb zd_N_isWithin_129 hl (by decide) rfl (fun ls hl => ?_)
                refine lv_iinc (v := (nI (k93 + 1))) (lv' := [(9, .int (nI (k93 + 1))), (7, .long (kz_lz (((n18 : Nat) : Int)))), (6, .int (nI (c4))), (4, .long (kz_lz (((c5 : Nat) : Int)))), (0, .ref o), (1, .ref a), (2, .int (nI (2))), (3, .int (nI (2)))]) hx hb zd_N_isWithin_131 hl (k := 1) rfl (nI_1 _) (by decide) rfl (fun ls hl => ?_)
                refine lv_goto (tgt := 93) hx hb zd_N_isWithin_134 (by decide) ?_
                have hi9_hcb20 : n18 ≤ 2 := by omega
                have hi9_hI21 : kv_val f17 (k93 + 1) + n18 * 65536 ^ (k93 + 1) = 2 + kv_val ga (k93 + 1) := by rw [ef17]; have h7 : ((((n13 : Nat) : Int) % 65536) % 4294967296).toNat = n13 % 65536 := (by omega); have h6 : n18 = n13 / 65536 := (by omega); rw [h7, h6]; exact kv_addStep (by omega) hI
                exact ih93 (k93 + 1) (n18) f17 _ _ _ (by omega) (by omega) hd_f17 hi9_hcb20 hi9_hI21 hdy (lv_sub hl [0, 1, 2, 3, 4, 5, 6, 7] rfl)
          have hi9_hcb22 : 2 ≤ 2 := by omega
          have hi9_hI23 : kv_val gme (0) + 2 * 65536 ^ (0) = 2 + kv_val ga (0) := by show 0 + 2 * 1 = 2 + 0; rfl
          exact lp93 (16 - 0 + 1) 0 (2) gme _ _ _ (by omega) (by omega) hd_gme hi9_hcb22 hi9_hI23 hdy (lv_sub hl [0, 1, 2, 3, 4, 5, 6, 7] rfl)
        · have hc73 : c4 = 0 := (kx_nIeq (by omega) (by omega)).mp (by rw [nI_0]; exact hc73)
          refine lv_lload hx hb zd_N_isWithin_76 (lv_at hl 2 rfl) ?_
          refine lv_iload_n hx hb zd_N_isWithin_78 rfl (lv_at hl 5 rfl) ?_
          refine lv_i2l hx hb zd_N_isWithin_79 (kz_lz_i (n := 2) (by omega)) ?_
          refine kz_lge (tgt := 86) hx hb zd_N_isWithin_80 zd_N_isWithin_81 (by decide) (fun hc81 => ?_) (fun hc81 => ?_)
          · have hc81 : ¬ (((c5 : Nat) : Int)) < (((2 : Nat) : Int)) := fun h9 => hc81 ((kz_lz_lt (by omega) (by omega) (by omega) (by omega)).mpr h9)
            have h2V : 2 ≤ kv_val ga 16 := by first | (have h8 := kv_flag_of hgt (by omega); omega) | (rw [kv_two (fun j a b => hgz (by omega) j (by omega) a b)]; have h8 := hs0 hc12; omega)
            refine lv_iload_n hx hb zd_N_isWithin_86 rfl (lv_at hl 6 rfl) ?_
            refine lv_i2l hx hb zd_N_isWithin_87 (kz_lz_i (n := 2) (by omega)) ?_
            refine lv_lstore (lv' := [(7, .long (kz_lz (((2 : Nat) : Int)))), (6, .int (nI (c4))), (4, .long (kz_lz (((c5 : Nat) : Int)))), (0, .ref o), (1, .ref a), (2, .int (nI (2))), (3, .int (nI (2)))]) hx hb zd_N_isWithin_88 hl (by decide) rfl (fun ls hl => ?_)
            refine lv_iconst (v := (nI (0))) hx hb zd_N_isWithin_90 (by decide) ?_
            refine lv_istore (lv' := [(9, .int (nI (0))), (7, .long (kz_lz (((2 : Nat) : Int)))), (6, .int (nI (c4))), (4, .long (kz_lz (((c5 : Nat) : Int)))), (0, .ref o), (1, .ref a), (2, .int (nI (2))), (3, .int (nI (2)))]) hx hb zd_N_isWithin_91 hl (by decide) rfl (fun ls hl => ?_)
            have lp93 : ∀ (n93 k93 : Nat) (c24 : Nat) (d25 : Nat → Nat) (H : Heap) (locs : List Loc) (ls : Array Slot), k93 ≤ 16 → 16 - k93 < n93 → (∀ j, d25 j < 65536) → (c24 ≤ 2) → (kv_val d25 (k93) + c24 * 65536 ^ (k93) = 2 + kv_val ga (k93)) → kz_dy (dC, dI) vwCl A s.heap H locs [(me, .inl (cI, 18, .inl (kz_dg d25)))] → lv_has ls 10 [(9, .int (nI (k93))), (7, .long (kz_lz (((c24 : Nat) : Int)))), (6, .int (nI (c4))), (4, .long (kz_lz (((c5 : Nat) : Int)))), (0, .ref o), (1, .ref a), (2, .int (nI (2))), (3, .int (nI (2)))] → W p l e { frames := 1, cells := 0, slots := 0, locals := 22 } s m ([.ref o, .ref a, .int (nI (2)), .int (nI (2))] : List Value).toArray below meth c H locs 0 0 (MQ below (va_Qi (fun (r : Int32) (u : (Nat → Nat)) => (∀ j, u j < 65536) ∧ (r = 0 ∨ r = 1) ∧ ((r = 1 ∧ 2 ≤ kv_val ga 16 ∧ kv_val ga 16 + 2 ≤ kv_val gmp 16) ∨ (r = 0 ∧ ¬ (2 ≤ kv_val ga 16 ∧ kv_val ga 16 + 2 ≤ kv_val gmp 16))) ∧ True) (kz_B (dC, dI) vwCl A (fun u : (Nat → Nat) => [(me, .inl (cI, 18, .inl (kz_dg u)))])) A) ([.ref o, .ref a, .int (nI (2)), .int (nI (2))] : List Value).toArray s 0 0 A) (F0 m 93 ls []) := by
              intro n93
              induction n93 with
              | zero => intro k93; intros; omega
              | succ n93 ih93 =>
                intro k93 c24 d25 H locs ls hi93 hn93 hd_d25 hcb hI hdy hl
                refine lv_iload hx hb zd_N_isWithin_93 (lv_at hl 0 rfl) ?_
                refine lv_bipush (v := (nI (16))) hx hb zd_N_isWithin_95 (by decide) ?_
                refine lv_icmp_ge (tgt := 137) hx hb zd_N_isWithin_97 (by decide) (fun hc97 => ?_) (fun hc97 => ?_)
                · have hc97 : 16 ≤ k93 := (nI_leI (by omega) (by omega)).mp hc97
                  have h16 : k93 = 16 := (by omega)
                  rw [h16] at hI
                  refine lv_lload hx hb zd_N_isWithin_137 (lv_at hl 1 rfl) ?_
                  refine lv_lconst (v := 0) hx hb zd_N_isWithin_139 (by decide) ?_
                  refine lv_topl (fun yl26 h9 => ?_)
                  obtain rfl : yl26 = kz_lz (0) := h9.trans (kz_lz_c0)
                  refine kz_lne (tgt := 162) hx hb zd_N_isWithin_140 zd_N_isWithin_141 (by decide) (fun hc141 => ?_) (fun hc141 => ?_)
                  · have hc141 : ¬ (((c24 : Nat) : Int)) = 0 := fun h9 => hc141 ((kz_lz_eq (by omega) (by omega) (by omega) (by omega)).mpr h9)
                    refine lv_iconst (v := (nI (0))) hx hb zd_N_isWithin_162 (by decide) ?_
                    exact kz_zret F (d25) hdy (by first | exact Or.inl rfl | exact Or.inr rfl | assumption) (⟨hd_d25, by first | exact Or.inl rfl | exact Or.inr rfl | assumption, by first | exact Or.inr ⟨rfl, fun h9 => kv_over hd_gmp (by omega) hI h9.2⟩ | exact Or.inr ⟨rfl, fun h9 => by have h8 := kv_cmpGt q10 hc155; have h7 := h9.2; omega⟩, trivial⟩) zd_N_isWithin_163
                  · have hc141 : (((c24 : Nat) : Int)) = 0 := (kz_lz_eq (by omega) (by omega) (by omega) (by omega)).mp hc141
                    refine lv_aload_n hx hb zd_N_isWithin_144 rfl (lv_at hl 4 rfl) ?_
                    refine va_get (D := (dC, dI)) (ci := 4) (v := .ref me) (C := zR_N) (T := zT_N) (N := 26) hx hb hts (fun w h => kz_c (zi_N w h)) hown hK (hro.ob hdy.2.2 (k := 0) rfl) 0 rfl rfl 14 (by decide) (hts _ (kz_c mw_605)) (fun _ h9 => h9) rfl zd_N_isWithin_145 ?_
                    refine lv_aload_n hx hb zd_N_isWithin_148 rfl (lv_at hl 4 rfl) ?_
                    refine va_get (D := (dC, dI)) (ci := 4) (v := .ref mp) (C := zR_N) (T := zT_N) (N := 26) hx hb hts (fun w h => kz_c (zi_N w h)) hown hK (hro.ob hdy.2.2 (k := 0) rfl) 0 rfl rfl 8 (by decide) (hts _ (kz_c mw_599)) (fun _ h9 => h9) rfl zd_N_isWithin_149 ?_
                    refine kz_calli (wk := [(me, .inl (cI, 18, .inl (kz_dg d25)))]) (va_runS (As := [.ref me, .ref mp]) (rest := []) ⟨hx, hb, hml, hown, hts⟩ (c_F_compare18 l dC dI cI cAA cB cL me mp d25 gmp _ hd_d25 hd_gmp) (va_cwS 2 hts (kz_g (kz_mc mw_715 (kz_mc mw_716 (kz_mc mw_43 kz_mn))) mw_717) rfl rfl rfl (by decide +kernel) ⟨Nat.le_of_ble_eq_true rfl, Nat.le_of_ble_eq_true rfl⟩) (kz_preS hdy hA hK hro hZ hN [] (by decide) rfl [(false, 0), (true, 2)] rfl (by decide) [0, 1, 2, 3] rfl (fun _ h => by cases h) (fun _ h => by cases h) rfl) rfl rfl hl.1 rfl (lv_room (Nat.le_of_ble_eq_true rfl)) zd_N_isWithin_152 ⟨Nat.le_of_ble_eq_true rfl, Nat.le_of_ble_eq_true rfl⟩) hdy hA [] [0] rfl rfl (by decide) (by decide) (fun r u H locs hw hdy => ?_)
                    obtain ⟨r27, rfl⟩ : ∃ z, z = r := ⟨_, rfl⟩
                    try dsimp only at hw
                    obtain ⟨q28, -⟩ := hw
                    have hdy : kz_dy (dC, dI) vwCl A s.heap H locs [(me, .inl (cI, 18, .inl (kz_dg d25)))] := hdy.sub [0] (by decide) rfl
                    have hev := kv_even (by omega) hI
                    refine lv_if_gt (tgt := 162) hx hb zd_N_isWithin_155 (by decide) (fun hc155 => ?_) (fun hc155 => ?_)
                    · refine lv_iconst (v := (nI (0))) hx hb zd_N_isWithin_162 (by decide) ?_
                      exact kz_zret F (d25) hdy (by first | exact Or.inl rfl | exact Or.inr rfl | assumption) (⟨hd_d25, by first | exact Or.inl rfl | exact Or.inr rfl | assumption, by first | exact Or.inr ⟨rfl, fun h9 => kv_over hd_gmp (by omega) hI h9.2⟩ | exact Or.inr ⟨rfl, fun h9 => by have h8 := kv_cmpGt q28 hc155; have h7 := h9.2; omega⟩, trivial⟩) zd_N_isWithin_163
                    · refine lv_iconst (v := (nI (1))) hx hb zd_N_isWithin_158 (by decide) ?_
                      refine lv_goto (tgt := 163) hx hb zd_N_isWithin_159 (by decide) ?_
                      exact kz_zret F (d25) hdy (by first | exact Or.inl rfl | exact Or.inr rfl | assumption) (⟨hd_d25, by first | exact Or.inl rfl | exact Or.inr rfl | assumption, by exact Or.inl ⟨rfl, h2V, by have h8 := kv_cmpLe q28 hc155; omega⟩, trivial⟩) zd_N_isWithin_163
                · have hc97 : ¬ 16 ≤ k93 := fun h9 => hc97 ((nI_leI (by omega) (by omega)).mpr h9)
                  refine lv_lload hx hb zd_N_isWithin_100 (lv_at hl 1 rfl) ?_
                  refine lv_aload_n hx hb zd_N_isWithin_102 rfl (lv_at hl 5 rfl) ?_
                  refine lv_iload hx hb zd_N_isWithin_103 (lv_at hl 0 rfl) ?_
                  refine kz_riald hx hb hK hro hdy.2.2 1 0 rfl rfl (vp_in_nI (by omega) (by omega)) zd_N_isWithin_105 ?_
                  refine lv_topi (fun x29 h9 => ?_)
                  obtain rfl : x29 = nI (ga k93) := h9.trans (kz_dgl ga (by omega))
                  have hbx29 := hd_ga k93
                  refine lv_i2l hx hb zd_N_isWithin_106 (kz_lz_i (n := ga k93) (by omega)) ?_
                  refine lv_ladd hx hb zd_N_isWithin_107 ?_
                  refine lv_topl (fun yl30 h9 => ?_)
                  obtain rfl : yl30 = kz_lz ((((c24 : Nat) : Int)) + (((ga k93 : Nat) : Int))) := h9.trans (kz_lz_add _ _)
                  refine lv_topl (fun yl32 h9 => ?_)
                  obtain ⟨n31, en31, rfl⟩ := kz_toN (e := (((c24 : Nat) : Int)) + (((ga k93 : Nat) : Int))) h9 (by omega)
                  refine lv_lstore (lv' := [(7, .long (kz_lz (((n31 : Nat) : Int)))), (9, .int (nI (k93))), (6, .int (nI (c4))), (4, .long (kz_lz (((c5 : Nat) : Int)))), (0, .ref o), (1, .ref a), (2, .int (nI (2))), (3, .int (nI (2)))]) hx hb zd_N_isWithin_108 hl (by decide) rfl (fun ls hl => ?_)
                  refine lv_aload_n hx hb zd_N_isWithin_110 rfl (lv_at hl 4 rfl) ?_
                  refine va_get (D := (dC, dI)) (ci := 4) (v := .ref me) (C := zR_N) (T := zT_N) (N := 26) hx hb hts (fun w h => kz_c (zi_N w h)) hown hK (hro.ob hdy.2.2 (k := 0) rfl) 0 rfl rfl 14 (by decide) (hts _ (kz_c mw_605)) (fun _ h9 => h9) rfl zd_N_isWithin_111 ?_
                  refine lv_iload hx hb zd_N_isWithin_114 (lv_at hl 1 rfl) ?_
                  refine lv_lload hx hb zd_N_isWithin_116 (lv_at hl 0 rfl) ?_
                  refine lv_ldc2 (v := (65535)) hx hb hown (hts _ (kz_c mw_708)) zd_N_isWithin_118 ?_
                  refine lv_topl (fun yl33 h9 => ?_)
                  obtain rfl : yl33 = kz_lz (65535) := h9.trans (kz_lz_c65535)
                  refine lv_land hx hb zd_N_isWithin_121 ?_
                  refine lv_topl (fun yl34 h9 => ?_)
                  obtain rfl : yl34 = kz_lz ((((n31 : Nat) : Int)) % 65536) := h9.trans (kz_lz_andz _)
                  refine lv_l2i hx hb zd_N_isWithin_122 (kz_lz_i32 ((((n31 : Nat) : Int)) % 65536)) ?_
                  refine va_iast hx hb hK hdy.1 hdy.2.1 hdy.2.2 0 0 rfl rfl (vp_in_nI (by omega) (by omega)) zd_N_isWithin_123 (fun H locs hP hD hS => ?_)
                  have h9 := kz_dgu d25 (k := k93) ((((((n31 : Nat) : Int)) % 65536) % 4294967296).toNat) (by omega)
                  rw [h9] at hP hD
                  obtain ⟨f35, ef35, hd_f35, hdy⟩ : ∃ f35 : Nat → Nat, f35 = kv_up d25 k93 ((((((n31 : Nat) : Int)) % 65536) % 4294967296).toNat) ∧ (∀ j, f35 j < 65536) ∧ kz_dy (dC, dI) vwCl A s.heap H locs [(me, .inl (cI, 18, .inl (kz_dg f35)))] := ⟨_, rfl, kv_up_lt hd_d25 (by omega), hP, hD, hS⟩
                  refine lv_lload hx hb zd_N_isWithin_124 (lv_at hl 0 rfl) ?_
                  refine lv_bipush (v := (nI (16))) hx hb zd_N_isWithin_126 (by decide) ?_
                  refine lv_lshr hx hb zd_N_isWithin_128 (kz_lz_shr (z := (((n31 : Nat) : Int))) (by omega) (by omega)) ?_
                  refine lv_topl (fun yl37 h9 => ?_)
                  obtain ⟨n36, en36, rfl⟩ := kz_toN (e := (((n31 : Nat) : Int)) / 65536) h9 (by omega)
                  refine lv_lstore (lv' := [(7, .long (kz_lz (((n36 : Nat) : Int)))), (9, .int (nI (k93))), (6, .int (nI (c4))), (4, .long (kz_lz (((c5 : Nat) : Int)))), (0, .ref o), (1, .ref a), (2, .int (nI (2))), (3, .int (nI (2)))]) hx hb zd_N_isWithin_129 hl (by decide) rfl (fun ls hl => ?_)
                  refine lv_iinc (v := (nI (k93 + 1))) (lv' := [(9, .int (nI (k93 + 1))), (7, .long (kz_lz (((n36 : Nat) : Int)))), (6, .int (nI (c4))), (4, .long (kz_lz (((c5 : Nat) : Int)))), (0, .ref o), (1, .ref a), (2, .int (nI (2))), (3, .int (nI (2)))]) hx hb zd_N_isWithin_131 hl (k := 1) rfl (nI_1 _) (by decide) rfl (fun ls hl => ?_)
                  refine lv_goto (tgt := 93) hx hb zd_N_isWithin_134 (by decide) ?_
                  have hi9_hcb38 : n36 ≤ 2 := by omega
                  have hi9_hI39 : kv_val f35 (k93 + 1) + n36 * 65536 ^ (k93 + 1) = 2 + kv_val ga (k93 + 1) := by rw [ef35]; have h7 : ((((n31 : Nat) : Int) % 65536) % 4294967296).toNat = n31 % 65536 := (by omega); have h6 : n36 = n31 / 65536 := (by omega); rw [h7, h6]; exact kv_addStep (by omega) hI
                  exact ih93 (k93 + 1) (n36) f35 _ _ _ (by omega) (by omega) hd_f35 hi9_hcb38 hi9_hI39 hdy (lv_sub hl [0, 1, 2, 3, 4, 5, 6, 7] rfl)
            have hi9_hcb40 : 2 ≤ 2 := by omega
            have hi9_hI41 : kv_val gme (0) + 2 * 65536 ^ (0) = 2 + kv_val ga (0) := by show 0 + 2 * 1 = 2 + 0; rfl
            exact lp93 (16 - 0 + 1) 0 (2) gme _ _ _ (by omega) (by omega) hd_gme hi9_hcb40 hi9_hI41 hdy (lv_sub hl [0, 1, 2, 3, 4, 5, 6, 7] rfl)
          · have hc81 : (((c5 : Nat) : Int)) < (((2 : Nat) : Int)) := (kz_lz_lt (by omega) (by omega) (by omega) (by omega)).mp hc81
            refine lv_iconst (v := (nI (0))) hx hb zd_N_isWithin_84 (by decide) ?_
            exact kz_zret F (gme) hdy (by first | exact Or.inl rfl | exact Or.inr rfl | assumption) (⟨hd_gme, by first | exact Or.inl rfl | exact Or.inr rfl | assumption, by exact Or.inr ⟨rfl, fun h9 => by have h8 := h9.1; rw [kv_two (fun j a b => hgz (by omega) j (by omega) a b)] at h8; have h7 := hs0 hc12; omega⟩, trivial⟩) zd_N_isWithin_85
      · have hc12 : ¬ k10 = 0 := fun h9 => hc12 ((kz_neg (by omega)).mpr h9)
        obtain ⟨k10p, rfl⟩ : ∃ j, k10 = j + 1 := ⟨k10 - 1, by omega⟩
        rw [nI_pred] at hl
        refine lv_iload hx hb zd_N_isWithin_15 (lv_at hl 1 rfl) ?_
        refine lv_if_ne (tgt := 33) hx hb zd_N_isWithin_17 (by decide) (fun hc17 => ?_) (fun hc17 => ?_)
        · have hc17 : ¬ c4 = 0 := fun h9 => hc17 (by have h8 := (kx_nIeq (by omega) (by omega)).mpr h9; rw [nI_0] at h8; exact h8)
          refine lv_iconst (v := (nI (1))) hx hb zd_N_isWithin_33 (by decide) ?_
          refine lv_goto (tgt := 38) hx hb zd_N_isWithin_34 (by decide) ?_
          refine lv_istore (lv' := [(6, .int (nI (1))), (7, .int (nI (k10p))), (4, .long (kz_lz (((c5 : Nat) : Int)))), (0, .ref o), (1, .ref a), (2, .int (nI (2))), (3, .int (nI (2)))]) hx hb zd_N_isWithin_38 hl (by decide) rfl (fun ls hl => ?_)
          refine lv_iload hx hb zd_N_isWithin_40 (lv_at hl 1 rfl) ?_
          refine lv_iconst (v := (nI (2))) hx hb zd_N_isWithin_42 (by decide) ?_
          refine lv_icmp_ge (tgt := 61) hx hb zd_N_isWithin_43 (by decide) (fun hc43 => ?_) (fun hc43 => ?_)
          · have hc43 : 2 ≤ k10p := (nI_leI (by omega) (by omega)).mp hc43
            refine lv_lload hx hb zd_N_isWithin_61 (lv_at hl 2 rfl) ?_
            refine lv_topl (fun yl43 h9 => ?_)
            obtain ⟨n42, en42, rfl⟩ := kz_toN (e := ((c5 : Nat) : Int)) h9 (by omega)
            refine lv_lstore (lv' := [(4, .long (kz_lz (((n42 : Nat) : Int)))), (6, .int (nI (1))), (7, .int (nI (k10p))), (0, .ref o), (1, .ref a), (2, .int (nI (2))), (3, .int (nI (2)))]) hx hb zd_N_isWithin_63 hl (by decide) rfl (fun ls hl => ?_)
            refine lv_iinc (v := (nI (k10p) - 1)) (lv' := [(7, .int (nI (k10p) - 1)), (4, .long (kz_lz (((n42 : Nat) : Int)))), (6, .int (nI (1))), (0, .ref o), (1, .ref a), (2, .int (nI (2))), (3, .int (nI (2)))]) hx hb zd_N_isWithin_65 hl (k := 2) rfl (kz_m1 _) (by decide) rfl (fun ls hl => ?_)
            refine lv_goto (tgt := 10) hx hb zd_N_isWithin_68 (by decide) ?_
            have hi9_hg144 : 1 ≤ 1 := by omega
            have hi9_hgt45 : kv_flag (1) (4294967296 ≤ kv_val ga 16) := by first | exact hgt | exact Or.inl rfl | exact Or.inr (kv_flag_of hgt (by omega)) | exact Or.inr (kv_bigW (k := k10p) (by omega) (by omega) (by omega))
            have hi9_hgz46 : 1 = 0 → ∀ j, k10p ≤ j → 2 ≤ j → j < 16 → ga j = 0 := by intro h j a b c; first | (exfalso; omega) | (rcases (by omega : j = k10p ∨ k10p + 1 ≤ j) with h8 | h8; (subst h8; first | omega | (exfalso; omega)); exact hgz (by omega) j h8 b c)
            have hi9_hs247 : 2 ≤ k10p → n42 = 0 := by intro h; have h8 := hs2 (by omega); omega
            have hi9_hs148 : k10p = 1 → n42 = ga 1 := by intro h; have h8 := hs2 (by omega); subst h; omega
            have hi9_hs049 : k10p = 0 → n42 = 65536 * ga 1 + ga 0 := by intro h; have h8 := hs1 (by omega); subst h; omega
            have hi9_hsb50 : n42 < 4294967296 := by have h9 := hd_ga 0; have h8 := hd_ga 1; rcases (by omega : k10p = 0 ∨ k10p = 1 ∨ 2 ≤ k10p) with h | h | h; (have h7 := hs1 (by omega); subst h; omega); (have h7 := hs2 (by omega); subst h; omega); (have h7 := hs2 (by omega); omega)
            exact ih10 k10p (1) (n42) _ _ _ (by omega) (by omega) hi9_hg144 hi9_hgt45 hi9_hgz46 hi9_hs247 hi9_hs148 hi9_hs049 hi9_hsb50 hdy (lv_sub hl [0, 2, 1, 3, 4, 5, 6] rfl)
          · have hc43 : ¬ 2 ≤ k10p := fun h9 => hc43 ((nI_leI (by omega) (by omega)).mpr h9)
            refine lv_ldc2 (v := (65536)) hx hb hown (hts _ (kz_c mw_709)) zd_N_isWithin_46 ?_
            refine lv_topl (fun yl51 h9 => ?_)
            obtain rfl : yl51 = kz_lz (65536) := h9.trans (kz_lz_c65536)
            refine lv_lload hx hb zd_N_isWithin_49 (lv_at hl 2 rfl) ?_
            refine lv_lmul hx hb zd_N_isWithin_51 ?_
            refine lv_topl (fun yl52 h9 => ?_)
            obtain rfl : yl52 = kz_lz (65536 * (((c5 : Nat) : Int))) := h9.trans (kz_lz_mul _ _)
            refine lv_aload_n hx hb zd_N_isWithin_52 rfl (lv_at hl 4 rfl) ?_
            refine lv_iload hx hb zd_N_isWithin_53 (lv_at hl 1 rfl) ?_
            refine kz_riald hx hb hK hro hdy.2.2 1 0 rfl rfl (vp_in_nI (by omega) (by omega)) zd_N_isWithin_55 ?_
            refine lv_topi (fun x53 h9 => ?_)
            obtain rfl : x53 = nI (ga k10p) := h9.trans (kz_dgl ga (by omega))
            have hbx53 := hd_ga k10p
            refine lv_i2l hx hb zd_N_isWithin_56 (kz_lz_i (n := ga k10p) (by omega)) ?_
            refine lv_ladd hx hb zd_N_isWithin_57 ?_
            refine lv_topl (fun yl54 h9 => ?_)
            obtain rfl : yl54 = kz_lz ((65536 * (((c5 : Nat) : Int))) + (((ga k10p : Nat) : Int))) := h9.trans (kz_lz_add _ _)
            refine lv_goto (tgt := 63) hx hb zd_N_isWithin_58 (by decide) ?_
            refine lv_topl (fun yl56 h9 => ?_)
            obtain ⟨n55, en55, rfl⟩ := kz_toN (e := (65536 * (((c5 : Nat) : Int))) + (((ga k10p : Nat) : Int))) h9 (by omega)
            refine lv_lstore (lv' := [(4, .long (kz_lz (((n55 : Nat) : Int)))), (6, .int (nI (1))), (7, .int (nI (k10p))), (0, .ref o), (1, .ref a), (2, .int (nI (2))), (3, .int (nI (2)))]) hx hb zd_N_isWithin_63 hl (by decide) rfl (fun ls hl => ?_)
            refine lv_iinc (v := (nI (k10p) - 1)) (lv' := [(7, .int (nI (k10p) - 1)), (4, .long (kz_lz (((n55 : Nat) : Int)))), (6, .int (nI (1))), (0, .ref o), (1, .ref a), (2, .int (nI (2))), (3, .int (nI (2)))]) hx hb zd_N_isWithin_65 hl (k := 2) rfl (kz_m1 _) (by decide) rfl (fun ls hl => ?_)
            refine lv_goto (tgt := 10) hx hb zd_N_isWithin_68 (by decide) ?_
            have hi9_hg157 : 1 ≤ 1 := by omega
            have hi9_hgt58 : kv_flag (1) (4294967296 ≤ kv_val ga 16) := by first | exact hgt | exact Or.inl rfl | exact Or.inr (kv_flag_of hgt (by omega)) | exact Or.inr (kv_bigW (k := k10p) (by omega) (by omega) (by omega))
            have hi9_hgz59 : 1 = 0 → ∀ j, k10p ≤ j → 2 ≤ j → j < 16 → ga j = 0 := by intro h j a b c; first | (exfalso; omega) | (rcases (by omega : j = k10p ∨ k10p + 1 ≤ j) with h8 | h8; (subst h8; first | omega | (exfalso; omega)); exact hgz (by omega) j h8 b c)
            have hi9_hs260 : 2 ≤ k10p → n55 = 0 := by intro h; have h8 := hs2 (by omega); omega
            have hi9_hs161 : k10p = 1 → n55 = ga 1 := by intro h; have h8 := hs2 (by omega); subst h; omega
            have hi9_hs062 : k10p = 0 → n55 = 65536 * ga 1 + ga 0 := by intro h; have h8 := hs1 (by omega); subst h; omega
            have hi9_hsb63 : n55 < 4294967296 := by have h9 := hd_ga 0; have h8 := hd_ga 1; rcases (by omega : k10p = 0 ∨ k10p = 1 ∨ 2 ≤ k10p) with h | h | h; (have h7 := hs1 (by omega); subst h; omega); (have h7 := hs2 (by omega); subst h; omega); (have h7 := hs2 (by omega); omega)
            exact ih10 k10p (1) (n55) _ _ _ (by omega) (by omega) hi9_hg157 hi9_hgt58 hi9_hgz59 hi9_hs260 hi9_hs161 hi9_hs062 hi9_hsb63 hdy (lv_sub hl [0, 2, 1, 3, 4, 5, 6] rfl)
        · have hc17 : c4 = 0 := (kx_nIeq (by omega) (by omega)).mp (by rw [nI_0]; exact hc17)
          refine lv_iload hx hb zd_N_isWithin_20 (lv_at hl 0 rfl) ?_
          refine lv_iconst (v := (nI (1))) hx hb zd_N_isWithin_22 (by decide) ?_
          refine lv_icmp_le (tgt := 37) hx hb zd_N_isWithin_23 (by decide) (fun hc23 => ?_) (fun hc23 => ?_)
          · have hc23 : k10p ≤ 1 := (nI_leI (by omega) (by omega)).mp hc23
            refine lv_iconst (v := (nI (0))) hx hb zd_N_isWithin_37 (by decide) ?_
            refine lv_istore (lv' := [(6, .int (nI (0))), (7, .int (nI (k10p))), (4, .long (kz_lz (((c5 : Nat) : Int)))), (0, .ref o), (1, .ref a), (2, .int (nI (2))), (3, .int (nI (2)))]) hx hb zd_N_isWithin_38 hl (by decide) rfl (fun ls hl => ?_)
            refine lv_iload hx hb zd_N_isWithin_40 (lv_at hl 1 rfl) ?_
            refine lv_iconst (v := (nI (2))) hx hb zd_N_isWithin_42 (by decide) ?_
            refine lv_icmp_ge (tgt := 61) hx hb zd_N_isWithin_43 (by decide) (fun hc43 => ?_) (fun hc43 => ?_)
            · have hc43 : 2 ≤ k10p := (nI_leI (by omega) (by omega)).mp hc43
              refine lv_lload hx hb zd_N_isWithin_61 (lv_at hl 2 rfl) ?_
              refine lv_topl (fun yl65 h9 => ?_)
              obtain ⟨n64, en64, rfl⟩ := kz_toN (e := ((c5 : Nat) : Int)) h9 (by omega)
              refine lv_lstore (lv' := [(4, .long (kz_lz (((n64 : Nat) : Int)))), (6, .int (nI (0))), (7, .int (nI (k10p))), (0, .ref o), (1, .ref a), (2, .int (nI (2))), (3, .int (nI (2)))]) hx hb zd_N_isWithin_63 hl (by decide) rfl (fun ls hl => ?_)
              refine lv_iinc (v := (nI (k10p) - 1)) (lv' := [(7, .int (nI (k10p) - 1)), (4, .long (kz_lz (((n64 : Nat) : Int)))), (6, .int (nI (0))), (0, .ref o), (1, .ref a), (2, .int (nI (2))), (3, .int (nI (2)))]) hx hb zd_N_isWithin_65 hl (k := 2) rfl (kz_m1 _) (by decide) rfl (fun ls hl => ?_)
              refine lv_goto (tgt := 10) hx hb zd_N_isWithin_68 (by decide) ?_
              have hi9_hg166 : 0 ≤ 1 := by omega
              have hi9_hgt67 : kv_flag (0) (4294967296 ≤ kv_val ga 16) := by first | exact hgt | exact Or.inl rfl | exact Or.inr (kv_flag_of hgt (by omega)) | exact Or.inr (kv_bigW (k := k10p) (by omega) (by omega) (by omega))
              have hi9_hgz68 : 0 = 0 → ∀ j, k10p ≤ j → 2 ≤ j → j < 16 → ga j = 0 := by intro h j a b c; first | (exfalso; omega) | (rcases (by omega : j = k10p ∨ k10p + 1 ≤ j) with h8 | h8; (subst h8; first | omega | (exfalso; omega)); exact hgz (by omega) j h8 b c)
              have hi9_hs269 : 2 ≤ k10p → n64 = 0 := by intro h; have h8 := hs2 (by omega); omega
              have hi9_hs170 : k10p = 1 → n64 = ga 1 := by intro h; have h8 := hs2 (by omega); subst h; omega
              have hi9_hs071 : k10p = 0 → n64 = 65536 * ga 1 + ga 0 := by intro h; have h8 := hs1 (by omega); subst h; omega
              have hi9_hsb72 : n64 < 4294967296 := by have h9 := hd_ga 0; have h8 := hd_ga 1; rcases (by omega : k10p = 0 ∨ k10p = 1 ∨ 2 ≤ k10p) with h | h | h; (have h7 := hs1 (by omega); subst h; omega); (have h7 := hs2 (by omega); subst h; omega); (have h7 := hs2 (by omega); omega)
              exact ih10 k10p (0) (n64) _ _ _ (by omega) (by omega) hi9_hg166 hi9_hgt67 hi9_hgz68 hi9_hs269 hi9_hs170 hi9_hs071 hi9_hsb72 hdy (lv_sub hl [0, 2, 1, 3, 4, 5, 6] rfl)
            · have hc43 : ¬ 2 ≤ k10p := fun h9 => hc43 ((nI_leI (by omega) (by omega)).mpr h9)
              refine lv_ldc2 (v := (65536)) hx hb hown (hts _ (kz_c mw_709)) zd_N_isWithin_46 ?_
              refine lv_topl (fun yl73 h9 => ?_)
              obtain rfl : yl73 = kz_lz (65536) := h9.trans (kz_lz_c65536)
              refine lv_lload hx hb zd_N_isWithin_49 (lv_at hl 2 rfl) ?_
              refine lv_lmul hx hb zd_N_isWithin_51 ?_
              refine lv_topl (fun yl74 h9 => ?_)
              obtain rfl : yl74 = kz_lz (65536 * (((c5 : Nat) : Int))) := h9.trans (kz_lz_mul _ _)
              refine lv_aload_n hx hb zd_N_isWithin_52 rfl (lv_at hl 4 rfl) ?_
              refine lv_iload hx hb zd_N_isWithin_53 (lv_at hl 1 rfl) ?_
              refine kz_riald hx hb hK hro hdy.2.2 1 0 rfl rfl (vp_in_nI (by omega) (by omega)) zd_N_isWithin_55 ?_
              refine lv_topi (fun x75 h9 => ?_)
              obtain rfl : x75 = nI (ga k10p) := h9.trans (kz_dgl ga (by omega))
              have hbx75 := hd_ga k10p
              refine lv_i2l hx hb zd_N_isWithin_56 (kz_lz_i (n := ga k10p) (by omega)) ?_
              refine lv_ladd hx hb zd_N_isWithin_57 ?_
              refine lv_topl (fun yl76 h9 => ?_)
              obtain rfl : yl76 = kz_lz ((65536 * (((c5 : Nat) : Int))) + (((ga k10p : Nat) : Int))) := h9.trans (kz_lz_add _ _)
              refine lv_goto (tgt := 63) hx hb zd_N_isWithin_58 (by decide) ?_
              refine lv_topl (fun yl78 h9 => ?_)
              obtain ⟨n77, en77, rfl⟩ := kz_toN (e := (65536 * (((c5 : Nat) : Int))) + (((ga k10p : Nat) : Int))) h9 (by omega)
              refine lv_lstore (lv' := [(4, .long (kz_lz (((n77 : Nat) : Int)))), (6, .int (nI (0))), (7, .int (nI (k10p))), (0, .ref o), (1, .ref a), (2, .int (nI (2))), (3, .int (nI (2)))]) hx hb zd_N_isWithin_63 hl (by decide) rfl (fun ls hl => ?_)
              refine lv_iinc (v := (nI (k10p) - 1)) (lv' := [(7, .int (nI (k10p) - 1)), (4, .long (kz_lz (((n77 : Nat) : Int)))), (6, .int (nI (0))), (0, .ref o), (1, .ref a), (2, .int (nI (2))), (3, .int (nI (2)))]) hx hb zd_N_isWithin_65 hl (k := 2) rfl (kz_m1 _) (by decide) rfl (fun ls hl => ?_)
              refine lv_goto (tgt := 10) hx hb zd_N_isWithin_68 (by decide) ?_
              have hi9_hg179 : 0 ≤ 1 := by omega
              have hi9_hgt80 : kv_flag (0) (4294967296 ≤ kv_val ga 16) := by first | exact hgt | exact Or.inl rfl | exact Or.inr (kv_flag_of hgt (by omega)) | exact Or.inr (kv_bigW (k := k10p) (by omega) (by omega) (by omega))
              have hi9_hgz81 : 0 = 0 → ∀ j, k10p ≤ j → 2 ≤ j → j < 16 → ga j = 0 := by intro h j a b c; first | (exfalso; omega) | (rcases (by omega : j = k10p ∨ k10p + 1 ≤ j) with h8 | h8; (subst h8; first | omega | (exfalso; omega)); exact hgz (by omega) j h8 b c)
              have hi9_hs282 : 2 ≤ k10p → n77 = 0 := by intro h; have h8 := hs2 (by omega); omega
              have hi9_hs183 : k10p = 1 → n77 = ga 1 := by intro h; have h8 := hs2 (by omega); subst h; omega
              have hi9_hs084 : k10p = 0 → n77 = 65536 * ga 1 + ga 0 := by intro h; have h8 := hs1 (by omega); subst h; omega
              have hi9_hsb85 : n77 < 4294967296 := by have h9 := hd_ga 0; have h8 := hd_ga 1; rcases (by omega : k10p = 0 ∨ k10p = 1 ∨ 2 ≤ k10p) with h | h | h; (have h7 := hs1 (by omega); subst h; omega); (have h7 := hs2 (by omega); subst h; omega); (have h7 := hs2 (by omega); omega)
              exact ih10 k10p (0) (n77) _ _ _ (by omega) (by omega) hi9_hg179 hi9_hgt80 hi9_hgz81 hi9_hs282 hi9_hs183 hi9_hs084 hi9_hsb85 hdy (lv_sub hl [0, 2, 1, 3, 4, 5, 6] rfl)
          · have hc23 : ¬ k10p ≤ 1 := fun h9 => hc23 ((nI_leI (by omega) (by omega)).mpr h9)
            refine lv_aload_n hx hb zd_N_isWithin_26 rfl (lv_at hl 4 rfl) ?_
            refine lv_iload hx hb zd_N_isWithin_27 (lv_at hl 0 rfl) ?_
            refine kz_riald hx hb hK hro hdy.2.2 1 0 rfl rfl (vp_in_nI (by omega) (by omega)) zd_N_isWithin_29 ?_
            refine lv_topi (fun x86 h9 => ?_)
            obtain rfl : x86 = nI (ga k10p) := h9.trans (kz_dgl ga (by omega))
            have hbx86 := hd_ga k10p
            refine lv_if_le (tgt := 37) hx hb zd_N_isWithin_30 (by decide) (fun hc30 => ?_) (fun hc30 => ?_)
            · have hc30 : (ga k10p) ≤ 0 := (nI_leI (by omega) (by omega)).mp (by rw [nI_0]; exact hc30)
              refine lv_iconst (v := (nI (0))) hx hb zd_N_isWithin_37 (by decide) ?_
              refine lv_istore (lv' := [(6, .int (nI (0))), (7, .int (nI (k10p))), (4, .long (kz_lz (((c5 : Nat) : Int)))), (0, .ref o), (1, .ref a), (2, .int (nI (2))), (3, .int (nI (2)))]) hx hb zd_N_isWithin_38 hl (by decide) rfl (fun ls hl => ?_)
              refine lv_iload hx hb zd_N_isWithin_40 (lv_at hl 1 rfl) ?_
              refine lv_iconst (v := (nI (2))) hx hb zd_N_isWithin_42 (by decide) ?_
              refine lv_icmp_ge (tgt := 61) hx hb zd_N_isWithin_43 (by decide) (fun hc43 => ?_) (fun hc43 => ?_)
              · have hc43 : 2 ≤ k10p := (nI_leI (by omega) (by omega)).mp hc43
                refine lv_lload hx hb zd_N_isWithin_61 (lv_at hl 2 rfl) ?_
                refine lv_topl (fun yl88 h9 => ?_)
                obtain ⟨n87, en87, rfl⟩ := kz_toN (e := ((c5 : Nat) : Int)) h9 (by omega)
                refine lv_lstore (lv' := [(4, .long (kz_lz (((n87 : Nat) : Int)))), (6, .int (nI (0))), (7, .int (nI (k10p))), (0, .ref o), (1, .ref a), (2, .int (nI (2))), (3, .int (nI (2)))]) hx hb zd_N_isWithin_63 hl (by decide) rfl (fun ls hl => ?_)
                refine lv_iinc (v := (nI (k10p) - 1)) (lv' := [(7, .int (nI (k10p) - 1)), (4, .long (kz_lz (((n87 : Nat) : Int)))), (6, .int (nI (0))), (0, .ref o), (1, .ref a), (2, .int (nI (2))), (3, .int (nI (2)))]) hx hb zd_N_isWithin_65 hl (k := 2) rfl (kz_m1 _) (by decide) rfl (fun ls hl => ?_)
                refine lv_goto (tgt := 10) hx hb zd_N_isWithin_68 (by decide) ?_
                have hi9_hg189 : 0 ≤ 1 := by omega
                have hi9_hgt90 : kv_flag (0) (4294967296 ≤ kv_val ga 16) := by first | exact hgt | exact Or.inl rfl | exact Or.inr (kv_flag_of hgt (by omega)) | exact Or.inr (kv_bigW (k := k10p) (by omega) (by omega) (by omega))
                have hi9_hgz91 : 0 = 0 → ∀ j, k10p ≤ j → 2 ≤ j → j < 16 → ga j = 0 := by intro h j a b c; first | (exfalso; omega) | (rcases (by omega : j = k10p ∨ k10p + 1 ≤ j) with h8 | h8; (subst h8; first | omega | (exfalso; omega)); exact hgz (by omega) j h8 b c)
                have hi9_hs292 : 2 ≤ k10p → n87 = 0 := by intro h; have h8 := hs2 (by omega); omega
                have hi9_hs193 : k10p = 1 → n87 = ga 1 := by intro h; have h8 := hs2 (by omega); subst h; omega
                have hi9_hs094 : k10p = 0 → n87 = 65536 * ga 1 + ga 0 := by intro h; have h8 := hs1 (by omega); subst h; omega
                have hi9_hsb95 : n87 < 4294967296 := by have h9 := hd_ga 0; have h8 := hd_ga 1; rcases (by omega : k10p = 0 ∨ k10p = 1 ∨ 2 ≤ k10p) with h | h | h; (have h7 := hs1 (by omega); subst h; omega); (have h7 := hs2 (by omega); subst h; omega); (have h7 := hs2 (by omega); omega)
                exact ih10 k10p (0) (n87) _ _ _ (by omega) (by omega) hi9_hg189 hi9_hgt90 hi9_hgz91 hi9_hs292 hi9_hs193 hi9_hs094 hi9_hsb95 hdy (lv_sub hl [0, 2, 1, 3, 4, 5, 6] rfl)
              · have hc43 : ¬ 2 ≤ k10p := fun h9 => hc43 ((nI_leI (by omega) (by omega)).mpr h9)
                refine lv_ldc2 (v := (65536)) hx hb hown (hts _ (kz_c mw_709)) zd_N_isWithin_46 ?_
                refine lv_topl (fun yl96 h9 => ?_)
                obtain rfl : yl96 = kz_lz (65536) := h9.trans (kz_lz_c65536)
                refine lv_lload hx hb zd_N_isWithin_49 (lv_at hl 2 rfl) ?_
                refine lv_lmul hx hb zd_N_isWithin_51 ?_
                refine lv_topl (fun yl97 h9 => ?_)
                obtain rfl : yl97 = kz_lz (65536 * (((c5 : Nat) : Int))) := h9.trans (kz_lz_mul _ _)
                refine lv_aload_n hx hb zd_N_isWithin_52 rfl (lv_at hl 4 rfl) ?_
                refine lv_iload hx hb zd_N_isWithin_53 (lv_at hl 1 rfl) ?_
                refine kz_riald hx hb hK hro hdy.2.2 1 0 rfl rfl (vp_in_nI (by omega) (by omega)) zd_N_isWithin_55 ?_
                refine lv_topi (fun x98 h9 => ?_)
                obtain rfl : x98 = nI (ga k10p) := h9.trans (kz_dgl ga (by omega))
                have hbx98 := hd_ga k10p
                refine lv_i2l hx hb zd_N_isWithin_56 (kz_lz_i (n := ga k10p) (by omega)) ?_
                refine lv_ladd hx hb zd_N_isWithin_57 ?_
                refine lv_topl (fun yl99 h9 => ?_)
                obtain rfl : yl99 = kz_lz ((65536 * (((c5 : Nat) : Int))) + (((ga k10p : Nat) : Int))) := h9.trans (kz_lz_add _ _)
                refine lv_goto (tgt := 63) hx hb zd_N_isWithin_58 (by decide) ?_
                refine lv_topl (fun yl101 h9 => ?_)
                obtain ⟨n100, en100, rfl⟩ := kz_toN (e := (65536 * (((c5 : Nat) : Int))) + (((ga k10p : Nat) : Int))) h9 (by omega)
                refine lv_lstore (lv' := [(4, .long (kz_lz (((n100 : Nat) : Int)))), (6, .int (nI (0))), (7, .int (nI (k10p))), (0, .ref o), (1, .ref a), (2, .int (nI (2))), (3, .int (nI (2)))]) hx hb zd_N_isWithin_63 hl (by decide) rfl (fun ls hl => ?_)
                refine lv_iinc (v := (nI (k10p) - 1)) (lv' := [(7, .int (nI (k10p) - 1)), (4, .long (kz_lz (((n100 : Nat) : Int)))), (6, .int (nI (0))), (0, .ref o), (1, .ref a), (2, .int (nI (2))), (3, .int (nI (2)))]) hx hb zd_N_isWithin_65 hl (k := 2) rfl (kz_m1 _) (by decide) rfl (fun ls hl => ?_)
                refine lv_goto (tgt := 10) hx hb zd_N_isWithin_68 (by decide) ?_
                have hi9_hg1102 : 0 ≤ 1 := by omega
                have hi9_hgt103 : kv_flag (0) (4294967296 ≤ kv_val ga 16) := by first | exact hgt | exact Or.inl rfl | exact Or.inr (kv_flag_of hgt (by omega)) | exact Or.inr (kv_bigW (k := k10p) (by omega) (by omega) (by omega))
                have hi9_hgz104 : 0 = 0 → ∀ j, k10p ≤ j → 2 ≤ j → j < 16 → ga j = 0 := by intro h j a b c; first | (exfalso; omega) | (rcases (by omega : j = k10p ∨ k10p + 1 ≤ j) with h8 | h8; (subst h8; first | omega | (exfalso; omega)); exact hgz (by omega) j h8 b c)
                have hi9_hs2105 : 2 ≤ k10p → n100 = 0 := by intro h; have h8 := hs2 (by omega); omega
                have hi9_hs1106 : k10p = 1 → n100 = ga 1 := by intro h; have h8 := hs2 (by omega); subst h; omega
                have hi9_hs0107 : k10p = 0 → n100 = 65536 * ga 1 + ga 0 := by intro h; have h8 := hs1 (by omega); subst h; omega
                have hi9_hsb108 : n100 < 4294967296 := by have h9 := hd_ga 0; have h8 := hd_ga 1; rcases (by omega : k10p = 0 ∨ k10p = 1 ∨ 2 ≤ k10p) with h | h | h; (have h7 := hs1 (by omega); subst h; omega); (have h7 := hs2 (by omega); subst h; omega); (have h7 := hs2 (by omega); omega)
                exact ih10 k10p (0) (n100) _ _ _ (by omega) (by omega) hi9_hg1102 hi9_hgt103 hi9_hgz104 hi9_hs2105 hi9_hs1106 hi9_hs0107 hi9_hsb108 hdy (lv_sub hl [0, 2, 1, 3, 4, 5, 6] rfl)
            · have hc30 : ¬ (ga k10p) ≤ 0 := fun h9 => hc30 (by have h8 := (nI_leI (by omega) (by omega)).mpr h9; rw [nI_0] at h8; exact h8)
              refine lv_iconst (v := (nI (1))) hx hb zd_N_isWithin_33 (by decide) ?_
              refine lv_goto (tgt := 38) hx hb zd_N_isWithin_34 (by decide) ?_
              refine lv_istore (lv' := [(6, .int (nI (1))), (7, .int (nI (k10p))), (4, .long (kz_lz (((c5 : Nat) : Int)))), (0, .ref o), (1, .ref a), (2, .int (nI (2))), (3, .int (nI (2)))]) hx hb zd_N_isWithin_38 hl (by decide) rfl (fun ls hl => ?_)
              refine lv_iload hx hb zd_N_isWithin_40 (lv_at hl 1 rfl) ?_
              refine lv_iconst (v := (nI (2))) hx hb zd_N_isWithin_42 (by decide) ?_
              refine lv_icmp_ge (tgt := 61) hx hb zd_N_isWithin_43 (by decide) (fun hc43 => ?_) (fun hc43 => ?_)
              · have hc43 : 2 ≤ k10p := (nI_leI (by omega) (by omega)).mp hc43
                refine lv_lload hx hb zd_N_isWithin_61 (lv_at hl 2 rfl) ?_
                refine lv_topl (fun yl110 h9 => ?_)
                obtain ⟨n109, en109, rfl⟩ := kz_toN (e := ((c5 : Nat) : Int)) h9 (by omega)
                refine lv_lstore (lv' := [(4, .long (kz_lz (((n109 : Nat) : Int)))), (6, .int (nI (1))), (7, .int (nI (k10p))), (0, .ref o), (1, .ref a), (2, .int (nI (2))), (3, .int (nI (2)))]) hx hb zd_N_isWithin_63 hl (by decide) rfl (fun ls hl => ?_)
                refine lv_iinc (v := (nI (k10p) - 1)) (lv' := [(7, .int (nI (k10p) - 1)), (4, .long (kz_lz (((n109 : Nat) : Int)))), (6, .int (nI (1))), (0, .ref o), (1, .ref a), (2, .int (nI (2))), (3, .int (nI (2)))]) hx hb zd_N_isWithin_65 hl (k := 2) rfl (kz_m1 _) (by decide) rfl (fun ls hl => ?_)
                refine lv_goto (tgt := 10) hx hb zd_N_isWithin_68 (by decide) ?_
                have hi9_hg1111 : 1 ≤ 1 := by omega
                have hi9_hgt112 : kv_flag (1) (4294967296 ≤ kv_val ga 16) := by first | exact hgt | exact Or.inl rfl | exact Or.inr (kv_flag_of hgt (by omega)) | exact Or.inr (kv_bigW (k := k10p) (by omega) (by omega) (by omega))
                have hi9_hgz113 : 1 = 0 → ∀ j, k10p ≤ j → 2 ≤ j → j < 16 → ga j = 0 := by intro h j a b c; first | (exfalso; omega) | (rcases (by omega : j = k10p ∨ k10p + 1 ≤ j) with h8 | h8; (subst h8; first | omega | (exfalso; omega)); exact hgz (by omega) j h8 b c)
                have hi9_hs2114 : 2 ≤ k10p → n109 = 0 := by intro h; have h8 := hs2 (by omega); omega
                have hi9_hs1115 : k10p = 1 → n109 = ga 1 := by intro h; have h8 := hs2 (by omega); subst h; omega
                have hi9_hs0116 : k10p = 0 → n109 = 65536 * ga 1 + ga 0 := by intro h; have h8 := hs1 (by omega); subst h; omega
                have hi9_hsb117 : n109 < 4294967296 := by have h9 := hd_ga 0; have h8 := hd_ga 1; rcases (by omega : k10p = 0 ∨ k10p = 1 ∨ 2 ≤ k10p) with h | h | h; (have h7 := hs1 (by omega); subst h; omega); (have h7 := hs2 (by omega); subst h; omega); (have h7 := hs2 (by omega); omega)
                exact ih10 k10p (1) (n109) _ _ _ (by omega) (by omega) hi9_hg1111 hi9_hgt112 hi9_hgz113 hi9_hs2114 hi9_hs1115 hi9_hs0116 hi9_hsb117 hdy (lv_sub hl [0, 2, 1, 3, 4, 5, 6] rfl)
              · have hc43 : ¬ 2 ≤ k10p := fun h9 => hc43 ((nI_leI (by omega) (by omega)).mpr h9)
                refine lv_ldc2 (v := (65536)) hx hb hown (hts _ (kz_c mw_709)) zd_N_isWithin_46 ?_
                refine lv_topl (fun yl118 h9 => ?_)
                obtain rfl : yl118 = kz_lz (65536) := h9.trans (kz_lz_c65536)
                refine lv_lload hx hb zd_N_isWithin_49 (lv_at hl 2 rfl) ?_
                refine lv_lmul hx hb zd_N_isWithin_51 ?_
                refine lv_topl (fun yl119 h9 => ?_)
                obtain rfl : yl119 = kz_lz (65536 * (((c5 : Nat) : Int))) := h9.trans (kz_lz_mul _ _)
                refine lv_aload_n hx hb zd_N_isWithin_52 rfl (lv_at hl 4 rfl) ?_
                refine lv_iload hx hb zd_N_isWithin_53 (lv_at hl 1 rfl) ?_
                refine kz_riald hx hb hK hro hdy.2.2 1 0 rfl rfl (vp_in_nI (by omega) (by omega)) zd_N_isWithin_55 ?_
                refine lv_topi (fun x120 h9 => ?_)
                obtain rfl : x120 = nI (ga k10p) := h9.trans (kz_dgl ga (by omega))
                have hbx120 := hd_ga k10p
                refine lv_i2l hx hb zd_N_isWithin_56 (kz_lz_i (n := ga k10p) (by omega)) ?_
                refine lv_ladd hx hb zd_N_isWithin_57 ?_
                refine lv_topl (fun yl121 h9 => ?_)
                obtain rfl : yl121 = kz_lz ((65536 * (((c5 : Nat) : Int))) + (((ga k10p : Nat) : Int))) := h9.trans (kz_lz_add _ _)
                refine lv_goto (tgt := 63) hx hb zd_N_isWithin_58 (by decide) ?_
                refine lv_topl (fun yl123 h9 => ?_)
                obtain ⟨n122, en122, rfl⟩ := kz_toN (e := (65536 * (((c5 : Nat) : Int))) + (((ga k10p : Nat) : Int))) h9 (by omega)
                refine lv_lstore (lv' := [(4, .long (kz_lz (((n122 : Nat) : Int)))), (6, .int (nI (1))), (7, .int (nI (k10p))), (0, .ref o), (1, .ref a), (2, .int (nI (2))), (3, .int (nI (2)))]) hx hb zd_N_isWithin_63 hl (by decide) rfl (fun ls hl => ?_)
                refine lv_iinc (v := (nI (k10p) - 1)) (lv' := [(7, .int (nI (k10p) - 1)), (4, .long (kz_lz (((n122 : Nat) : Int)))), (6, .int (nI (1))), (0, .ref o), (1, .ref a), (2, .int (nI (2))), (3, .int (nI (2)))]) hx hb zd_N_isWithin_65 hl (k := 2) rfl (kz_m1 _) (by decide) rfl (fun ls hl => ?_)
                refine lv_goto (tgt := 10) hx hb zd_N_isWithin_68 (by decide) ?_
                have hi9_hg1124 : 1 ≤ 1 := by omega
                have hi9_hgt125 : kv_flag (1) (4294967296 ≤ kv_val ga 16) := by first | exact hgt | exact Or.inl rfl | exact Or.inr (kv_flag_of hgt (by omega)) | exact Or.inr (kv_bigW (k := k10p) (by omega) (by omega) (by omega))
                have hi9_hgz126 : 1 = 0 → ∀ j, k10p ≤ j → 2 ≤ j → j < 16 → ga j = 0 := by intro h j a b c; first | (exfalso; omega) | (rcases (by omega : j = k10p ∨ k10p + 1 ≤ j) with h8 | h8; (subst h8; first | omega | (exfalso; omega)); exact hgz (by omega) j h8 b c)
                have hi9_hs2127 : 2 ≤ k10p → n122 = 0 := by intro h; have h8 := hs2 (by omega); omega
                have hi9_hs1128 : k10p = 1 → n122 = ga 1 := by intro h; have h8 := hs2 (by omega); subst h; omega
                have hi9_hs0129 : k10p = 0 → n122 = 65536 * ga 1 + ga 0 := by intro h; have h8 := hs1 (by omega); subst h; omega
                have hi9_hsb130 : n122 < 4294967296 := by have h9 := hd_ga 0; have h8 := hd_ga 1; rcases (by omega : k10p = 0 ∨ k10p = 1 ∨ 2 ≤ k10p) with h | h | h; (have h7 := hs1 (by omega); subst h; omega); (have h7 := hs2 (by omega); subst h; omega); (have h7 := hs2 (by omega); omega)
                exact ih10 k10p (1) (n122) _ _ _ (by omega) (by omega) hi9_hg1124 hi9_hgt125 hi9_hgz126 hi9_hs2127 hi9_hs1128 hi9_hs0129 hi9_hsb130 hdy (lv_sub hl [0, 2, 1, 3, 4, 5, 6] rfl)
  have hi9_hg1131 : 0 ≤ 1 := by omega
  have hi9_hgt132 : kv_flag (0) (4294967296 ≤ kv_val ga 16) := by exact Or.inl rfl
  have hi9_hgz133 : 0 = 0 → ∀ j, 16 ≤ j → 2 ≤ j → j < 16 → ga j = 0 := by intro h j a b c; omega
  have hi9_hs2134 : 2 ≤ 16 → n2 = 0 := by intro h; omega
  have hi9_hs1135 : 16 = 1 → n2 = ga 1 := by intro h; omega
  have hi9_hs0136 : 16 = 0 → n2 = 65536 * ga 1 + ga 0 := by intro h; omega
  have hi9_hsb137 : n2 < 4294967296 := by omega
  exact lp10 (16 + 1) 16 (0) (n2) _ _ _ (by omega) (by omega) hi9_hg1131 hi9_hgt132 hi9_hgz133 hi9_hs2134 hi9_hs1135 hi9_hs0136 hi9_hsb137 hdy (lv_sub hl [0, 1, 2, 3, 4, 5, 6] rfl)

set_option maxHeartbeats 4000000 in
set_option maxRecDepth 100000 in
/-- KeyMeetingModel.isGood()Z -/
theorem c_F_isGood (l : Launch) (dC : Nat → ClassId) (dI : Nat → Nat → Nat) (cI cAA cB cL : ClassId) (o mt mn ml mc mh mk mp mm mb mw mr mx me mP mQ ms mo mW mD mB mR mS : Nat) (th : Int32) (sta : Int32) (hs : Int32) (sz_ : Nat) (gmp : Nat → Nat) (gmb : Nat → Nat) (gmP : Nat → Nat) (gmQ : Nat → Nat) (gms : Nat → Nat) (gmx : Nat → Nat) (gme : Nat → Nat) (gmt : Nat → Int32) (sz : Nat) (hd_gmp : ∀ j, gmp j < 65536) (hd_gmb : ∀ j, gmb j < 65536) (hd_gmP : ∀ j, gmP j < 65536) (hd_gmQ : ∀ j, gmQ j < 65536) (hd_gms : ∀ j, gms j < 4294967296) (hd_gmx : ∀ j, gmx j < 65536) (hd_gme : ∀ j, gme j < 65536) : Met l zy_N_isGood zw_N_isGood { frames := 2, cells := 0, slots := 0, locals := 54 } (kz_Pc (dC, dI) vwCl [(cI, .int), (cAA, .array .int), (cB, .byte), (cL, .long)] [] [] [.ref o] [(o, .inr (4, [.int th, .int sta, .ref mt, .ref mn, .ref ml, .ref mc, .ref mh, .ref mk, .ref mp, .ref mm, .ref mb, .ref mw, .ref mr, .ref mx, .ref me, .ref mP, .ref mQ, .ref ms, .int hs, .int (nI (sz_)), .ref mo, .ref mW, .ref mD, .ref mB, .ref mR, .ref mS])), (mp, .inl (cI, 16, .inl (kz_dg gmp))), (mb, .inl (cI, 16, .inl (kz_dg gmb))), (mP, .inl (cI, 16, .inl (kz_dg gmP))), (mQ, .inl (cI, 16, .inl (kz_dg gmQ))), (ms, .inl (cI, 18, .inl (kz_dg gms))), (mx, .inl (cI, 32, .inl (kz_dg gmx))), (me, .inl (cI, 18, .inl (kz_dg gme)))] [(mt, .inl (cI, 56, .inl gmt))] sz) (va_Qi (fun (r : Int32) (u : Int32 × (Nat → Nat) × (Nat → Nat) × (Nat → Nat) × (Nat → Nat) × (Nat → Nat) × (Nat → Nat) × (Nat → Nat)) => (∀ j, u.2.1 j < 65536) ∧ (∀ j, u.2.2.1 j < 65536) ∧ (∀ j, u.2.2.2.1 j < 65536) ∧ (∀ j, u.2.2.2.2.1 j < 65536) ∧ (∀ j, u.2.2.2.2.2.1 j < 4294967296) ∧ (∀ j, u.2.2.2.2.2.2.1 j < 65536) ∧ (∀ j, u.2.2.2.2.2.2.2 j < 65536) ∧ (r = 0 ∨ r = 1) ∧ ((r = 1 ∧ kx_ok (kv_val (kv_fig gmt 0) 16) (kv_val (kv_fig gmt 8) 16) (kv_val (kv_fig gmt 16) 8) (kv_val (kv_fig gmt 24) 8)) ∨ (r = 0 ∧ ¬ kx_ok (kv_val (kv_fig gmt 0) 16) (kv_val (kv_fig gmt 8) 16) (kv_val (kv_fig gmt 16) 8) (kv_val (kv_fig gmt 24) 8))) ∧ (∀ j, j < 16 → u.2.1 j = kv_fig gmt 0 j) ∧ (r = 1 → (kx_isD (kv_val (kv_fig gmt 16) 8) (kv_val (kv_fig gmt 24) 8) (kv_val u.2.2.2.2.2.1 18) ∧ ∀ j, j < 18 → u.2.2.2.2.2.1 j < 65536)) ∧ True) (kz_B (dC, dI) vwCl (va_A [(o, .inr (4, [.int th, .int sta, .ref mt, .ref mn, .ref ml, .ref mc, .ref mh, .ref mk, .ref mp, .ref mm, .ref mb, .ref mw, .ref mr, .ref mx, .ref me, .ref mP, .ref mQ, .ref ms, .int hs, .int (nI (sz_)), .ref mo, .ref mW, .ref mD, .ref mB, .ref mR, .ref mS])), (mp, .inl (cI, 16, .inl (kz_dg gmp))), (mb, .inl (cI, 16, .inl (kz_dg gmb))), (mP, .inl (cI, 16, .inl (kz_dg gmP))), (mQ, .inl (cI, 16, .inl (kz_dg gmQ))), (ms, .inl (cI, 18, .inl (kz_dg gms))), (mx, .inl (cI, 32, .inl (kz_dg gmx))), (me, .inl (cI, 18, .inl (kz_dg gme)))] sz) (fun u : Int32 × (Nat → Nat) × (Nat → Nat) × (Nat → Nat) × (Nat → Nat) × (Nat → Nat) × (Nat → Nat) × (Nat → Nat) => [(o, .inr (4, [.int th, .int sta, .ref mt, .ref mn, .ref ml, .ref mc, .ref mh, .ref mk, .ref mp, .ref mm, .ref mb, .ref mw, .ref mr, .ref mx, .ref me, .ref mP, .ref mQ, .ref ms, .int u.1, .int (nI (sz_)), .ref mo, .ref mW, .ref mD, .ref mB, .ref mR, .ref mS])), (mp, .inl (cI, 16, .inl (kz_dg u.2.1))), (mb, .inl (cI, 16, .inl (kz_dg u.2.2.1))), (mP, .inl (cI, 16, .inl (kz_dg u.2.2.2.1))), (mQ, .inl (cI, 16, .inl (kz_dg u.2.2.2.2.1))), (ms, .inl (cI, 18, .inl (kz_dg u.2.2.2.2.2.1))), (mx, .inl (cI, 32, .inl (kz_dg u.2.2.2.2.2.2.1))), (me, .inl (cI, 18, .inl (kz_dg u.2.2.2.2.2.2.2)))])) (va_A [(o, .inr (4, [.int th, .int sta, .ref mt, .ref mn, .ref ml, .ref mc, .ref mh, .ref mk, .ref mp, .ref mm, .ref mb, .ref mw, .ref mr, .ref mx, .ref me, .ref mP, .ref mQ, .ref ms, .int hs, .int (nI (sz_)), .ref mo, .ref mW, .ref mD, .ref mB, .ref mR, .ref mS])), (mp, .inl (cI, 16, .inl (kz_dg gmp))), (mb, .inl (cI, 16, .inl (kz_dg gmb))), (mP, .inl (cI, 16, .inl (kz_dg gmP))), (mQ, .inl (cI, 16, .inl (kz_dg gmQ))), (ms, .inl (cI, 18, .inl (kz_dg gms))), (mx, .inl (cI, 32, .inl (kz_dg gmx))), (me, .inl (cI, 18, .inl (kz_dg gme)))] sz)) 0 0 (va_A [(o, .inr (4, [.int th, .int sta, .ref mt, .ref mn, .ref ml, .ref mc, .ref mh, .ref mk, .ref mp, .ref mm, .ref mb, .ref mw, .ref mr, .ref mx, .ref me, .ref mP, .ref mQ, .ref ms, .int hs, .int (nI (sz_)), .ref mo, .ref mW, .ref mD, .ref mB, .ref mR, .ref mS])), (mp, .inl (cI, 16, .inl (kz_dg gmp))), (mb, .inl (cI, 16, .inl (kz_dg gmb))), (mP, .inl (cI, 16, .inl (kz_dg gmP))), (mQ, .inl (cI, 16, .inl (kz_dg gmQ))), (ms, .inl (cI, 18, .inl (kz_dg gms))), (mx, .inl (cI, 32, .inl (kz_dg gmx))), (me, .inl (cI, 18, .inl (kz_dg gme)))] sz) := by
  refine kz_met (y := zy_N_isGood) (ws := zw_N_isGood) (av := [.ref o]) (sz := sz) (Qc := fun A => va_Qi (fun (r : Int32) (u : Int32 × (Nat → Nat) × (Nat → Nat) × (Nat → Nat) × (Nat → Nat) × (Nat → Nat) × (Nat → Nat) × (Nat → Nat)) => (∀ j, u.2.1 j < 65536) ∧ (∀ j, u.2.2.1 j < 65536) ∧ (∀ j, u.2.2.2.1 j < 65536) ∧ (∀ j, u.2.2.2.2.1 j < 65536) ∧ (∀ j, u.2.2.2.2.2.1 j < 4294967296) ∧ (∀ j, u.2.2.2.2.2.2.1 j < 65536) ∧ (∀ j, u.2.2.2.2.2.2.2 j < 65536) ∧ (r = 0 ∨ r = 1) ∧ ((r = 1 ∧ kx_ok (kv_val (kv_fig gmt 0) 16) (kv_val (kv_fig gmt 8) 16) (kv_val (kv_fig gmt 16) 8) (kv_val (kv_fig gmt 24) 8)) ∨ (r = 0 ∧ ¬ kx_ok (kv_val (kv_fig gmt 0) 16) (kv_val (kv_fig gmt 8) 16) (kv_val (kv_fig gmt 16) 8) (kv_val (kv_fig gmt 24) 8))) ∧ (∀ j, j < 16 → u.2.1 j = kv_fig gmt 0 j) ∧ (r = 1 → (kx_isD (kv_val (kv_fig gmt 16) 8) (kv_val (kv_fig gmt 24) 8) (kv_val u.2.2.2.2.2.1 18) ∧ ∀ j, j < 18 → u.2.2.2.2.2.1 j < 65536)) ∧ True) (kz_B (dC, dI) vwCl A (fun u : Int32 × (Nat → Nat) × (Nat → Nat) × (Nat → Nat) × (Nat → Nat) × (Nat → Nat) × (Nat → Nat) × (Nat → Nat) => [(o, .inr (4, [.int th, .int sta, .ref mt, .ref mn, .ref ml, .ref mc, .ref mh, .ref mk, .ref mp, .ref mm, .ref mb, .ref mw, .ref mr, .ref mx, .ref me, .ref mP, .ref mQ, .ref ms, .int u.1, .int (nI (sz_)), .ref mo, .ref mW, .ref mD, .ref mB, .ref mR, .ref mS])), (mp, .inl (cI, 16, .inl (kz_dg u.2.1))), (mb, .inl (cI, 16, .inl (kz_dg u.2.2.1))), (mP, .inl (cI, 16, .inl (kz_dg u.2.2.2.1))), (mQ, .inl (cI, 16, .inl (kz_dg u.2.2.2.2.1))), (ms, .inl (cI, 18, .inl (kz_dg u.2.2.2.2.2.1))), (mx, .inl (cI, 32, .inl (kz_dg u.2.2.2.2.2.2.1))), (me, .inl (cI, 18, .inl (kz_dg u.2.2.2.2.2.2.2)))])) A) (cc := zc_N_isGood) (maxL := 3) (ret := some .boolean) (by decide) rfl (Nat.le_of_ble_eq_true rfl) ?_
  intro p e s m below meth c A ls F hA hdy hK hro hZ hN hl
  obtain ⟨hx, hb, hml, hr, hown, hlocks, hts, hnm⟩ := id F
  have hl : lv_has ls 3 [(0, .ref o)] := hl
  refine lv_aload_n hx hb zd_N_isGood_0 rfl (lv_at hl 0 rfl) ?_
  refine va_get (D := (dC, dI)) (ci := 4) (v := .ref mt) (C := zR_N) (T := zT_N) (N := 26) hx hb hts (fun w h => kz_c (zi_N w h)) hown hK hdy.1 0 rfl rfl 2 (by decide) (hts _ (kz_c mw_593)) (fun _ h9 => h9) rfl zd_N_isGood_1 ?_
  refine lv_iconst (v := (nI (0))) hx hb zd_N_isGood_4 (by decide) ?_
  refine lv_aload_n hx hb zd_N_isGood_5 rfl (lv_at hl 0 rfl) ?_
  refine va_get (D := (dC, dI)) (ci := 4) (v := .ref mp) (C := zR_N) (T := zT_N) (N := 26) hx hb hts (fun w h => kz_c (zi_N w h)) hown hK hdy.1 0 rfl rfl 8 (by decide) (hts _ (kz_c mw_599)) (fun _ h9 => h9) rfl zd_N_isGood_6 ?_
  refine kz_callv (wk := [(o, .inr (4, [.int th, .int sta, .ref mt, .ref mn, .ref ml, .ref mc, .ref mh, .ref mk, .ref mp, .ref mm, .ref mb, .ref mw, .ref mr, .ref mx, .ref me, .ref mP, .ref mQ, .ref ms, .int hs, .int (nI (sz_)), .ref mo, .ref mW, .ref mD, .ref mB, .ref mR, .ref mS])), (mb, .inl (cI, 16, .inl (kz_dg gmb))), (mP, .inl (cI, 16, .inl (kz_dg gmP))), (mQ, .inl (cI, 16, .inl (kz_dg gmQ))), (ms, .inl (cI, 18, .inl (kz_dg gms))), (mx, .inl (cI, 32, .inl (kz_dg gmx))), (me, .inl (cI, 18, .inl (kz_dg gme)))]) (va_runS (As := [.ref mt, .int (nI (0)), .ref mp]) (rest := []) ⟨hx, hb, hml, hown, hts⟩ (c_X_figures56 l dC dI cI cAA cB cL mp mt gmp gmt 0 _ hd_gmp (by first | omega | assumption)) (va_cwS 3 hts (kz_g (kz_mc mw_690 (kz_mc mw_691 (kz_mc mw_43 kz_mn))) mw_692) rfl rfl rfl (by decide +kernel) ⟨Nat.le_of_ble_eq_true rfl, Nat.le_of_ble_eq_true rfl⟩) (kz_preS hdy hA hK hro hZ hN [1] (by decide) rfl [(true, 0)] rfl (by decide) [0, 1, 2, 3] rfl (fun _ h => by cases h) (fun _ h => by cases h) rfl) rfl rfl hl.1 rfl (lv_room (Nat.le_of_ble_eq_true rfl)) zd_N_isGood_9 ⟨Nat.le_of_ble_eq_true rfl, Nat.le_of_ble_eq_true rfl⟩) hdy hA [1] [0, 2, 3, 4, 5, 6, 7] rfl rfl (by decide) (by decide) (fun u H locs hw hdy => ?_)
  obtain ⟨d1, rfl⟩ : ∃ z, z = u := ⟨_, rfl⟩
  try dsimp only at hw
  obtain ⟨hd_d1, q2, -⟩ := hw
  have hdy : kz_dy (dC, dI) vwCl A s.heap H locs [(o, .inr (4, [.int th, .int sta, .ref mt, .ref mn, .ref ml, .ref mc, .ref mh, .ref mk, .ref mp, .ref mm, .ref mb, .ref mw, .ref mr, .ref mx, .ref me, .ref mP, .ref mQ, .ref ms, .int hs, .int (nI (sz_)), .ref mo, .ref mW, .ref mD, .ref mB, .ref mR, .ref mS])), (mp, .inl (cI, 16, .inl (kz_dg d1))), (mb, .inl (cI, 16, .inl (kz_dg gmb))), (mP, .inl (cI, 16, .inl (kz_dg gmP))), (mQ, .inl (cI, 16, .inl (kz_dg gmQ))), (ms, .inl (cI, 18, .inl (kz_dg gms))), (mx, .inl (cI, 32, .inl (kz_dg gmx))), (me, .inl (cI, 18, .inl (kz_dg gme)))] := hdy.sub [0, 7, 1, 2, 3, 4, 5, 6] (by decide) rfl
  refine lv_aload_n hx hb zd_N_isGood_12 rfl (lv_at hl 0 rfl) ?_
  refine va_get (D := (dC, dI)) (ci := 4) (v := .ref mt) (C := zR_N) (T := zT_N) (N := 26) hx hb hts (fun w h => kz_c (zi_N w h)) hown hK hdy.1 0 rfl rfl 2 (by decide) (hts _ (kz_c mw_593)) (fun _ h9 => h9) rfl zd_N_isGood_13 ?_
  refine lv_bipush (v := (nI (8))) hx hb zd_N_isGood_16 (by decide) ?_
  refine lv_aload_n hx hb zd_N_isGood_18 rfl (lv_at hl 0 rfl) ?_
  refine va_get (D := (dC, dI)) (ci := 4) (v := .ref mb) (C := zR_N) (T := zT_N) (N := 26) hx hb hts (fun w h => kz_c (zi_N w h)) hown hK hdy.1 0 rfl rfl 10 (by decide) (hts _ (kz_c mw_601)) (fun _ h9 => h9) rfl zd_N_isGood_19 ?_
  refine kz_callv (wk := [(o, .inr (4, [.int th, .int sta, .ref mt, .ref mn, .ref ml, .ref mc, .ref mh, .ref mk, .ref mp, .ref mm, .ref mb, .ref mw, .ref mr, .ref mx, .ref me, .ref mP, .ref mQ, .ref ms, .int hs, .int (nI (sz_)), .ref mo, .ref mW, .ref mD, .ref mB, .ref mR, .ref mS])), (mp, .inl (cI, 16, .inl (kz_dg d1))), (mP, .inl (cI, 16, .inl (kz_dg gmP))), (mQ, .inl (cI, 16, .inl (kz_dg gmQ))), (ms, .inl (cI, 18, .inl (kz_dg gms))), (mx, .inl (cI, 32, .inl (kz_dg gmx))), (me, .inl (cI, 18, .inl (kz_dg gme)))]) (va_runS (As := [.ref mt, .int (nI (8)), .ref mb]) (rest := []) ⟨hx, hb, hml, hown, hts⟩ (c_X_figures56 l dC dI cI cAA cB cL mb mt gmb gmt 8 _ hd_gmb (by first | omega | assumption)) (va_cwS 3 hts (kz_g (kz_mc mw_690 (kz_mc mw_691 (kz_mc mw_43 kz_mn))) mw_692) rfl rfl rfl (by decide +kernel) ⟨Nat.le_of_ble_eq_true rfl, Nat.le_of_ble_eq_true rfl⟩) (kz_preS hdy hA hK hro hZ hN [2] (by decide) rfl [(true, 0)] rfl (by decide) [0, 1, 2, 3] rfl (fun _ h => by cases h) (fun _ h => by cases h) rfl) rfl rfl hl.1 rfl (lv_room (Nat.le_of_ble_eq_true rfl)) zd_N_isGood_22 ⟨Nat.le_of_ble_eq_true rfl, Nat.le_of_ble_eq_true rfl⟩) hdy hA [2] [0, 1, 3, 4, 5, 6, 7] rfl rfl (by decide) (by decide) (fun u H locs hw hdy => ?_)
  obtain ⟨d3, rfl⟩ : ∃ z, z = u := ⟨_, rfl⟩
  try dsimp only at hw
  obtain ⟨hd_d3, q4, -⟩ := hw
  have hdy : kz_dy (dC, dI) vwCl A s.heap H locs [(o, .inr (4, [.int th, .int sta, .ref mt, .ref mn, .ref ml, .ref mc, .ref mh, .ref mk, .ref mp, .ref mm, .ref mb, .ref mw, .ref mr, .ref mx, .ref me, .ref mP, .ref mQ, .ref ms, .int hs, .int (nI (sz_)), .ref mo, .ref mW, .ref mD, .ref mB, .ref mR, .ref mS])), (mp, .inl (cI, 16, .inl (kz_dg d1))), (mb, .inl (cI, 16, .inl (kz_dg d3))), (mP, .inl (cI, 16, .inl (kz_dg gmP))), (mQ, .inl (cI, 16, .inl (kz_dg gmQ))), (ms, .inl (cI, 18, .inl (kz_dg gms))), (mx, .inl (cI, 32, .inl (kz_dg gmx))), (me, .inl (cI, 18, .inl (kz_dg gme)))] := hdy.sub [0, 1, 7, 2, 3, 4, 5, 6] (by decide) rfl
  have hVp : kv_val d1 16 = kv_val (kv_fig gmt 0) 16 := kv_ext 16 q2
  have hVb : kv_val d3 16 = kv_val (kv_fig gmt 8) 16 := kv_ext 16 q4
  refine lv_aload_n hx hb zd_N_isGood_25 rfl (lv_at hl 0 rfl) ?_
  refine kz_callv (wk := [(mp, .inl (cI, 16, .inl (kz_dg d1))), (mb, .inl (cI, 16, .inl (kz_dg d3))), (me, .inl (cI, 18, .inl (kz_dg gme)))]) (va_runV (As := []) (rest := []) ⟨hx, hb, hml, hown, hts⟩ (c_F_find l dC dI cI cAA cB cL o mt mn ml mc mh mk mp mm mb mw mr mx me mP mQ ms mo mW mD mB mR mS (th) (sta) (hs) sz_ gmP gmQ gms gmx gmt _ hd_gmP hd_gmQ hd_gms hd_gmx) (cwV 0 hts (kz_g (kz_mc mw_694 (kz_mc mw_696 (kz_mc mw_22 (kz_mc mw_43 kz_mn)))) mw_697) rfl rfl rfl (by decide +kernel) ⟨Nat.le_of_ble_eq_true rfl, Nat.le_of_ble_eq_true rfl⟩) (kz_preV hdy hA hK hro hZ hN [0, 3, 4, 5, 6] (by decide) rfl [(true, 0)] rfl (by decide) [0, 1, 2, 3] rfl (fun _ h => by cases h) (fun _ h => by cases h) rfl (ci := 4) (q0 := 0) rfl rfl rfl) rfl rfl hl.1 rfl (lv_room (Nat.le_of_ble_eq_true rfl)) zd_N_isGood_26 ⟨Nat.le_of_ble_eq_true rfl, Nat.le_of_ble_eq_true rfl⟩) hdy hA [0, 3, 4, 5, 6] [1, 2, 7] rfl rfl (by decide) (by decide) (fun u H locs hw hdy => ?_)
  obtain ⟨x5, d6, d7, d8, d9⟩ := u
  try dsimp only at hw
  obtain ⟨hd_d6, hd_d7, hd_d8, hd_d9, q10, q11, -⟩ := hw
  have hdy : kz_dy (dC, dI) vwCl A s.heap H locs [(o, .inr (4, [.int th, .int sta, .ref mt, .ref mn, .ref ml, .ref mc, .ref mh, .ref mk, .ref mp, .ref mm, .ref mb, .ref mw, .ref mr, .ref mx, .ref me, .ref mP, .ref mQ, .ref ms, .int x5, .int (nI (sz_)), .ref mo, .ref mW, .ref mD, .ref mB, .ref mR, .ref mS])), (mp, .inl (cI, 16, .inl (kz_dg d1))), (mb, .inl (cI, 16, .inl (kz_dg d3))), (mP, .inl (cI, 16, .inl (kz_dg d6))), (mQ, .inl (cI, 16, .inl (kz_dg d7))), (ms, .inl (cI, 18, .inl (kz_dg d8))), (mx, .inl (cI, 32, .inl (kz_dg d9))), (me, .inl (cI, 18, .inl (kz_dg gme)))] := hdy.sub [3, 0, 1, 4, 5, 6, 7, 2] (by decide) rfl
  refine lv_aload_n hx hb zd_N_isGood_29 rfl (lv_at hl 0 rfl) ?_
  refine va_get (D := (dC, dI)) (ci := 4) (v := .ref mp) (C := zR_N) (T := zT_N) (N := 26) hx hb hts (fun w h => kz_c (zi_N w h)) hown hK hdy.1 0 rfl rfl 8 (by decide) (hts _ (kz_c mw_599)) (fun _ h9 => h9) rfl zd_N_isGood_30 ?_
  refine lv_iconst (v := (nI (0))) hx hb zd_N_isGood_33 (by decide) ?_
  refine va_iald hx hb hK hdy.1 1 0 rfl rfl (vp_in_nI (by omega) (by omega)) zd_N_isGood_34 ?_
  refine lv_topi (fun x12 h9 => ?_)
  obtain rfl : x12 = nI (d1 0) := h9.trans (kz_dgl d1 (by omega))
  have hbx12 := hd_d1 0
  refine lv_iconst (v := (nI (4))) hx hb zd_N_isGood_35 (by decide) ?_
  refine lv_icmp_le (tgt := 43) hx hb zd_N_isGood_36 (by decide) (fun hc36 => ?_) (fun hc36 => ?_)
  · have hc36 : (d1 0) ≤ 4 := (nI_leI (by omega) (by omega)).mp hc36
    refine lv_iconst (v := (nI (0))) hx hb zd_N_isGood_43 (by decide) ?_
    refine lv_istore_n (lv' := [(1, .int (nI (0))), (0, .ref o)]) hx hb zd_N_isGood_44 rfl hl (by decide) rfl (fun ls hl => ?_)
    refine lv_iconst (v := (nI (1))) hx hb zd_N_isGood_45 (by decide) ?_
    refine lv_istore_n (lv' := [(2, .int (nI (1))), (1, .int (nI (0))), (0, .ref o)]) hx hb zd_N_isGood_46 rfl hl (by decide) rfl (fun ls hl => ?_)
    have lp47 : ∀ (n47 k47 : Nat) (c13 : Nat) (H : Heap) (locs : List Loc) (ls : Array Slot), k47 ≤ 16 → 16 - k47 < n47 → 1 ≤ k47 → (c13 ≤ 1) → (kv_flag (c13) (5 ≤ kv_val d1 16)) → (c13 = 0 → d1 0 ≤ 4) → (c13 = 0 → ∀ j, 0 < j → j < k47 → d1 j = 0) → kz_dy (dC, dI) vwCl A s.heap H locs [(o, .inr (4, [.int th, .int sta, .ref mt, .ref mn, .ref ml, .ref mc, .ref mh, .ref mk, .ref mp, .ref mm, .ref mb, .ref mw, .ref mr, .ref mx, .ref me, .ref mP, .ref mQ, .ref ms, .int x5, .int (nI (sz_)), .ref mo, .ref mW, .ref mD, .ref mB, .ref mR, .ref mS])), (mp, .inl (cI, 16, .inl (kz_dg d1))), (mb, .inl (cI, 16, .inl (kz_dg d3))), (mP, .inl (cI, 16, .inl (kz_dg d6))), (mQ, .inl (cI, 16, .inl (kz_dg d7))), (ms, .inl (cI, 18, .inl (kz_dg d8))), (mx, .inl (cI, 32, .inl (kz_dg d9))), (me, .inl (cI, 18, .inl (kz_dg gme)))] → lv_has ls 3 [(2, .int (nI (k47))), (1, .int (nI (c13))), (0, .ref o)] → W p l e { frames := 2, cells := 0, slots := 0, locals := 54 } s m ([.ref o] : List Value).toArray below meth c H locs 0 0 (MQ below (va_Qi (fun (r : Int32) (u : Int32 × (Nat → Nat) × (Nat → Nat) × (Nat → Nat) × (Nat → Nat) × (Nat → Nat) × (Nat → Nat) × (Nat → Nat)) => (∀ j, u.2.1 j < 65536) ∧ (∀ j, u.2.2.1 j < 65536) ∧ (∀ j, u.2.2.2.1 j < 65536) ∧ (∀ j, u.2.2.2.2.1 j < 65536) ∧ (∀ j, u.2.2.2.2.2.1 j < 4294967296) ∧ (∀ j, u.2.2.2.2.2.2.1 j < 65536) ∧ (∀ j, u.2.2.2.2.2.2.2 j < 65536) ∧ (r = 0 ∨ r = 1) ∧ ((r = 1 ∧ kx_ok (kv_val (kv_fig gmt 0) 16) (kv_val (kv_fig gmt 8) 16) (kv_val (kv_fig gmt 16) 8) (kv_val (kv_fig gmt 24) 8)) ∨ (r = 0 ∧ ¬ kx_ok (kv_val (kv_fig gmt 0) 16) (kv_val (kv_fig gmt 8) 16) (kv_val (kv_fig gmt 16) 8) (kv_val (kv_fig gmt 24) 8))) ∧ (∀ j, j < 16 → u.2.1 j = kv_fig gmt 0 j) ∧ (r = 1 → (kx_isD (kv_val (kv_fig gmt 16) 8) (kv_val (kv_fig gmt 24) 8) (kv_val u.2.2.2.2.2.1 18) ∧ ∀ j, j < 18 → u.2.2.2.2.2.1 j < 65536)) ∧ True) (kz_B (dC, dI) vwCl A (fun u : Int32 × (Nat → Nat) × (Nat → Nat) × (Nat → Nat) × (Nat → Nat) × (Nat → Nat) × (Nat → Nat) × (Nat → Nat) => [(o, .inr (4, [.int th, .int sta, .ref mt, .ref mn, .ref ml, .ref mc, .ref mh, .ref mk, .ref mp, .ref mm, .ref mb, .ref mw, .ref mr, .ref mx, .ref me, .ref mP, .ref mQ, .ref ms, .int u.1, .int (nI (sz_)), .ref mo, .ref mW, .ref mD, .ref mB, .ref mR, .ref mS])), (mp, .inl (cI, 16, .inl (kz_dg u.2.1))), (mb, .inl (cI, 16, .inl (kz_dg u.2.2.1))), (mP, .inl (cI, 16, .inl (kz_dg u.2.2.2.1))), (mQ, .inl (cI, 16, .inl (kz_dg u.2.2.2.2.1))), (ms, .inl (cI, 18, .inl (kz_dg u.2.2.2.2.2.1))), (mx, .inl (cI, 32, .inl (kz_dg u.2.2.2.2.2.2.1))), (me, .inl (cI, 18, .inl (kz_dg u.2.2.2.2.2.2.2)))])) A) ([.ref o] : List Value).toArray s 0 0 A) (F0 m 47 ls []) := by
      intro n47
      induction n47 with
      | zero => intro k47; intros; omega
      | succ n47 ih47 =>
        intro k47 c13 H locs ls hi47 hn47 hblow hg1 hgr hsm hzz hdy hl
        refine lv_iload_n hx hb zd_N_isGood_47 rfl (lv_at hl 0 rfl) ?_
        refine lv_bipush (v := (nI (16))) hx hb zd_N_isGood_48 (by decide) ?_
        refine lv_icmp_ge (tgt := 78) hx hb zd_N_isGood_50 (by decide) (fun hc50 => ?_) (fun hc50 => ?_)
        · have hc50 : 16 ≤ k47 := (nI_leI (by omega) (by omega)).mp hc50
          refine lv_iload_n hx hb zd_N_isGood_78 rfl (lv_at hl 1 rfl) ?_
          refine lv_if_eq (tgt := 106) hx hb zd_N_isGood_79 (by decide) (fun hc79 => ?_) (fun hc79 => ?_)
          · have hc79 : c13 = 0 := (kx_nIeq (by omega) (by omega)).mp (by rw [nI_0]; exact hc79)
            refine lv_iconst (v := (nI (0))) hx hb zd_N_isGood_106 (by decide) ?_
            exact kz_zret F (x5, d1, d3, d6, d7, d8, d9, gme) hdy (by first | exact Or.inl rfl | exact Or.inr rfl | assumption) (⟨hd_d1, hd_d3, hd_d6, hd_d7, hd_d8, hd_d9, hd_gme, by first | exact Or.inl rfl | exact Or.inr rfl | assumption, by first | (exact Or.inr ⟨rfl, fun h9 => by have h8 := h9.1; rw [← hVp, kv_small0 (fun j a b => hzz (by omega) j a (by omega))] at h8; have h7 := hsm (by omega); omega⟩) | (exact Or.inr ⟨rfl, fun h9 => absurd h9.2.2.2 (q10.resolve_right (fun h => absurd (hc86.symm.trans h.1) (by decide))).2⟩) | (exact Or.inr ⟨rfl, fun h9 => (hgr.resolve_left (fun h => absurd (hc99.symm.trans h.1) (by decide))).2 ⟨by have h8 := h9.2.1; omega, by have h8 := h9.2.2.1; omega⟩⟩), by exact q2, by intro h; exact absurd (show nI 0 = 1 from h) (by decide), trivial⟩) zd_N_isGood_107
          · have hc79 : ¬ c13 = 0 := fun h9 => hc79 (by have h8 := (kx_nIeq (by omega) (by omega)).mpr h9; rw [nI_0] at h8; exact h8)
            refine lv_aload_n hx hb zd_N_isGood_82 rfl (lv_at hl 2 rfl) ?_
            refine va_get (D := (dC, dI)) (ci := 4) (v := .int x5) (C := zR_N) (T := zT_N) (N := 26) hx hb hts (fun w h => kz_c (zi_N w h)) hown hK hdy.1 0 rfl rfl 18 (by decide) (hts _ (kz_c mw_609)) (fun _ h9 => h9) rfl zd_N_isGood_83 ?_
            refine lv_if_eq (tgt := 106) hx hb zd_N_isGood_86 (by decide) (fun hc86 => ?_) (fun hc86 => ?_)
            · refine lv_iconst (v := (nI (0))) hx hb zd_N_isGood_106 (by decide) ?_
              exact kz_zret F (x5, d1, d3, d6, d7, d8, d9, gme) hdy (by first | exact Or.inl rfl | exact Or.inr rfl | assumption) (⟨hd_d1, hd_d3, hd_d6, hd_d7, hd_d8, hd_d9, hd_gme, by first | exact Or.inl rfl | exact Or.inr rfl | assumption, by first | (exact Or.inr ⟨rfl, fun h9 => by have h8 := h9.1; rw [← hVp, kv_small0 (fun j a b => hzz (by omega) j a (by omega))] at h8; have h7 := hsm (by omega); omega⟩) | (exact Or.inr ⟨rfl, fun h9 => absurd h9.2.2.2 (q10.resolve_right (fun h => absurd (hc86.symm.trans h.1) (by decide))).2⟩) | (exact Or.inr ⟨rfl, fun h9 => (hgr.resolve_left (fun h => absurd (hc99.symm.trans h.1) (by decide))).2 ⟨by have h8 := h9.2.1; omega, by have h8 := h9.2.2.1; omega⟩⟩), by exact q2, by intro h; exact absurd (show nI 0 = 1 from h) (by decide), trivial⟩) zd_N_isGood_107
            · refine lv_aload_n hx hb zd_N_isGood_89 rfl (lv_at hl 2 rfl) ?_
              refine lv_aload_n hx hb zd_N_isGood_90 rfl (lv_at hl 2 rfl) ?_
              refine va_get (D := (dC, dI)) (ci := 4) (v := .ref mb) (C := zR_N) (T := zT_N) (N := 26) hx hb hts (fun w h => kz_c (zi_N w h)) hown hK hdy.1 0 rfl rfl 10 (by decide) (hts _ (kz_c mw_601)) (fun _ h9 => h9) rfl zd_N_isGood_91 ?_
              refine lv_iconst (v := (nI (2))) hx hb zd_N_isGood_94 (by decide) ?_
              refine lv_iconst (v := (nI (2))) hx hb zd_N_isGood_95 (by decide) ?_
              refine kz_calli (wk := [(o, .inr (4, [.int th, .int sta, .ref mt, .ref mn, .ref ml, .ref mc, .ref mh, .ref mk, .ref mp, .ref mm, .ref mb, .ref mw, .ref mr, .ref mx, .ref me, .ref mP, .ref mQ, .ref ms, .int x5, .int (nI (sz_)), .ref mo, .ref mW, .ref mD, .ref mB, .ref mR, .ref mS])), (mp, .inl (cI, 16, .inl (kz_dg d1))), (mb, .inl (cI, 16, .inl (kz_dg d3))), (mP, .inl (cI, 16, .inl (kz_dg d6))), (mQ, .inl (cI, 16, .inl (kz_dg d7))), (ms, .inl (cI, 18, .inl (kz_dg d8))), (mx, .inl (cI, 32, .inl (kz_dg d9)))]) (va_runV (As := [.ref mb, .int (nI (2)), .int (nI (2))]) (rest := []) ⟨hx, hb, hml, hown, hts⟩ (c_F_isWithin l dC dI cI cAA cB cL me o mt mn ml mc mh mk mp mm mb mw mr mx mP mQ ms mo mW mD mB mR mS mb gme (th) (sta) (x5) sz_ d3 d1 _ hd_gme hd_d3 hd_d1) (cwV 3 hts (kz_g (kz_mc mw_711 (kz_mc mw_713 (kz_mc mw_24 (kz_mc mw_43 kz_mn)))) mw_714) rfl rfl rfl (by decide +kernel) ⟨Nat.le_of_ble_eq_true rfl, Nat.le_of_ble_eq_true rfl⟩) (kz_preV hdy hA hK hro hZ hN [7] (by decide) rfl [(false, 0), (false, 2), (false, 1)] rfl (by decide) [0, 1, 2, 3] rfl (fun _ h => by cases h) (fun _ h => by cases h) rfl (ci := 4) (q0 := 0) rfl rfl rfl) rfl rfl hl.1 rfl (lv_room (Nat.le_of_ble_eq_true rfl)) zd_N_isGood_96 ⟨Nat.le_of_ble_eq_true rfl, Nat.le_of_ble_eq_true rfl⟩) hdy hA [7] [0, 1, 2, 3, 4, 5, 6] rfl rfl (by decide) (by decide) (fun r u H locs hw hdy => ?_)
              obtain ⟨r15, rfl⟩ : ∃ z, z = r := ⟨_, rfl⟩
              obtain ⟨d14, rfl⟩ : ∃ z, z = u := ⟨_, rfl⟩
              try dsimp only at hw
              obtain ⟨hd_d14, hzr15, q16, -⟩ := hw
              have hdy : kz_dy (dC, dI) vwCl A s.heap H locs [(o, .inr (4, [.int th, .int sta, .ref mt, .ref mn, .ref ml, .ref mc, .ref mh, .ref mk, .ref mp, .ref mm, .ref mb, .ref mw, .ref mr, .ref mx, .ref me, .ref mP, .ref mQ, .ref ms, .int x5, .int (nI (sz_)), .ref mo, .ref mW, .ref mD, .ref mB, .ref mR, .ref mS])), (mp, .inl (cI, 16, .inl (kz_dg d1))), (mb, .inl (cI, 16, .inl (kz_dg d3))), (mP, .inl (cI, 16, .inl (kz_dg d6))), (mQ, .inl (cI, 16, .inl (kz_dg d7))), (ms, .inl (cI, 18, .inl (kz_dg d8))), (mx, .inl (cI, 32, .inl (kz_dg d9))), (me, .inl (cI, 18, .inl (kz_dg d14)))] := hdy.sub [0, 1, 2, 3, 4, 5, 6, 7] (by decide) rfl
              refine lv_if_eq (tgt := 106) hx hb zd_N_isGood_99 (by decide) (fun hc99 => ?_) (fun hc99 => ?_)
              · refine lv_iconst (v := (nI (0))) hx hb zd_N_isGood_106 (by decide) ?_
                exact kz_zret F (x5, d1, d3, d6, d7, d8, d9, d14) hdy (by first | exact Or.inl rfl | exact Or.inr rfl | assumption) (⟨hd_d1, hd_d3, hd_d6, hd_d7, hd_d8, hd_d9, hd_d14, by first | exact Or.inl rfl | exact Or.inr rfl | assumption, by first | (exact Or.inr ⟨rfl, fun h9 => by have h8 := h9.1; rw [← hVp, kv_small0 (fun j a b => hzz (by omega) j a (by omega))] at h8; have h7 := hsm (by omega); omega⟩) | (exact Or.inr ⟨rfl, fun h9 => absurd h9.2.2.2 (q10.resolve_right (fun h => absurd (hc86.symm.trans h.1) (by decide))).2⟩) | (exact Or.inr ⟨rfl, fun h9 => (q16.resolve_left (fun h => absurd (hc99.symm.trans h.1) (by decide))).2 ⟨by have h8 := h9.2.1; omega, by have h8 := h9.2.2.1; omega⟩⟩), by exact q2, by intro h; exact absurd (show nI 0 = 1 from h) (by decide), trivial⟩) zd_N_isGood_107
              · refine lv_iconst (v := (nI (1))) hx hb zd_N_isGood_102 (by decide) ?_
                refine lv_goto (tgt := 107) hx hb zd_N_isGood_103 (by decide) ?_
                exact kz_zret F (x5, d1, d3, d6, d7, d8, d9, d14) hdy (by first | exact Or.inl rfl | exact Or.inr rfl | assumption) (⟨hd_d1, hd_d3, hd_d6, hd_d7, hd_d8, hd_d9, hd_d14, by first | exact Or.inl rfl | exact Or.inr rfl | assumption, by exact Or.inl ⟨rfl, by have h8 := kv_flag_of hgr (by omega); omega, by have h8 := (q16.resolve_right (fun h => hc99 h.1)).2.1; omega, by have h8 := (q16.resolve_right (fun h => hc99 h.1)).2.2; omega, (q10.resolve_left (fun h => hc86 h.1)).2.1⟩, by exact q2, by exact fun _ => ⟨(q10.resolve_left (fun h => hc86 h.1)).2.2, q11 (q10.resolve_left (fun h => hc86 h.1)).1⟩, trivial⟩) zd_N_isGood_107
        · have hc50 : ¬ 16 ≤ k47 := fun h9 => hc50 ((nI_leI (by omega) (by omega)).mpr h9)
          refine lv_iload_n hx hb zd_N_isGood_53 rfl (lv_at hl 1 rfl) ?_
          refine lv_if_ne (tgt := 66) hx hb zd_N_isGood_54 (by decide) (fun hc54 => ?_) (fun hc54 => ?_)
          · have hc54 : ¬ c13 = 0 := fun h9 => hc54 (by have h8 := (kx_nIeq (by omega) (by omega)).mpr h9; rw [nI_0] at h8; exact h8)
            refine lv_iconst (v := (nI (1))) hx hb zd_N_isGood_66 (by decide) ?_
            refine lv_goto (tgt := 71) hx hb zd_N_isGood_67 (by decide) ?_
            refine lv_istore_n (lv' := [(1, .int (nI (1))), (2, .int (nI (k47))), (0, .ref o)]) hx hb zd_N_isGood_71 rfl hl (by decide) rfl (fun ls hl => ?_)
            refine lv_iinc (v := (nI (k47 + 1))) (lv' := [(2, .int (nI (k47 + 1))), (1, .int (nI (1))), (0, .ref o)]) hx hb zd_N_isGood_72 hl (k := 1) rfl (nI_1 _) (by decide) rfl (fun ls hl => ?_)
            refine lv_goto (tgt := 47) hx hb zd_N_isGood_75 (by decide) ?_
            have hi9_hg117 : 1 ≤ 1 := by omega
            have hi9_hgr18 : kv_flag (1) (5 ≤ kv_val d1 16) := by first | exact hgr | exact Or.inl rfl | exact Or.inr (kv_flag_of hgr (by omega)) | (have h8 := kv_bigF (d := d1) (k := k47) (by omega) (by omega) (by omega); exact Or.inr (by omega))
            have hi9_hsm19 : 1 = 0 → d1 0 ≤ 4 := by first | exact hsm | (intro h; first | (exfalso; omega) | exact hsm (by omega))
            have hi9_hzz20 : 1 = 0 → ∀ j, 0 < j → j < k47 + 1 → d1 j = 0 := by intro h j a b; first | (exfalso; omega) | (rcases (by omega : j = k47 ∨ j < k47) with h8 | h8; (rw [h8]; omega); exact hzz (by omega) j a h8)
            exact ih47 (k47 + 1) (1) _ _ _ (by omega) (by omega) (by omega) hi9_hg117 hi9_hgr18 hi9_hsm19 hi9_hzz20 hdy (lv_sub hl [0, 1, 2] rfl)
          · have hc54 : c13 = 0 := (kx_nIeq (by omega) (by omega)).mp (by rw [nI_0]; exact hc54)
            refine lv_aload_n hx hb zd_N_isGood_57 rfl (lv_at hl 2 rfl) ?_
            refine va_get (D := (dC, dI)) (ci := 4) (v := .ref mp) (C := zR_N) (T := zT_N) (N := 26) hx hb hts (fun w h => kz_c (zi_N w h)) hown hK hdy.1 0 rfl rfl 8 (by decide) (hts _ (kz_c mw_599)) (fun _ h9 => h9) rfl zd_N_isGood_58 ?_
            refine lv_iload_n hx hb zd_N_isGood_61 rfl (lv_at hl 0 rfl) ?_
            refine va_iald hx hb hK hdy.1 1 0 rfl rfl (vp_in_nI (by omega) (by omega)) zd_N_isGood_62 ?_
            refine lv_topi (fun x21 h9 => ?_)
            obtain rfl : x21 = nI (d1 k47) := h9.trans (kz_dgl d1 (by omega))
            have hbx21 := hd_d1 k47
            refine lv_if_le (tgt := 70) hx hb zd_N_isGood_63 (by decide) (fun hc63 => ?_) (fun hc63 => ?_)
            · have hc63 : (d1 k47) ≤ 0 := (nI_leI (by omega) (by omega)).mp (by rw [nI_0]; exact hc63)
              refine lv_iconst (v := (nI (0))) hx hb zd_N_isGood_70 (by decide) ?_
              refine lv_istore_n (lv' := [(1, .int (nI (0))), (2, .int (nI (k47))), (0, .ref o)]) hx hb zd_N_isGood_71 rfl hl (by decide) rfl (fun ls hl => ?_)
              refine lv_iinc (v := (nI (k47 + 1))) (lv' := [(2, .int (nI (k47 + 1))), (1, .int (nI (0))), (0, .ref o)]) hx hb zd_N_isGood_72 hl (k := 1) rfl (nI_1 _) (by decide) rfl (fun ls hl => ?_)
              refine lv_goto (tgt := 47) hx hb zd_N_isGood_75 (by decide) ?_
              have hi9_hg122 : 0 ≤ 1 := by omega
              have hi9_hgr23 : kv_flag (0) (5 ≤ kv_val d1 16) := by first | exact hgr | exact Or.inl rfl | exact Or.inr (kv_flag_of hgr (by omega)) | (have h8 := kv_bigF (d := d1) (k := k47) (by omega) (by omega) (by omega); exact Or.inr (by omega))
              have hi9_hsm24 : 0 = 0 → d1 0 ≤ 4 := by first | exact hsm | (intro h; first | (exfalso; omega) | exact hsm (by omega))
              have hi9_hzz25 : 0 = 0 → ∀ j, 0 < j → j < k47 + 1 → d1 j = 0 := by intro h j a b; first | (exfalso; omega) | (rcases (by omega : j = k47 ∨ j < k47) with h8 | h8; (rw [h8]; omega); exact hzz (by omega) j a h8)
              exact ih47 (k47 + 1) (0) _ _ _ (by omega) (by omega) (by omega) hi9_hg122 hi9_hgr23 hi9_hsm24 hi9_hzz25 hdy (lv_sub hl [0, 1, 2] rfl)
            · have hc63 : ¬ (d1 k47) ≤ 0 := fun h9 => hc63 (by have h8 := (nI_leI (by omega) (by omega)).mpr h9; rw [nI_0] at h8; exact h8)
              refine lv_iconst (v := (nI (1))) hx hb zd_N_isGood_66 (by decide) ?_
              refine lv_goto (tgt := 71) hx hb zd_N_isGood_67 (by decide) ?_
              refine lv_istore_n (lv' := [(1, .int (nI (1))), (2, .int (nI (k47))), (0, .ref o)]) hx hb zd_N_isGood_71 rfl hl (by decide) rfl (fun ls hl => ?_)
              refine lv_iinc (v := (nI (k47 + 1))) (lv' := [(2, .int (nI (k47 + 1))), (1, .int (nI (1))), (0, .ref o)]) hx hb zd_N_isGood_72 hl (k := 1) rfl (nI_1 _) (by decide) rfl (fun ls hl => ?_)
              refine lv_goto (tgt := 47) hx hb zd_N_isGood_75 (by decide) ?_
              have hi9_hg126 : 1 ≤ 1 := by omega
              have hi9_hgr27 : kv_flag (1) (5 ≤ kv_val d1 16) := by first | exact hgr | exact Or.inl rfl | exact Or.inr (kv_flag_of hgr (by omega)) | (have h8 := kv_bigF (d := d1) (k := k47) (by omega) (by omega) (by omega); exact Or.inr (by omega))
              have hi9_hsm28 : 1 = 0 → d1 0 ≤ 4 := by first | exact hsm | (intro h; first | (exfalso; omega) | exact hsm (by omega))
              have hi9_hzz29 : 1 = 0 → ∀ j, 0 < j → j < k47 + 1 → d1 j = 0 := by intro h j a b; first | (exfalso; omega) | (rcases (by omega : j = k47 ∨ j < k47) with h8 | h8; (rw [h8]; omega); exact hzz (by omega) j a h8)
              exact ih47 (k47 + 1) (1) _ _ _ (by omega) (by omega) (by omega) hi9_hg126 hi9_hgr27 hi9_hsm28 hi9_hzz29 hdy (lv_sub hl [0, 1, 2] rfl)
    have hi9_hg130 : 0 ≤ 1 := by omega
    have hi9_hgr31 : kv_flag (0) (5 ≤ kv_val d1 16) := by first | exact Or.inl rfl | (have h8 := kv_ge0 d1; exact Or.inr (by omega))
    have hi9_hsm32 : 0 = 0 → d1 0 ≤ 4 := by intro h; omega
    have hi9_hzz33 : 0 = 0 → ∀ j, 0 < j → j < 1 → d1 j = 0 := by intro h j a b; omega
    exact lp47 (16 - 1 + 1) 1 (0) _ _ _ (by omega) (by omega) (by omega) hi9_hg130 hi9_hgr31 hi9_hsm32 hi9_hzz33 hdy (lv_sub hl [0, 1, 2] rfl)
  · have hc36 : ¬ (d1 0) ≤ 4 := fun h9 => hc36 ((nI_leI (by omega) (by omega)).mpr h9)
    refine lv_iconst (v := (nI (1))) hx hb zd_N_isGood_39 (by decide) ?_
    refine lv_goto (tgt := 44) hx hb zd_N_isGood_40 (by decide) ?_
    refine lv_istore_n (lv' := [(1, .int (nI (1))), (0, .ref o)]) hx hb zd_N_isGood_44 rfl hl (by decide) rfl (fun ls hl => ?_)
    refine lv_iconst (v := (nI (1))) hx hb zd_N_isGood_45 (by decide) ?_
    refine lv_istore_n (lv' := [(2, .int (nI (1))), (1, .int (nI (1))), (0, .ref o)]) hx hb zd_N_isGood_46 rfl hl (by decide) rfl (fun ls hl => ?_)
    have lp47 : ∀ (n47 k47 : Nat) (c34 : Nat) (H : Heap) (locs : List Loc) (ls : Array Slot), k47 ≤ 16 → 16 - k47 < n47 → 1 ≤ k47 → (c34 ≤ 1) → (kv_flag (c34) (5 ≤ kv_val d1 16)) → (c34 = 0 → d1 0 ≤ 4) → (c34 = 0 → ∀ j, 0 < j → j < k47 → d1 j = 0) → kz_dy (dC, dI) vwCl A s.heap H locs [(o, .inr (4, [.int th, .int sta, .ref mt, .ref mn, .ref ml, .ref mc, .ref mh, .ref mk, .ref mp, .ref mm, .ref mb, .ref mw, .ref mr, .ref mx, .ref me, .ref mP, .ref mQ, .ref ms, .int x5, .int (nI (sz_)), .ref mo, .ref mW, .ref mD, .ref mB, .ref mR, .ref mS])), (mp, .inl (cI, 16, .inl (kz_dg d1))), (mb, .inl (cI, 16, .inl (kz_dg d3))), (mP, .inl (cI, 16, .inl (kz_dg d6))), (mQ, .inl (cI, 16, .inl (kz_dg d7))), (ms, .inl (cI, 18, .inl (kz_dg d8))), (mx, .inl (cI, 32, .inl (kz_dg d9))), (me, .inl (cI, 18, .inl (kz_dg gme)))] → lv_has ls 3 [(2, .int (nI (k47))), (1, .int (nI (c34))), (0, .ref o)] → W p l e { frames := 2, cells := 0, slots := 0, locals := 54 } s m ([.ref o] : List Value).toArray below meth c H locs 0 0 (MQ below (va_Qi (fun (r : Int32) (u : Int32 × (Nat → Nat) × (Nat → Nat) × (Nat → Nat) × (Nat → Nat) × (Nat → Nat) × (Nat → Nat) × (Nat → Nat)) => (∀ j, u.2.1 j < 65536) ∧ (∀ j, u.2.2.1 j < 65536) ∧ (∀ j, u.2.2.2.1 j < 65536) ∧ (∀ j, u.2.2.2.2.1 j < 65536) ∧ (∀ j, u.2.2.2.2.2.1 j < 4294967296) ∧ (∀ j, u.2.2.2.2.2.2.1 j < 65536) ∧ (∀ j, u.2.2.2.2.2.2.2 j < 65536) ∧ (r = 0 ∨ r = 1) ∧ ((r = 1 ∧ kx_ok (kv_val (kv_fig gmt 0) 16) (kv_val (kv_fig gmt 8) 16) (kv_val (kv_fig gmt 16) 8) (kv_val (kv_fig gmt 24) 8)) ∨ (r = 0 ∧ ¬ kx_ok (kv_val (kv_fig gmt 0) 16) (kv_val (kv_fig gmt 8) 16) (kv_val (kv_fig gmt 16) 8) (kv_val (kv_fig gmt 24) 8))) ∧ (∀ j, j < 16 → u.2.1 j = kv_fig gmt 0 j) ∧ (r = 1 → (kx_isD (kv_val (kv_fig gmt 16) 8) (kv_val (kv_fig gmt 24) 8) (kv_val u.2.2.2.2.2.1 18) ∧ ∀ j, j < 18 → u.2.2.2.2.2.1 j < 65536)) ∧ True) (kz_B (dC, dI) vwCl A (fun u : Int32 × (Nat → Nat) × (Nat → Nat) × (Nat → Nat) × (Nat → Nat) × (Nat → Nat) × (Nat → Nat) × (Nat → Nat) => [(o, .inr (4, [.int th, .int sta, .ref mt, .ref mn, .ref ml, .ref mc, .ref mh, .ref mk, .ref mp, .ref mm, .ref mb, .ref mw, .ref mr, .ref mx, .ref me, .ref mP, .ref mQ, .ref ms, .int u.1, .int (nI (sz_)), .ref mo, .ref mW, .ref mD, .ref mB, .ref mR, .ref mS])), (mp, .inl (cI, 16, .inl (kz_dg u.2.1))), (mb, .inl (cI, 16, .inl (kz_dg u.2.2.1))), (mP, .inl (cI, 16, .inl (kz_dg u.2.2.2.1))), (mQ, .inl (cI, 16, .inl (kz_dg u.2.2.2.2.1))), (ms, .inl (cI, 18, .inl (kz_dg u.2.2.2.2.2.1))), (mx, .inl (cI, 32, .inl (kz_dg u.2.2.2.2.2.2.1))), (me, .inl (cI, 18, .inl (kz_dg u.2.2.2.2.2.2.2)))])) A) ([.ref o] : List Value).toArray s 0 0 A) (F0 m 47 ls []) := by
      intro n47
      induction n47 with
      | zero => intro k47; intros; omega
      | succ n47 ih47 =>
        intro k47 c34 H locs ls hi47 hn47 hblow hg1 hgr hsm hzz hdy hl
        refine lv_iload_n hx hb zd_N_isGood_47 rfl (lv_at hl 0 rfl) ?_
        refine lv_bipush (v := (nI (16))) hx hb zd_N_isGood_48 (by decide) ?_
        refine lv_icmp_ge (tgt := 78) hx hb zd_N_isGood_50 (by decide) (fun hc50 => ?_) (fun hc50 => ?_)
        · have hc50 : 16 ≤ k47 := (nI_leI (by omega) (by omega)).mp hc50
          refine lv_iload_n hx hb zd_N_isGood_78 rfl (lv_at hl 1 rfl) ?_
          refine lv_if_eq (tgt := 106) hx hb zd_N_isGood_79 (by decide) (fun hc79 => ?_) (fun hc79 => ?_)
          · have hc79 : c34 = 0 := (kx_nIeq (by omega) (by omega)).mp (by rw [nI_0]; exact hc79)
            refine lv_iconst (v := (nI (0))) hx hb zd_N_isGood_106 (by decide) ?_
            exact kz_zret F (x5, d1, d3, d6, d7, d8, d9, gme) hdy (by first | exact Or.inl rfl | exact Or.inr rfl | assumption) (⟨hd_d1, hd_d3, hd_d6, hd_d7, hd_d8, hd_d9, hd_gme, by first | exact Or.inl rfl | exact Or.inr rfl | assumption, by first | (exact Or.inr ⟨rfl, fun h9 => by have h8 := h9.1; rw [← hVp, kv_small0 (fun j a b => hzz (by omega) j a (by omega))] at h8; have h7 := hsm (by omega); omega⟩) | (exact Or.inr ⟨rfl, fun h9 => absurd h9.2.2.2 (q10.resolve_right (fun h => absurd (hc86.symm.trans h.1) (by decide))).2⟩) | (exact Or.inr ⟨rfl, fun h9 => (q16.resolve_left (fun h => absurd (hc99.symm.trans h.1) (by decide))).2 ⟨by have h8 := h9.2.1; omega, by have h8 := h9.2.2.1; omega⟩⟩), by exact q2, by intro h; exact absurd (show nI 0 = 1 from h) (by decide), trivial⟩) zd_N_isGood_107
          · have hc79 : ¬ c34 = 0 := fun h9 => hc79 (by have h8 := (kx_nIeq (by omega) (by omega)).mpr h9; rw [nI_0] at h8; exact h8)
            refine lv_aload_n hx hb zd_N_isGood_82 rfl (lv_at hl 2 rfl) ?_
            refine va_get (D := (dC, dI)) (ci := 4) (v := .int x5) (C := zR_N) (T := zT_N) (N := 26) hx hb hts (fun w h => kz_c (zi_N w h)) hown hK hdy.1 0 rfl rfl 18 (by decide) (hts _ (kz_c mw_609)) (fun _ h9 => h9) rfl zd_N_isGood_83 ?_
            refine lv_if_eq (tgt := 106) hx hb zd_N_isGood_86 (by decide) (fun hc86 => ?_) (fun hc86 => ?_)
            · refine lv_iconst (v := (nI (0))) hx hb zd_N_isGood_106 (by decide) ?_
              exact kz_zret F (x5, d1, d3, d6, d7, d8, d9, gme) hdy (by first | exact Or.inl rfl | exact Or.inr rfl | assumption) (⟨hd_d1, hd_d3, hd_d6, hd_d7, hd_d8, hd_d9, hd_gme, by first | exact Or.inl rfl | exact Or.inr rfl | assumption, by first | (exact Or.inr ⟨rfl, fun h9 => by have h8 := h9.1; rw [← hVp, kv_small0 (fun j a b => hzz (by omega) j a (by omega))] at h8; have h7 := hsm (by omega); omega⟩) | (exact Or.inr ⟨rfl, fun h9 => absurd h9.2.2.2 (q10.resolve_right (fun h => absurd (hc86.symm.trans h.1) (by decide))).2⟩) | (exact Or.inr ⟨rfl, fun h9 => (q16.resolve_left (fun h => absurd (hc99.symm.trans h.1) (by decide))).2 ⟨by have h8 := h9.2.1; omega, by have h8 := h9.2.2.1; omega⟩⟩), by exact q2, by intro h; exact absurd (show nI 0 = 1 from h) (by decide), trivial⟩) zd_N_isGood_107
            · refine lv_aload_n hx hb zd_N_isGood_89 rfl (lv_at hl 2 rfl) ?_
              refine lv_aload_n hx hb zd_N_isGood_90 rfl (lv_at hl 2 rfl) ?_
              refine va_get (D := (dC, dI)) (ci := 4) (v := .ref mb) (C := zR_N) (T := zT_N) (N := 26) hx hb hts (fun w h => kz_c (zi_N w h)) hown hK hdy.1 0 rfl rfl 10 (by decide) (hts _ (kz_c mw_601)) (fun _ h9 => h9) rfl zd_N_isGood_91 ?_
              refine lv_iconst (v := (nI (2))) hx hb zd_N_isGood_94 (by decide) ?_
              refine lv_iconst (v := (nI (2))) hx hb zd_N_isGood_95 (by decide) ?_
              refine kz_calli (wk := [(o, .inr (4, [.int th, .int sta, .ref mt, .ref mn, .ref ml, .ref mc, .ref mh, .ref mk, .ref mp, .ref mm, .ref mb, .ref mw, .ref mr, .ref mx, .ref me, .ref mP, .ref mQ, .ref ms, .int x5, .int (nI (sz_)), .ref mo, .ref mW, .ref mD, .ref mB, .ref mR, .ref mS])), (mp, .inl (cI, 16, .inl (kz_dg d1))), (mb, .inl (cI, 16, .inl (kz_dg d3))), (mP, .inl (cI, 16, .inl (kz_dg d6))), (mQ, .inl (cI, 16, .inl (kz_dg d7))), (ms, .inl (cI, 18, .inl (kz_dg d8))), (mx, .inl (cI, 32, .inl (kz_dg d9)))]) (va_runV (As := [.ref mb, .int (nI (2)), .int (nI (2))]) (rest := []) ⟨hx, hb, hml, hown, hts⟩ (c_F_isWithin l dC dI cI cAA cB cL me o mt mn ml mc mh mk mp mm mb mw mr mx mP mQ ms mo mW mD mB mR mS mb gme (th) (sta) (x5) sz_ d3 d1 _ hd_gme hd_d3 hd_d1) (cwV 3 hts (kz_g (kz_mc mw_711 (kz_mc mw_713 (kz_mc mw_24 (kz_mc mw_43 kz_mn)))) mw_714) rfl rfl rfl (by decide +kernel) ⟨Nat.le_of_ble_eq_true rfl, Nat.le_of_ble_eq_true rfl⟩) (kz_preV hdy hA hK hro hZ hN [7] (by decide) rfl [(false, 0), (false, 2), (false, 1)] rfl (by decide) [0, 1, 2, 3] rfl (fun _ h => by cases h) (fun _ h => by cases h) rfl (ci := 4) (q0 := 0) rfl rfl rfl) rfl rfl hl.1 rfl (lv_room (Nat.le_of_ble_eq_true rfl)) zd_N_isGood_96 ⟨Nat.le_of_ble_eq_true rfl, Nat.le_of_ble_eq_true rfl⟩) hdy hA [7] [0, 1, 2, 3, 4, 5, 6] rfl rfl (by decide) (by decide) (fun r u H locs hw hdy => ?_)
              obtain ⟨r36, rfl⟩ : ∃ z, z = r := ⟨_, rfl⟩
              obtain ⟨d35, rfl⟩ : ∃ z, z = u := ⟨_, rfl⟩
              try dsimp only at hw
              obtain ⟨hd_d35, hzr36, q37, -⟩ := hw
              have hdy : kz_dy (dC, dI) vwCl A s.heap H locs [(o, .inr (4, [.int th, .int sta, .ref mt, .ref mn, .ref ml, .ref mc, .ref mh, .ref mk, .ref mp, .ref mm, .ref mb, .ref mw, .ref mr, .ref mx, .ref me, .ref mP, .ref mQ, .ref ms, .int x5, .int (nI (sz_)), .ref mo, .ref mW, .ref mD, .ref mB, .ref mR, .ref mS])), (mp, .inl (cI, 16, .inl (kz_dg d1))), (mb, .inl (cI, 16, .inl (kz_dg d3))), (mP, .inl (cI, 16, .inl (kz_dg d6))), (mQ, .inl (cI, 16, .inl (kz_dg d7))), (ms, .inl (cI, 18, .inl (kz_dg d8))), (mx, .inl (cI, 32, .inl (kz_dg d9))), (me, .inl (cI, 18, .inl (kz_dg d35)))] := hdy.sub [0, 1, 2, 3, 4, 5, 6, 7] (by decide) rfl
              refine lv_if_eq (tgt := 106) hx hb zd_N_isGood_99 (by decide) (fun hc99 => ?_) (fun hc99 => ?_)
              · refine lv_iconst (v := (nI (0))) hx hb zd_N_isGood_106 (by decide) ?_
                exact kz_zret F (x5, d1, d3, d6, d7, d8, d9, d35) hdy (by first | exact Or.inl rfl | exact Or.inr rfl | assumption) (⟨hd_d1, hd_d3, hd_d6, hd_d7, hd_d8, hd_d9, hd_d35, by first | exact Or.inl rfl | exact Or.inr rfl | assumption, by first | (exact Or.inr ⟨rfl, fun h9 => by have h8 := h9.1; rw [← hVp, kv_small0 (fun j a b => hzz (by omega) j a (by omega))] at h8; have h7 := hsm (by omega); omega⟩) | (exact Or.inr ⟨rfl, fun h9 => absurd h9.2.2.2 (q10.resolve_right (fun h => absurd (hc86.symm.trans h.1) (by decide))).2⟩) | (exact Or.inr ⟨rfl, fun h9 => (q37.resolve_left (fun h => absurd (hc99.symm.trans h.1) (by decide))).2 ⟨by have h8 := h9.2.1; omega, by have h8 := h9.2.2.1; omega⟩⟩), by exact q2, by intro h; exact absurd (show nI 0 = 1 from h) (by decide), trivial⟩) zd_N_isGood_107
              · refine lv_iconst (v := (nI (1))) hx hb zd_N_isGood_102 (by decide) ?_
                refine lv_goto (tgt := 107) hx hb zd_N_isGood_103 (by decide) ?_
                exact kz_zret F (x5, d1, d3, d6, d7, d8, d9, d35) hdy (by first | exact Or.inl rfl | exact Or.inr rfl | assumption) (⟨hd_d1, hd_d3, hd_d6, hd_d7, hd_d8, hd_d9, hd_d35, by first | exact Or.inl rfl | exact Or.inr rfl | assumption, by exact Or.inl ⟨rfl, by have h8 := kv_flag_of hgr (by omega); omega, by have h8 := (q37.resolve_right (fun h => hc99 h.1)).2.1; omega, by have h8 := (q37.resolve_right (fun h => hc99 h.1)).2.2; omega, (q10.resolve_left (fun h => hc86 h.1)).2.1⟩, by exact q2, by exact fun _ => ⟨(q10.resolve_left (fun h => hc86 h.1)).2.2, q11 (q10.resolve_left (fun h => hc86 h.1)).1⟩, trivial⟩) zd_N_isGood_107
        · have hc50 : ¬ 16 ≤ k47 := fun h9 => hc50 ((nI_leI (by omega) (by omega)).mpr h9)
          refine lv_iload_n hx hb zd_N_isGood_53 rfl (lv_at hl 1 rfl) ?_
          refine lv_if_ne (tgt := 66) hx hb zd_N_isGood_54 (by decide) (fun hc54 => ?_) (fun hc54 => ?_)
          · have hc54 : ¬ c34 = 0 := fun h9 => hc54 (by have h8 := (kx_nIeq (by omega) (by omega)).mpr h9; rw [nI_0] at h8; exact h8)
            refine lv_iconst (v := (nI (1))) hx hb zd_N_isGood_66 (by decide) ?_
            refine lv_goto (tgt := 71) hx hb zd_N_isGood_67 (by decide) ?_
            refine lv_istore_n (lv' := [(1, .int (nI (1))), (2, .int (nI (k47))), (0, .ref o)]) hx hb zd_N_isGood_71 rfl hl (by decide) rfl (fun ls hl => ?_)
            refine lv_iinc (v := (nI (k47 + 1))) (lv' := [(2, .int (nI (k47 + 1))), (1, .int (nI (1))), (0, .ref o)]) hx hb zd_N_isGood_72 hl (k := 1) rfl (nI_1 _) (by decide) rfl (fun ls hl => ?_)
            refine lv_goto (tgt := 47) hx hb zd_N_isGood_75 (by decide) ?_
            have hi9_hg138 : 1 ≤ 1 := by omega
            have hi9_hgr39 : kv_flag (1) (5 ≤ kv_val d1 16) := by first | exact hgr | exact Or.inl rfl | exact Or.inr (kv_flag_of hgr (by omega)) | (have h8 := kv_bigF (d := d1) (k := k47) (by omega) (by omega) (by omega); exact Or.inr (by omega))
            have hi9_hsm40 : 1 = 0 → d1 0 ≤ 4 := by first | exact hsm | (intro h; first | (exfalso; omega) | exact hsm (by omega))
            have hi9_hzz41 : 1 = 0 → ∀ j, 0 < j → j < k47 + 1 → d1 j = 0 := by intro h j a b; first | (exfalso; omega) | (rcases (by omega : j = k47 ∨ j < k47) with h8 | h8; (rw [h8]; omega); exact hzz (by omega) j a h8)
            exact ih47 (k47 + 1) (1) _ _ _ (by omega) (by omega) (by omega) hi9_hg138 hi9_hgr39 hi9_hsm40 hi9_hzz41 hdy (lv_sub hl [0, 1, 2] rfl)
          · have hc54 : c34 = 0 := (kx_nIeq (by omega) (by omega)).mp (by rw [nI_0]; exact hc54)
            refine lv_aload_n hx hb zd_N_isGood_57 rfl (lv_at hl 2 rfl) ?_
            refine va_get (D := (dC, dI)) (ci := 4) (v := .ref mp) (C := zR_N) (T := zT_N) (N := 26) hx hb hts (fun w h => kz_c (zi_N w h)) hown hK hdy.1 0 rfl rfl 8 (by decide) (hts _ (kz_c mw_599)) (fun _ h9 => h9) rfl zd_N_isGood_58 ?_
            refine lv_iload_n hx hb zd_N_isGood_61 rfl (lv_at hl 0 rfl) ?_
            refine va_iald hx hb hK hdy.1 1 0 rfl rfl (vp_in_nI (by omega) (by omega)) zd_N_isGood_62 ?_
            refine lv_topi (fun x42 h9 => ?_)
            obtain rfl : x42 = nI (d1 k47) := h9.trans (kz_dgl d1 (by omega))
            have hbx42 := hd_d1 k47
            refine lv_if_le (tgt := 70) hx hb zd_N_isGood_63 (by decide) (fun hc63 => ?_) (fun hc63 => ?_)
            · have hc63 : (d1 k47) ≤ 0 := (nI_leI (by omega) (by omega)).mp (by rw [nI_0]; exact hc63)
              refine lv_iconst (v := (nI (0))) hx hb zd_N_isGood_70 (by decide) ?_
              refine lv_istore_n (lv' := [(1, .int (nI (0))), (2, .int (nI (k47))), (0, .ref o)]) hx hb zd_N_isGood_71 rfl hl (by decide) rfl (fun ls hl => ?_)
              refine lv_iinc (v := (nI (k47 + 1))) (lv' := [(2, .int (nI (k47 + 1))), (1, .int (nI (0))), (0, .ref o)]) hx hb zd_N_isGood_72 hl (k := 1) rfl (nI_1 _) (by decide) rfl (fun ls hl => ?_)
              refine lv_goto (tgt := 47) hx hb zd_N_isGood_75 (by decide) ?_
              have hi9_hg143 : 0 ≤ 1 := by omega
              have hi9_hgr44 : kv_flag (0) (5 ≤ kv_val d1 16) := by first | exact hgr | exact Or.inl rfl | exact Or.inr (kv_flag_of hgr (by omega)) | (have h8 := kv_bigF (d := d1) (k := k47) (by omega) (by omega) (by omega); exact Or.inr (by omega))
              have hi9_hsm45 : 0 = 0 → d1 0 ≤ 4 := by first | exact hsm | (intro h; first | (exfalso; omega) | exact hsm (by omega))
              have hi9_hzz46 : 0 = 0 → ∀ j, 0 < j → j < k47 + 1 → d1 j = 0 := by intro h j a b; first | (exfalso; omega) | (rcases (by omega : j = k47 ∨ j < k47) with h8 | h8; (rw [h8]; omega); exact hzz (by omega) j a h8)
              exact ih47 (k47 + 1) (0) _ _ _ (by omega) (by omega) (by omega) hi9_hg143 hi9_hgr44 hi9_hsm45 hi9_hzz46 hdy (lv_sub hl [0, 1, 2] rfl)
            · have hc63 : ¬ (d1 k47) ≤ 0 := fun h9 => hc63 (by have h8 := (nI_leI (by omega) (by omega)).mpr h9; rw [nI_0] at h8; exact h8)
              refine lv_iconst (v := (nI (1))) hx hb zd_N_isGood_66 (by decide) ?_
              refine lv_goto (tgt := 71) hx hb zd_N_isGood_67 (by decide) ?_
              refine lv_istore_n (lv' := [(1, .int (nI (1))), (2, .int (nI (k47))), (0, .ref o)]) hx hb zd_N_isGood_71 rfl hl (by decide) rfl (fun ls hl => ?_)
              refine lv_iinc (v := (nI (k47 + 1))) (lv' := [(2, .int (nI (k47 + 1))), (1, .int (nI (1))), (0, .ref o)]) hx hb zd_N_isGood_72 hl (k := 1) rfl (nI_1 _) (by decide) rfl (fun ls hl => ?_)
              refine lv_goto (tgt := 47) hx hb zd_N_isGood_75 (by decide) ?_
              have hi9_hg147 : 1 ≤ 1 := by omega
              have hi9_hgr48 : kv_flag (1) (5 ≤ kv_val d1 16) := by first | exact hgr | exact Or.inl rfl | exact Or.inr (kv_flag_of hgr (by omega)) | (have h8 := kv_bigF (d := d1) (k := k47) (by omega) (by omega) (by omega); exact Or.inr (by omega))
              have hi9_hsm49 : 1 = 0 → d1 0 ≤ 4 := by first | exact hsm | (intro h; first | (exfalso; omega) | exact hsm (by omega))
              have hi9_hzz50 : 1 = 0 → ∀ j, 0 < j → j < k47 + 1 → d1 j = 0 := by intro h j a b; first | (exfalso; omega) | (rcases (by omega : j = k47 ∨ j < k47) with h8 | h8; (rw [h8]; omega); exact hzz (by omega) j a h8)
              exact ih47 (k47 + 1) (1) _ _ _ (by omega) (by omega) (by omega) hi9_hg147 hi9_hgr48 hi9_hsm49 hi9_hzz50 hdy (lv_sub hl [0, 1, 2] rfl)
    have hi9_hg151 : 1 ≤ 1 := by omega
    have hi9_hgr52 : kv_flag (1) (5 ≤ kv_val d1 16) := by first | exact Or.inl rfl | (have h8 := kv_ge0 d1; exact Or.inr (by omega))
    have hi9_hsm53 : 1 = 0 → d1 0 ≤ 4 := by intro h; omega
    have hi9_hzz54 : 1 = 0 → ∀ j, 0 < j → j < 1 → d1 j = 0 := by intro h j a b; omega
    exact lp47 (16 - 1 + 1) 1 (1) _ _ _ (by omega) (by omega) (by omega) hi9_hg151 hi9_hgr52 hi9_hsm53 hi9_hzz54 hdy (lv_sub hl [0, 1, 2] rfl)

