/-! the law: its switch, its loop -/
set_option maxHeartbeats 4000000 in
set_option maxRecDepth 100000 in
theorem kw_S {dC : Nat → ClassId} {dI : Nat → Nat → Nat} {cI cAA cB cL : ClassId} {groots gstart : Nat → Int32} {A : Nat → Prop} {H0 H : Heap} {locs : List Loc} {h No out : Nat} (hSt : kw_St dC dI cI cAA cB cL groots gstart A H0 H locs h No out) : va_S A H0 H locs := by
  obtain ⟨τ, oo, ρs, ρw, ρk, wK, wM, hKK, hKM, hdy⟩ := hSt
  exact hdy.2.2
set_option maxHeartbeats 4000000 in
set_option maxRecDepth 100000 in
theorem w_switch {p : Program} {l : Launch} {e : Env} {s : State} {m : MethodId} {below : List Frame} {meth : Method} {c : Code} {Q : State → Prop} {b L : Nat} {xs : Nat → Int32} {A : Nat → Prop} {dC : Nat → ClassId} {dI : Nat → Nat → Nat} {cI cAA cB cL : ClassId} {one expo start roots : Nat} {gone gexpo : Nat → Nat} {gstart groots : Nat → Int32} {sI sA sS : Nat} (C : kw_C p l s m c b L xs A dC dI cI cAA cB cL one expo start roots gone gexpo gstart groots sI sA sS) {i : Nat} (hi : i + 4 ≤ L) {h No out : Nat} {H : Heap} {locs : List Loc} {cells slots : Nat} (hc9 : cells + 1 ≤ 601024) (hs9 : slots + 6 ≤ 7293034) (hSt : kw_St dC dI cI cAA cB cL groots gstart A s.heap H locs h No out) {ls : Array Slot} (hl : lv_has ls 7 [(0, .ref b), (1, .ref h), (2, .ref No), (3, .ref out), (4, .int (nI (i)))]) (kk : kw_K p l e s m below meth c Q b i dC dI cI cAA cB cL groots gstart A h No out (cells + 1) (slots + 6) 437) : W p l e room_1 s m #[Value.ref b] below meth c H locs cells slots Q (F0 m 32 ls []) := by
  obtain ⟨hl9, hx, hb, hml, hown, hts, hX, hbl, hL, hA, hAn, hK, hro, hZ, hPI, hPA, hPS, hNA, hNS, hd_gone, hd_gexpo, h1o, hex, hgr, hgs⟩ := id C
  have hbA : ¬ A b := fun q => absurd (hAn b q) (Nat.not_le.mpr hbl)
  have hSx := kw_S hSt
  refine lv_aload_n hx hb zd_L_law_32 rfl (lv_at hl 0 rfl) ?_
  refine lv_iload hx hb zd_L_law_33 (lv_at hl 4 rfl) ?_
  refine va_sld hx hb hX hbl hbA hSx (vp_in_nI (by omega) (by omega)) zd_L_law_35 ?_
  refine lv_bipush (v := nI 15) hx hb zd_L_law_36 (by decide) ?_
  refine lv_iand hx hb zd_L_law_38 ?_
  refine lv_topi (fun x _ => ?_)
  have kd : W p l e room_1 s m #[Value.ref b] below meth c H locs cells slots Q (F0 m 437 ls []) := W.widen (k := cells + 1) (n := slots + 6) (by omega) (by omega) (kk H locs ls hSt hl)
  by_cases hneg : x < 0
  · refine lv_tableOut (tgt := 437) hx hb zd_L_law_39 (Or.inl ?_) (by decide) kd
    have h9 := Int32.lt_iff_toInt_lt.mp hneg
    rw [show (0 : Int32).toInt = 0 from by decide] at h9
    exact h9
  · obtain ⟨j, hj, rfl⟩ := nI_of hneg
    by_cases h11 : 10 < j
    · exact lv_tableOut (tgt := 437) hx hb zd_L_law_39 (Or.inr (by rw [nI_toInt hj]; omega)) (by decide) kd
    · have h9 : j = 0 ∨ j = 1 ∨ j = 2 ∨ j = 3 ∨ j = 4 ∨ j = 5 ∨ j = 6 ∨ j = 7 ∨ j = 8 ∨ j = 9 ∨ j = 10 := by omega
      rcases h9 with rfl | rfl | rfl | rfl | rfl | rfl | rfl | rfl | rfl | rfl | rfl
      · refine lv_tableIn (off := 57) (tgt := 96) hx hb zd_L_law_39 (by decide) (by decide) (by decide) (by decide) ?_
        rcases kw_ix (xs (i + 1)) 7 (by decide) with hb1 | ⟨w_, hw_, hx1⟩
        · exact w_number1 C hi (xs (i + 1)) (xs (i + 2)) (xs (i + 3)) rfl rfl rfl hb1 hc9 hs9 hSt hl kk
        · rcases kw_ix (xs (i + 2)) 8 (by decide) with hb2 | ⟨i_, hi_, hx2⟩
          · exact w_number2 C hi w_ (xs (i + 2)) (xs (i + 3)) hx1 rfl rfl hw_ hb2 hc9 hs9 hSt hl kk
          · exact w_number0 C hi w_ i_ ((xs (i + 3))).toUInt32.toNat hx1 hx2 (kz_u _) hw_ hi_ (kz_ult _) hc9 hs9 hSt hl kk
      · refine lv_tableIn (off := 106) (tgt := 145) hx hb zd_L_law_39 (by decide) (by decide) (by decide) (by decide) ?_
        rcases kw_ix (xs (i + 1)) 7 (by decide) with hb1 | ⟨w_, hw_, hx1⟩
        · exact w_small1 C hi (xs (i + 1)) (xs (i + 2)) (xs (i + 3)) rfl rfl rfl hb1 hc9 hs9 hSt hl kk
        · exact w_small0 C hi w_ (xs (i + 2)) (xs (i + 3)) hx1 rfl rfl hw_ hc9 hs9 hSt hl kk
      · refine lv_tableIn (off := 175) (tgt := 214) hx hb zd_L_law_39 (by decide) (by decide) (by decide) (by decide) ?_
        exact w_offer C hi hc9 hs9 hSt hl kk
      · refine lv_tableIn (off := 188) (tgt := 227) hx hb zd_L_law_39 (by decide) (by decide) (by decide) (by decide) ?_
        exact w_answer C hi hc9 hs9 hSt hl kk
      · refine lv_tableIn (off := 201) (tgt := 240) hx hb zd_L_law_39 (by decide) (by decide) (by decide) (by decide) ?_
        exact w_accept C hi hc9 hs9 hSt hl kk
      · refine lv_tableIn (off := 214) (tgt := 253) hx hb zd_L_law_39 (by decide) (by decide) (by decide) (by decide) ?_
        rcases kw_ix (xs (i + 1)) 4 (by decide) with hb1 | ⟨w_, hw_, hx1⟩
        · exact w_alter1 C hi (xs (i + 1)) (xs (i + 2)) (xs (i + 3)) rfl rfl rfl hb1 hc9 hs9 hSt hl kk
        · rcases kw_ix (xs (i + 2)) 8 (by decide) with hb2 | ⟨i_, hi_, hx2⟩
          · exact w_alter2 C hi w_ (xs (i + 2)) (xs (i + 3)) hx1 rfl rfl hw_ hb2 hc9 hs9 hSt hl kk
          · exact w_alter0 C hi w_ i_ ((xs (i + 3))).toUInt32.toNat hx1 hx2 (kz_u _) hw_ hi_ (kz_ult _) hc9 hs9 hSt hl kk
      · refine lv_tableIn (off := 266) (tgt := 305) hx hb zd_L_law_39 (by decide) (by decide) (by decide) (by decide) ?_
        rcases kw_ix (xs (i + 1)) 4 (by decide) with hb1 | ⟨w_, hw_, hx1⟩
        · exact w_sent1 C hi (xs (i + 1)) (xs (i + 2)) rfl rfl hb1 hc9 hs9 hSt hl kk
        · rcases kw_ix (xs (i + 2)) 8 (by decide) with hb2 | ⟨i_, hi_, hx2⟩
          · exact w_sent2 C hi w_ (xs (i + 2)) hx1 rfl hw_ hb2 hc9 hs9 hSt hl kk
          · exact w_sent0 C hi w_ i_ hx1 hx2 hw_ hi_ hc9 hs9 hSt hl kk
      · refine lv_tableIn (off := 306) (tgt := 345) hx hb zd_L_law_39 (by decide) (by decide) (by decide) (by decide) ?_
        rcases kw_ix (xs (i + 1)) 2 (by decide) with hb1 | ⟨w_, hw_, hx1⟩
        · exact w_key1 C hi (xs (i + 1)) (xs (i + 2)) rfl rfl hb1 hc9 hs9 hSt hl kk
        · rcases kw_ix (xs (i + 2)) 16 (by decide) with hb2 | ⟨i_, hi_, hx2⟩
          · exact w_key2 C hi w_ (xs (i + 2)) hx1 rfl hw_ hb2 hc9 hs9 hSt hl kk
          · exact w_key0 C hi w_ i_ hx1 hx2 hw_ hi_ hc9 hs9 hSt hl kk
      · refine lv_tableIn (off := 346) (tgt := 385) hx hb zd_L_law_39 (by decide) (by decide) (by decide) (by decide) ?_
        exact w_state C hi hc9 hs9 hSt hl kk
      · refine lv_tableIn (off := 359) (tgt := 398) hx hb zd_L_law_39 (by decide) (by decide) (by decide) (by decide) ?_
        exact w_begin C hi hc9 hs9 hSt hl kk
      · refine lv_tableIn (off := 370) (tgt := 409) hx hb zd_L_law_39 (by decide) (by decide) (by decide) (by decide) ?_
        rcases kw_ix (xs (i + 1)) 8 (by decide) with hb1 | ⟨i_, hi_, hx1⟩
        · exact w_secret1 C hi (xs (i + 1)) rfl hb1 hc9 hs9 hSt hl kk
        · exact w_secret0 C hi i_ hx1 hi_ hc9 hs9 hSt hl kk
set_option maxHeartbeats 4000000 in
set_option maxRecDepth 100000 in
theorem w_head {p : Program} {l : Launch} {e : Env} {s : State} {m : MethodId} {below : List Frame} {meth : Method} {c : Code} {Q : State → Prop} {b L : Nat} {xs : Nat → Int32} {A : Nat → Prop} {dC : Nat → ClassId} {dI : Nat → Nat → Nat} {cI cAA cB cL : ClassId} {one expo start roots : Nat} {gone gexpo : Nat → Nat} {gstart groots : Nat → Int32} {sI sA sS : Nat} (C : kw_C p l s m c b L xs A dC dI cI cAA cB cL one expo start roots gone gexpo gstart groots sI sA sS) {i : Nat} (hi : i ≤ 4096) {h No out : Nat} {H : Heap} {locs : List Loc} {cells slots : Nat} (hSt : kw_St dC dI cI cAA cB cL groots gstart A s.heap H locs h No out) {ls : Array Slot} (hl : lv_has ls 7 [(0, .ref b), (1, .ref h), (2, .ref No), (3, .ref out), (4, .int (nI (i)))]) (kx : L < i + 4 → W p l e room_1 s m #[Value.ref b] below meth c H locs cells slots Q (F0 m 443 ls [])) (kg : i + 4 ≤ L → W p l e room_1 s m #[Value.ref b] below meth c H locs cells slots Q (F0 m 32 ls [])) : W p l e room_1 s m #[Value.ref b] below meth c H locs cells slots Q (F0 m 23 ls []) := by
  obtain ⟨hl9, hx, hb, hml, hown, hts, hX, hbl, hL, hA, hAn, hK, hro, hZ, hPI, hPA, hPS, hNA, hNS, hd_gone, hd_gexpo, h1o, hex, hgr, hgs⟩ := id C
  have hbA : ¬ A b := fun q => absurd (hAn b q) (Nat.not_le.mpr hbl)
  have hSx := kw_S hSt
  have key : (nI L - nI 4).toInt = (L : Int) - (4 : Nat) := pk_sub_toInt (by omega) (by omega)
  refine lv_iload hx hb zd_L_law_23 (lv_at hl 4 rfl) ?_
  refine lv_aload_n hx hb zd_L_law_25 rfl (lv_at hl 0 rfl) ?_
  refine va_slen hx hb hX hbl hbA hSx zd_L_law_26 ?_
  refine lv_iconst (v := nI 4) hx hb zd_L_law_27 (by decide) ?_
  refine lv_isub hx hb zd_L_law_28 ?_
  refine lv_icmp_gt (tgt := 443) hx hb zd_L_law_29 (by decide) (fun hc => kx ?_) (fun hc => kg ?_)
  · have h9 : nI L - nI 4 < nI i := hc
    rw [Int32.lt_iff_toInt_lt, key, nI_toInt (by omega)] at h9
    omega
  · have h9 : ¬ nI L - nI 4 < nI i := hc
    rw [Int32.lt_iff_toInt_lt, key, nI_toInt (by omega)] at h9
    omega
set_option maxHeartbeats 4000000 in
set_option maxRecDepth 100000 in
theorem w_loop {p : Program} {l : Launch} {e : Env} {s : State} {m : MethodId} {below : List Frame} {meth : Method} {c : Code} {b L : Nat} {xs : Nat → Int32} {A : Nat → Prop} {dC : Nat → ClassId} {dI : Nat → Nat → Nat} {cI cAA cB cL : ClassId} {one expo start roots : Nat} {gone gexpo : Nat → Nat} {gstart groots : Nat → Int32} {sI sA sS : Nat} (C : kw_C p l s m c b L xs A dC dI cI cAA cB cL one expo start roots gone gexpo gstart groots sI sA sS) (hr : meth.sig.returnType = ret) (hlocks : meth.locks = false) {h No out : Nat} : ∀ (n i cells slots : Nat) (H : Heap) (locs : List Loc) (ls : Array Slot), L < i + 4 * n + 4 → i ≤ 2052 → cells + n ≤ 601024 → slots + 6 * n ≤ 7293034 → kw_St dC dI cI cAA cB cL groots gstart A s.heap H locs h No out → lv_has ls 7 [(0, .ref b), (1, .ref h), (2, .ref No), (3, .ref out), (4, .int (nI (i)))] → W p l e room_1 s m #[Value.ref b] below meth c H locs cells slots (lw_Z below #[Value.ref b] s) (F0 m 23 ls []) := by
  obtain ⟨hl9, hx, hb, hml, hown, hts, hX, hbl, hL, hA, hAn, hK, hro, hZ, hPI, hPA, hPS, hNA, hNS, hd_gone, hd_gexpo, h1o, hex, hgr, hgs⟩ := id C
  have hbA : ¬ A b := fun q => absurd (hAn b q) (Nat.not_le.mpr hbl)
  have out9 : ∀ (cells slots : Nat) (H : Heap) (locs : List Loc) (ls : Array Slot), cells ≤ 601024 → slots ≤ 7293034 → va_S A s.heap H locs → W p l e room_1 s m #[Value.ref b] below meth c H locs cells slots (lw_Z below #[Value.ref b] s) (F0 m 443 ls []) := by
    intro cells slots H locs ls h1 h2 hSx
    refine lv_iconst (v := 1) hx hb zd_L_law_443 (by decide) ?_
    refine va_forget (fun q hq => hAn _ (hSx.2.2 q hq)) ?_
    refine W.widen (k := 601024) (n := 7293034) h1 h2 ?_
    exact lw_ret hx hb hr hlocks zd_L_law_444
  intro n
  induction n with
  | zero =>
    intro i cells slots H locs ls h1 h2 h3 h4 hSt hl
    exact w_head C (by omega) hSt hl (fun _ => out9 _ _ _ _ _ (by omega) (by omega) (kw_S hSt)) (fun h9 => absurd h9 (by omega))
  | succ n ih =>
    intro i cells slots H locs ls h1 h2 h3 h4 hSt hl
    refine w_head C (by omega) hSt hl (fun _ => out9 _ _ _ _ _ (by omega) (by omega) (kw_S hSt)) (fun h9 => ?_)
    refine w_switch C h9 (by omega) (by omega) hSt hl ?_
    intro H1 locs1 ls1 hSt1 hl1
    refine lv_iinc (v := nI (i + 4)) (lv' := [(4, .int (nI (i + 4))), (0, .ref b), (1, .ref h), (2, .ref No), (3, .ref out)]) hx hb zd_L_law_437 hl1 (k := 4) rfl (by exact nI_add _ _) (by decide) rfl (fun ls2 hl2 => ?_)
    refine lv_goto (tgt := 23) hx hb zd_L_law_440 (by decide) ?_
    exact ih (i + 4) (cells + 1) (slots + 6) H1 locs1 ls2 (by omega) (by omega) (by omega) (by omega) hSt1 (lv_sub hl2 [1, 2, 3, 4, 0] rfl)

