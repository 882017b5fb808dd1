set_option maxHeartbeats 4000000 in
set_option maxRecDepth 100000 in
/-- THE LAW, from its entry -/
theorem whole_start {p : Program} {e : Env} {s : State} {m : MethodId} {below : List Frame} {meth : Method} {c : Code} (l : Launch) (hl9 : l.stackTraces = false) {b L : Nat} {xs : Nat → Int32} (hL : L ≤ 2048) (C0 : lw_At p s m meth c b L xs) : W p l e room_1 s m #[Value.ref b] below meth c s.heap [] 0 0 (lw_Z below #[Value.ref b] s) (entryFrame m ([Value.ref b] : List Value).toArray 7) := by
  obtain ⟨hx, hb, hr, hml, hown, hts, hX, hbl, hlocks, hgv⟩ := C0
  have hs := flat_of_before _ hgv
  have hts2 : ∀ w ∈ Cond.initialized zR_L :: kz_T, w.before #[Value.ref b] s = true := fun w hw => (List.mem_cons.mp hw).elim (fun h9 => by rw [h9]; exact hts _ (List.mem_filter.mp mw_38).1) (fun h9 => hts w (List.mem_filter.mp h9).1)
  obtain ⟨c0, i0, hKn0⟩ := u_known (C := zR_K) (T := zT_K) (N := 13) (n := 13) hts2 (fun w h => kz_c (zi_K w h)) (hts2 _ (kz_c mw_54))
  obtain ⟨c1, i1, hKn1⟩ := u_known (C := zR_M) (T := zT_M) (N := 6) (n := 6) hts2 (fun w h => kz_c (zi_M w h)) (hts2 _ (kz_c mw_89))
  obtain ⟨c2, i2, hKn2⟩ := u_known (C := zR_H) (T := zT_H) (N := 5) (n := 5) hts2 (fun w h => kz_c (zi_H w h)) (hts2 _ (kz_c mw_64))
  obtain ⟨c3, i3, hKn3⟩ := u_known (C := zR_D) (T := zT_D) (N := 3) (n := 3) hts2 (fun w h => kz_c (zi_D w h)) (hts2 _ (kz_c mw_114))
  obtain ⟨c4, i4, hKn4⟩ := u_known (C := zR_N) (T := zT_N) (N := 26) (n := 26) hts2 (fun w h => kz_c (zi_N w h)) (hts2 _ (kz_c mw_514))
  obtain ⟨dC, dI, hKc⟩ : ∃ (dC : Nat → ClassId) (dI : Nat → Nat → Nat), ∀ (k : Nat) (q : vw_C), vwCl[k]? = some q → u_Kn s q.1 q.2.1 q.2.2 (dC k) (dI k) := by
    refine ⟨fun k => match k with | 0 => c0 | 1 => c1 | 2 => c2 | 3 => c3 | _ => c4, fun k => match k with | 0 => i0 | 1 => i1 | 2 => i2 | 3 => i3 | _ => i4, ?_⟩
    intro k q hq
    match k, hq with
    | 0, hq => cases hq; exact hKn0
    | 1, hq => cases hq; exact hKn1
    | 2, hq => cases hq; exact hKn2
    | 3, hq => cases hq; exact hKn3
    | 4, hq => cases hq; exact hKn4
    | k + 5, hq => simp at hq
  obtain ⟨cI, cAA, cB, cL, hAr, hGA, hcI⟩ := kw_arrays (hts2 _ (kz_c mw_87)) (hts2 _ (kz_c mw_442)) (hts2 _ (kz_c mw_815)) (hts (.arrayOver (.array .int)) (by decide +kernel))
  have hA0 : ∀ a : Nat, a < s.heap.size → ¬ (fun q : Nat => s.heap.size ≤ q) a := fun _ h => Nat.not_le.mpr h
  obtain ⟨one, z_one, r_one, a_one⟩ := kw_static (C := "KeyMeeting$Modulus") (n := "ONE") (N := 8) hA0 kw_gone (by decide) (hts (.laysStatic "KeyMeeting$Modulus" "ONE" "[I") (by decide +kernel)) (hts2 _ (kz_c mw_41)) (hs _ (by decide +kernel)) (hs _ (by decide +kernel)) (fun j hj => hs _ (kw_mone j hj)) hcI
  obtain ⟨expo, z_expo, r_expo, a_expo⟩ := kw_static (C := "KeyMeeting$Host") (n := "EXPONENT_WORDS") (N := 8) hA0 kw_gexpo (by decide) (hts (.laysStatic "KeyMeeting$Host" "EXPONENT_WORDS" "[I") (by decide +kernel)) (hts2 _ (kz_c mw_40)) (hs _ (by decide +kernel)) (hs _ (by decide +kernel)) (fun j hj => hs _ (kw_mexpo j hj)) hcI
  obtain ⟨start, z_start, r_start, a_start⟩ := kw_static (C := "KeyMeeting$Digest") (n := "START") (N := 8) hA0 kw_gstart (by decide) (hts (.laysStatic "KeyMeeting$Digest" "START" "[I") (by decide +kernel)) (hts2 _ (kz_c mw_42)) (hs _ (by decide +kernel)) (hs _ (by decide +kernel)) (fun j hj => hs _ (kw_mstart j hj)) hcI
  obtain ⟨roots, z_roots, r_roots, a_roots⟩ := kw_static (C := "KeyMeeting$Digest") (n := "ROOTS") (N := 64) hA0 kw_groots (by decide) (hts (.laysStatic "KeyMeeting$Digest" "ROOTS" "[I") (by decide +kernel)) (hts2 _ (kz_c mw_42)) (hs _ (by decide +kernel)) (hs _ (by decide +kernel)) (fun j hj => hs _ (kw_mroots j hj)) hcI
  have hU := hs (.isRef (.static Bundle.tN "UNASSIGNED_STACK" Bundle.steD)) (by decide +kernel)
  have hV := hs (.isRef (.static Bundle.tN "SUPPRESSED_SENTINEL" Bundle.listD)) (by decide +kernel)
  have l1 : Cond.laysStatic Bundle.tN "UNASSIGNED_STACK" Bundle.steD ∈ lw_tbl := by decide +kernel
  have l2 : Cond.laysStatic Bundle.tN "SUPPRESSED_SENTINEL" Bundle.listD ∈ lw_tbl := by decide +kernel
  have l3 : Cond.initialized Bundle.tN ∈ lw_tbl := by decide +kernel
  obtain ⟨sI, -, -, -, eI, -⟩ := Cond.exactly_spec (hs (.exactly (.string "KeyMeeting" 141) "java/lang/String") (by decide +kernel))
  have hPI : kz_PI sI s := ⟨kw_thr hts hU hV l1 l2 l3 kw_atI, vk_R.of (hts (.stringRef "KeyMeeting" 141 "no such index") (by decide +kernel)) eI⟩
  obtain ⟨sA, -, -, -, eA, -⟩ := Cond.exactly_spec (hs (.exactly (.string "KeyMeeting" 70) "java/lang/String") (by decide +kernel))
  have hPA : kz_PA sA s := ⟨kw_thr hts hU hV l1 l2 l3 kw_atA, vk_R.of (hts (.stringRef "KeyMeeting" 70 "below 0") (by decide +kernel)) eA⟩
  obtain ⟨sS, -, -, -, eS, -⟩ := Cond.exactly_spec (hs (.exactly (.string "KeyMeeting" 130) "java/lang/String") (by decide +kernel))
  have hPS : kz_PS sS s := ⟨kw_thr hts hU hV l1 l2 l3 kw_atS, vk_R.of (hts (.stringRef "KeyMeeting" 130 "no keys") (by decide +kernel)) eS⟩
  have hNA : va_Nc "java/lang/IllegalArgumentException" "java/lang/IndexOutOfBoundsException" s := va_Nc.of (hs (.not (.castable "java/lang/IllegalArgumentException" "java/lang/IndexOutOfBoundsException")) (by decide +kernel))
  have hNS : va_Nc "java/lang/IllegalStateException" "java/lang/IndexOutOfBoundsException" s := va_Nc.of (hs (.not (.castable "java/lang/IllegalStateException" "java/lang/IndexOutOfBoundsException")) (by decide +kernel))
  have n0 : va_Nw (Cond.methodLinkNest zR_K 41 zy_H_init zR_K) s := va_Nw.of rfl (hts _ (by decide +kernel))
  have n1 : va_Nw (Cond.methodLinkNest zR_K 48 zy_M_init zR_K) s := va_Nw.of rfl (hts _ (by decide +kernel))
  have n2 : va_Nw (Cond.methodLinkNest zR_K 55 zy_D_init zR_K) s := va_Nw.of rfl (hts _ (by decide +kernel))
  have hN : kz_N [Cond.methodLinkNest zR_K 41 zy_H_init zR_K, Cond.methodLinkNest zR_K 48 zy_M_init zR_K, Cond.methodLinkNest zR_K 55 zy_D_init zR_K] s := fun w hw => by
    rcases List.mem_cons.mp hw with h9 | hw
    · rw [h9]; exact n0
    rcases List.mem_cons.mp hw with h9 | hw
    · rw [h9]; exact n1
    rcases List.mem_cons.mp hw with h9 | hw
    · rw [h9]; exact n2
    · cases hw
  have hro : kz_ro (dC, dI) vwCl (fun q : Nat => s.heap.size ≤ q) s s.heap [(one, .inl (cI, 8, .inl (kz_dg kw_done))), (expo, .inl (cI, 8, .inl (kz_dg kw_dexpo))), (start, .inl (cI, 8, .inl kw_gstart)), (roots, .inl (cI, 64, .inl kw_groots))] := by
    refine ⟨fun k q hq => ?_, fun k q hq => ?_⟩
    · match k, hq with
      | 0, hq => cases hq; exact r_one
      | 1, hq => cases hq; exact r_expo
      | 2, hq => cases hq; exact r_start
      | 3, hq => cases hq; exact r_roots
      | k + 4, hq => simp at hq
    · match k, hq with
      | 0, hq => cases hq; exact a_one
      | 1, hq => cases hq; exact a_expo
      | 2, hq => cases hq; exact a_start
      | 3, hq => cases hq; exact a_roots
      | k + 4, hq => simp at hq
  have hZ : kz_Z [("KeyMeeting$Modulus", "ONE", "[I", Value.ref one), ("KeyMeeting$Host", "EXPONENT_WORDS", "[I", Value.ref expo), ("KeyMeeting$Digest", "START", "[I", Value.ref start), ("KeyMeeting$Digest", "ROOTS", "[I", Value.ref roots)] (fun q : Nat => s.heap.size ≤ q) s s.heap := fun z hz => by
    rcases List.mem_cons.mp hz with h9 | hz
    · rw [h9]; exact z_one
    rcases List.mem_cons.mp hz with h9 | hz
    · rw [h9]; exact z_expo
    rcases List.mem_cons.mp hz with h9 | hz
    · rw [h9]; exact z_start
    rcases List.mem_cons.mp hz with h9 | hz
    · rw [h9]; exact z_roots
    cases hz
  have hl := lv_entry ([.ref b]) (n := 7) (Nat.le_of_ble_eq_true rfl)
  rw [lg_entry_eq]
  exact w_start ⟨hl9, hx, hb, hml, hown, hts2, hX, hbl, hL, fun _ h => h, fun _ h => h, ⟨hKc, hAr⟩, hro, hZ, hPI, hPA, hPS, hNA, hNS, kw_bone, kw_bexpo, kw_vone, kw_vexpo, kw_eroots, kw_estart⟩ hr hlocks hGA hN hl

