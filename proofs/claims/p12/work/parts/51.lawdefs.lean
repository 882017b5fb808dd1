/-! the law: its world between two calls, what stands through its loop (by wip/law.py) -/
/-! a call whose world is the first part of the caller's: the other part stays as it is -/
theorem kz_dy.two {D : va_G} {cl : List vw_C} {A : Nat → Prop} {H0 H : Heap} {locs : List Loc} {X F : va_W} (h : kz_dy D cl A H0 H locs (X ++ F)) : kz_dy D cl A H0 H locs (F ++ X) := by
  have h1 : va_P D cl (([] ++ X) ++ F) H := h.1
  have h2 : va_D A (([] ++ X) ++ F) := h.2.1
  exact ⟨h1.swap, h2.swap, h.2.2⟩
theorem kz_dy.part {D : va_G} {cl : List vw_C} {A : Nat → Prop} {H0 H : Heap} {locs : List Loc} {X X' F : va_W} (h : kz_dy D cl A H0 H locs (X ++ F)) (is : List Nat) (hn : va_nd is = true) (hs : is.map (fun i => X[i]?) = X'.map some) : kz_dy D cl A H0 H locs (X' ++ F) := ⟨h.1.part is hs, h.2.1.part is hn hs, h.2.2⟩
theorem kz_apC {X F wc : va_W} {is : List Nat} (hs : is.map (fun i => X[i]?) = wc.map some) : is.map (fun i => (X ++ F)[i]?) = wc.map some := by
  rw [← hs]
  refine List.map_congr_left (fun i hi => ?_)
  have h1 : X[i]? ∈ wc.map some := by rw [← hs]; exact List.mem_map.mpr ⟨i, hi, rfl⟩
  obtain ⟨q, -, h2⟩ := List.mem_map.mp h1
  exact List.getElem?_append_left (List.getElem?_eq_some_iff.mp h2.symm).1
section KZF
variable {p : Program} {l : Launch} {e : Env} {R : Room} {s : State} {m : MethodId} {args : Array Value} {below : List Frame} {meth : Method} {c : Code} {H : Heap} {locs : List Loc} {cells slots : Nat} {Q : State → Prop}
variable {D : va_G} {cl : List vw_C} {A : Nat → Prop} {ww wc wk F : va_W}
variable {pc mc ms : Nat} {ls : Array Slot} {rest st0 : List Value} {a : Array Value}
theorem kz_calliF {S : Type} {post : Int32 → S → Prop} {w : S → va_W} (hr : va_Run p l e R s m args below meth c H locs cells slots mc ms (F0 m pc ls st0) rest (va_Qi post (kz_B D cl (va_A wc H.size) w) (va_A wc H.size) a) (va_A wc H.size))
    (hdy : kz_dy D cl A s.heap H locs (ww ++ F)) (hA : ∀ q, s.heap.size ≤ q → A q) (isC isR : List Nat) (hC : isC.map (fun i => ww[i]?) = wc.map some) (hR : isR.map (fun i => ww[i]?) = wk.map some) (hn : va_nd isR = true) (hdis : ∀ i ∈ isR, i ∉ isC)
    (kk : ∀ (r : Int32) (u : S) (H1 : Heap) (locs1 : List Loc), post r u → kz_dy D cl A s.heap H1 locs1 ((wk ++ w u) ++ F) → W p l e R s m args below meth c H1 locs1 (cells + mc) (slots + ms) Q (F0 m (pc + 3) ls (.int r :: rest))) : W p l e R s m args below meth c H locs cells slots Q (F0 m pc ls st0) := by
  have hF := va_free hdy.2.1 hdy.2.2 hA isC (kz_apC hC)
  refine va_calli hr hdy.2.2 (fun q _ h => hF q h) hF (fun r u t H1 locs1 ht hvm hw hB hz1 hk1 hS => ?_)
  obtain ⟨hP1, hD1⟩ := hB
  rw [ht] at hP1
  obtain ⟨hP, hD⟩ := va_joinQ hdy.1 hdy.2.1 isC isR hC hR hn hdis hk1 hF hP1 hD1
  exact kk r u H1 locs1 hw ⟨hP, hD, hS⟩
theorem kz_calllF {S : Type} {post : Int64 → S → Prop} {w : S → va_W} (hr : va_Run p l e R s m args below meth c H locs cells slots mc ms (F0 m pc ls st0) rest (va_Ql post (kz_B D cl (va_A wc H.size) w) (va_A wc H.size) a) (va_A wc H.size))
    (hdy : kz_dy D cl A s.heap H locs (ww ++ F)) (hA : ∀ q, s.heap.size ≤ q → A q) (isC isR : List Nat) (hC : isC.map (fun i => ww[i]?) = wc.map some) (hR : isR.map (fun i => ww[i]?) = wk.map some) (hn : va_nd isR = true) (hdis : ∀ i ∈ isR, i ∉ isC)
    (kk : ∀ (r : Int64) (u : S) (H1 : Heap) (locs1 : List Loc), post r u → kz_dy D cl A s.heap H1 locs1 ((wk ++ w u) ++ F) → W p l e R s m args below meth c H1 locs1 (cells + mc) (slots + ms) Q (F0 m (pc + 3) ls (.long r :: rest))) : W p l e R s m args below meth c H locs cells slots Q (F0 m pc ls st0) := by
  have hF := va_free hdy.2.1 hdy.2.2 hA isC (kz_apC hC)
  refine va_calll hr hdy.2.2 (fun q _ h => hF q h) hF (fun r u t H1 locs1 ht hvm hw hB hz1 hk1 hS => ?_)
  obtain ⟨hP1, hD1⟩ := hB
  rw [ht] at hP1
  obtain ⟨hP, hD⟩ := va_joinQ hdy.1 hdy.2.1 isC isR hC hR hn hdis hk1 hF hP1 hD1
  exact kk r u H1 locs1 hw ⟨hP, hD, hS⟩
theorem kz_callvF {S : Type} {post : S → Prop} {w : S → va_W} (hr : va_Run p l e R s m args below meth c H locs cells slots mc ms (F0 m pc ls st0) rest (va_Qv post (kz_B D cl (va_A wc H.size) w) (va_A wc H.size) a) (va_A wc H.size))
    (hdy : kz_dy D cl A s.heap H locs (ww ++ F)) (hA : ∀ q, s.heap.size ≤ q → A q) (isC isR : List Nat) (hC : isC.map (fun i => ww[i]?) = wc.map some) (hR : isR.map (fun i => ww[i]?) = wk.map some) (hn : va_nd isR = true) (hdis : ∀ i ∈ isR, i ∉ isC)
    (kk : ∀ (u : S) (H1 : Heap) (locs1 : List Loc), post u → kz_dy D cl A s.heap H1 locs1 ((wk ++ w u) ++ F) → W p l e R s m args below meth c H1 locs1 (cells + mc) (slots + ms) Q (F0 m (pc + 3) ls rest)) : W p l e R s m args below meth c H locs cells slots Q (F0 m pc ls st0) := by
  have hF := va_free hdy.2.1 hdy.2.2 hA isC (kz_apC hC)
  refine va_callv hr hdy.2.2 (fun q _ h => hF q h) hF (fun u t H1 locs1 ht hvm hw hB hz1 hk1 hS => ?_)
  obtain ⟨hP1, hD1⟩ := hB
  rw [ht] at hP1
  obtain ⟨hP, hD⟩ := va_joinQ hdy.1 hdy.2.1 isC isR hC hR hn hdis hk1 hF hP1 hD1
  exact kk u H1 locs1 hw ⟨hP, hD, hS⟩
end KZF
set_option maxRecDepth 100000 in
def kw_KK (cI cAA cL : ClassId) (h out : Nat) (τ : Nat → Nat → Nat) (oo : Nat → Int64) (w : va_W) : Prop := ∀ P : Prop, (∀ (to wy off cm hs ks ah ar ao ho mo dg t0 t1 t2 t3 t4 t5 t6 y0 y1 y2 y3 cm0 cm1 hs0 hs1 ks0 ks1 pr inv hp hq hw16 qs qf qw ql qr su ro : Nat) (stg : Int32) (gt0 : Nat → Nat) (gt1 : Nat → Nat) (gt2 : Nat → Nat) (gt3 : Nat → Nat) (gt4 : Nat → Nat) (gt5 : Nat → Nat) (gt6 : Nat → Nat) (gy0 : Nat → Int32) (gy1 : Nat → Int32) (gy2 : Nat → Int32) (gy3 : Nat → Int32) (goff : Nat → Int32) (gcm0 : Nat → Int32) (gcm1 : Nat → Int32) (ghs0 : Nat → Int32) (ghs1 : Nat → Int32) (gks0 : Nat → Int32) (gks1 : Nat → Int32) (gah : Nat → Int32) (gar : Nat → Int32) (gao : Nat → Int32) (gpr : Nat → Nat) (ginv : Nat → Nat) (ghp : Nat → Nat) (ghq : Nat → Nat) (ghw16 : Nat → Nat) (sh : Int32) (gqs : Nat → Int32) (gqf : Nat → Int32) (gqw : Nat → Int32) (gql : Nat → Int32) (gqr : Nat → Int32) (ct : Nat) (gsu : Nat → Int32) (gro : Nat → Int32) (gout : Nat → Int64), (∀ j, gt0 j < 4294967296) → (∀ j, gt1 j < 4294967296) → (∀ j, gt2 j < 4294967296) → (∀ j, gt3 j < 4294967296) → (∀ j, gt4 j < 4294967296) → (∀ j, gt5 j < 4294967296) → (∀ j, gt6 j < 4294967296) → (∀ j, gpr j < 4294967296) → (∀ j, ginv j < 4294967296) → (∀ j, ghp j < 4294967296) → (∀ j, ghq j < 4294967296) → (∀ j, ghw16 j < 4294967296) → (∀ j, j < 4 → ghp j = 0) → (∀ j, j < 4 → ghq j = 0) → τ = kw_t7 gt0 gt1 gt2 gt3 gt4 gt5 gt6 → oo = gout → w = ((h, .inr (0, [.ref to, .ref wy, .ref off, .ref cm, .ref hs, .ref ks, .ref ah, .ref ar, .ref ao, .ref ho, .ref mo, .ref dg, .int stg])) :: (to, .inl (cAA, 7, .inr (.inr (.inr (.inr (kz_row [t0, t1, t2, t3, t4, t5, t6])))))) :: (wy, .inl (cAA, 4, .inr (.inr (.inr (.inr (kz_row [y0, y1, y2, y3])))))) :: (cm, .inl (cAA, 2, .inr (.inr (.inr (.inr (kz_row [cm0, cm1])))))) :: (hs, .inl (cAA, 2, .inr (.inr (.inr (.inr (kz_row [hs0, hs1])))))) :: (ks, .inl (cAA, 2, .inr (.inr (.inr (.inr (kz_row [ks0, ks1])))))) :: (t0, .inl (cI, 8, .inl (kz_dg gt0))) :: (t1, .inl (cI, 8, .inl (kz_dg gt1))) :: (t2, .inl (cI, 8, .inl (kz_dg gt2))) :: (t3, .inl (cI, 8, .inl (kz_dg gt3))) :: (t4, .inl (cI, 8, .inl (kz_dg gt4))) :: (t5, .inl (cI, 8, .inl (kz_dg gt5))) :: (t6, .inl (cI, 8, .inl (kz_dg gt6))) :: (y0, .inl (cI, 8, .inl gy0)) :: (y1, .inl (cI, 8, .inl gy1)) :: (y2, .inl (cI, 8, .inl gy2)) :: (y3, .inl (cI, 8, .inl gy3)) :: (off, .inl (cI, 8, .inl goff)) :: (cm0, .inl (cI, 8, .inl gcm0)) :: (cm1, .inl (cI, 8, .inl gcm1)) :: (hs0, .inl (cI, 8, .inl ghs0)) :: (hs1, .inl (cI, 8, .inl ghs1)) :: (ks0, .inl (cI, 16, .inl gks0)) :: (ks1, .inl (cI, 16, .inl gks1)) :: (ah, .inl (cI, 8, .inl gah)) :: (ar, .inl (cI, 8, .inl gar)) :: (ao, .inl (cI, 8, .inl gao)) :: (ho, .inr (2, [.ref pr, .ref inv, .ref hp, .ref hq, .ref hw16])) :: (pr, .inl (cI, 8, .inl (kz_dg gpr))) :: (inv, .inl (cI, 8, .inl (kz_dg ginv))) :: (hp, .inl (cI, 8, .inl (kz_dg ghp))) :: (hq, .inl (cI, 8, .inl (kz_dg ghq))) :: (hw16, .inl (cI, 16, .inl (kz_dg ghw16))) :: (mo, .inr (1, [.ref qs, .ref qf, .ref qw, .ref ql, .ref qr, .int sh])) :: (qs, .inl (cI, 8, .inl gqs)) :: (qf, .inl (cI, 8, .inl gqf)) :: (qw, .inl (cI, 16, .inl gqw)) :: (ql, .inl (cI, 8, .inl gql)) :: (qr, .inl (cI, 8, .inl gqr)) :: (dg, .inr (3, [.ref su, .ref ro, .int (nI (ct))])) :: (su, .inl (cI, 8, .inl gsu)) :: (ro, .inl (cI, 64, .inl gro)) :: (out, .inl (cL, 1, .inr (.inl gout))) :: []) → P) → P
set_option maxRecDepth 100000 in
def kw_KM (cI cB : ClassId) (No : Nat) (τ : Nat → Nat → Nat) (w : va_W) : Prop := ∀ P : Prop, (∀ (Nmt Nmn Nml Nmc Nmh Nmk Nmp Nmm Nmb Nmw Nmr Nmx Nme NmP NmQ Nms Nmo NmW NmD NmB NmR NmS : Nat) (Nth : Int32) (Nsta : Int32) (Nhs : Int32) (gNmt : Nat → Int32) (gNmn : Nat → Int32) (gNml : Nat → Int32) (gNmc : Nat → Int32) (gNmh : Nat → Int32) (gNmk : Nat → Int32) (gNmp : Nat → Nat) (gNmm : Nat → Nat) (gNmb : Nat → Nat) (gNmw : Nat → Int32) (gNmr : Nat → Nat) (gNmx : Nat → Nat) (gNme : Nat → Nat) (gNmP : Nat → Nat) (gNmQ : Nat → Nat) (gNms : Nat → Int32) (gNmo : Nat → Int32) (gNmW : Nat → Int32) (gNmD : Nat → Int32) (gNmB : Nat → Int32) (gNmR : Nat → Int32) (gNmS : Nat → Int32), (∀ j, gNmp j < 65536) → (∀ j, gNmm j < 65536) → (∀ j, gNmb j < 65536) → (∀ j, gNmr j < 65536) → (∀ j, gNmx j < 65536) → (∀ j, gNme j < 65536) → (∀ j, gNmP j < 65536) → (∀ j, gNmQ j < 65536) → kw_T gNmt τ → w = [(No, .inr (4, [.int Nth, .int Nsta, .ref Nmt, .ref Nmn, .ref Nml, .ref Nmc, .ref Nmh, .ref Nmk, .ref Nmp, .ref Nmm, .ref Nmb, .ref Nmw, .ref Nmr, .ref Nmx, .ref Nme, .ref NmP, .ref NmQ, .ref Nms, .int Nhs, .int (nI (0)), .ref Nmo, .ref NmW, .ref NmD, .ref NmB, .ref NmR, .ref NmS])), (Nmt, .inl (cI, 56, .inl gNmt)), (Nmn, .inl (cI, 32, .inl gNmn)), (Nml, .inl (cI, 8, .inl gNml)), (Nmc, .inl (cI, 16, .inl gNmc)), (Nmh, .inl (cI, 16, .inl gNmh)), (Nmk, .inl (cI, 32, .inl gNmk)), (Nmp, .inl (cI, 16, .inl (kz_dg gNmp))), (Nmm, .inl (cI, 16, .inl (kz_dg gNmm))), (Nmb, .inl (cI, 16, .inl (kz_dg gNmb))), (Nmw, .inl (cI, 16, .inl gNmw)), (Nmr, .inl (cI, 16, .inl (kz_dg gNmr))), (Nmx, .inl (cI, 32, .inl (kz_dg gNmx))), (Nme, .inl (cI, 18, .inl (kz_dg gNme))), (NmP, .inl (cI, 16, .inl (kz_dg gNmP))), (NmQ, .inl (cI, 16, .inl (kz_dg gNmQ))), (Nms, .inl (cI, 18, .inl gNms)), (Nmo, .inl (cB, 320, .inl gNmo)), (NmW, .inl (cI, 64, .inl gNmW)), (NmD, .inl (cI, 8, .inl gNmD)), (NmB, .inl (cI, 8, .inl gNmB)), (NmR, .inl (cI, 64, .inl gNmR)), (NmS, .inl (cI, 8, .inl gNmS))] → P) → P
def kw_St (dC : Nat → ClassId) (dI : Nat → Nat → Nat) (cI cAA cB cL : ClassId) (A : Nat → Prop) (H0 H : Heap) (locs : List Loc) (h No out : Nat) : Prop := ∃ (τ : Nat → Nat → Nat) (oo : Nat → Int64) (wK wM : va_W), kw_KK cI cAA cL h out τ oo wK ∧ kw_KM cI cB No τ wM ∧ kz_dy (dC, dI) vwCl A H0 H locs (wK ++ wM)
def kw_C (p : Program) (l : Launch) (s : State) (m : MethodId) (c : Code) (b L : Nat) (xs : Nat → Int32) (A : Nat → Prop) (dC : Nat → ClassId) (dI : Nat → Nat → Nat) (cI cAA cB cL : ClassId) (one expo start roots : Nat) (gone gexpo gstart groots : Nat → Int32) (sI sA sS : Nat) : Prop :=
  l.stackTraces = false ∧ p.tables.exec = Jvm.exec ∧ c.code = code ∧ c.maxLocals = 7 ∧ s.vm.findClass zR_L = some m.cls ∧ (∀ w ∈ Cond.initialized zR_L :: kz_T, w.before #[Value.ref b] s = true) ∧ va_X b L xs s s.heap ∧ b < s.heap.size ∧ L ≤ 2048 ∧ (∀ q, s.heap.size ≤ q → A q) ∧ (∀ q, A q → s.heap.size ≤ q) ∧ va_K (dC, dI) vwCl [(cI, .int), (cAA, .array .int), (cB, .byte), (cL, .long)] s ∧ kz_ro (dC, dI) vwCl A s s.heap [(one, .inl (cI, 8, .inl gone)), (expo, .inl (cI, 8, .inl gexpo)), (start, .inl (cI, 8, .inl gstart)), (roots, .inl (cI, 64, .inl groots))] ∧ kz_Z [("KeyMeeting$Modulus", "ONE", "[I", .ref one), ("KeyMeeting$Host", "EXPONENT_WORDS", "[I", .ref expo), ("KeyMeeting$Digest", "START", "[I", .ref start), ("KeyMeeting$Digest", "ROOTS", "[I", .ref roots)] A s s.heap ∧ kz_PI sI s ∧ kz_PA sA s ∧ kz_PS sS s ∧ va_Nc "java/lang/IllegalArgumentException" "java/lang/IndexOutOfBoundsException" s ∧ va_Nc "java/lang/IllegalStateException" "java/lang/IndexOutOfBoundsException" s
def kw_K (p : Program) (l : Launch) (e : Env) (s : State) (m : MethodId) (below : List Frame) (meth : Method) (c : Code) (Q : State → Prop) (b i : Nat) (dC : Nat → ClassId) (dI : Nat → Nat → Nat) (cI cAA cB cL : ClassId) (A : Nat → Prop) (h No out cells slots pc : Nat) : Prop :=
  ∀ (H : Heap) (locs : List Loc) (ls : Array Slot), kw_St dC dI cI cAA cB cL A s.heap H locs h No out → lv_has ls 7 [(0, .ref b), (1, .ref h), (2, .ref No), (3, .ref out), (4, .int (nI (i)))] → W p l e room_1 s m #[Value.ref b] below meth c H locs cells slots Q (F0 m pc ls [])
theorem kw_gt {x : Int32} {n : Nat} (hn : n + 1 < 2 ^ 31) (h : nI (n + 1) ≤ x) : nI n < x := by
  rw [Int32.le_iff_toInt_le, nI_toInt hn] at h
  rw [Int32.lt_iff_toInt_lt, nI_toInt (by omega)]
  omega
theorem kw_or {x : Int32} (n : Nat) (hn : n + 1 < 2 ^ 31) (h : x < 0 ∨ nI (n + 1) ≤ x) : x < 0 ∨ nI n < x := h.imp id (kw_gt hn)
theorem kw_or4 {x y : Int32} (n k : Nat) (hn : n + 1 < 2 ^ 31) (h : x < 0 ∨ nI (n + 1) ≤ x) : x < 0 ∨ nI n < x ∨ y < 0 ∨ nI k < y := (kw_or n hn h).imp id Or.inl
theorem kw_or4b {x y : Int32} (n k : Nat) (hn : n + 1 < 2 ^ 31) (h : x < 0 ∨ nI (n + 1) ≤ x) : y < 0 ∨ nI k < y ∨ x < 0 ∨ nI n < x := Or.inr (Or.inr (kw_or n hn h))
theorem kw_ix (x : Int32) (n : Nat) (hn : n < 2 ^ 31) : (x < 0 ∨ nI n ≤ x) ∨ ∃ j : Nat, j < n ∧ x = nI j := by
  rcases pk_ix x hn with h | h | h
  · exact Or.inl (Or.inl h)
  · exact Or.inl (Or.inr h)
  · exact Or.inr h

