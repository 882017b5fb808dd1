/-! DIGEST: turns, the schedule, the rounds -/
def kd_us (x k : Int32) : Int32 := (x.toUInt32 >>> (k.toUInt32 &&& Int32.toUInt32 31)).toInt32
def kd_t (x k : Int32) : Int32 := kd_us x k ||| (x <<< ((nI 32 - k) &&& 31))
def kd_sg (w : Nat → Int32) (j : Nat) : Int32 := w (j - 16) + (kd_t (w (j - 15)) (nI 7) ^^^ kd_t (w (j - 15)) (nI 18) ^^^ kd_us (w (j - 15)) (nI 3)) + w (j - 7) + (kd_t (w (j - 2)) (nI 17) ^^^ kd_t (w (j - 2)) (nI 19) ^^^ kd_us (w (j - 2)) (nI 10))
def kd_W (m : Nat → Int32) : Nat → Nat → Int32
  | 0 => m
  | n + 1 => upd (kd_W m n) (16 + n) (kd_sg (kd_W m n) (16 + n))
theorem kd_Wstep {w0 w : Nat → Int32} {k : Nat} {v : Int32} (hk : 16 ≤ k) (h : w = kd_W w0 (k - 16)) (hv : v = kd_sg w k) : upd w k v = kd_W w0 (k + 1 - 16) := by
  obtain ⟨n, rfl⟩ : ∃ n, k = 16 + n := ⟨k - 16, by omega⟩
  rw [show 16 + n - 16 = n by omega] at h
  rw [show 16 + n + 1 - 16 = n + 1 by omega, hv, h]
  rfl
theorem kd_sg_ext {w z : Nat → Int32} {j : Nat} (hj : 16 ≤ j) (h : ∀ i, i < j → w i = z i) : kd_sg w j = kd_sg z j := by
  unfold kd_sg
  rw [h (j - 16) (by omega), h (j - 15) (by omega), h (j - 7) (by omega), h (j - 2) (by omega)]
theorem kd_W_ext {m q : Nat → Int32} (h : ∀ i, i < 16 → m i = q i) : ∀ n j : Nat, j < 16 + n → kd_W m n j = kd_W q n j
  | 0, j, hj => h j hj
  | n + 1, j, hj => by
    have ih := kd_W_ext h n
    show upd (kd_W m n) (16 + n) (kd_sg (kd_W m n) (16 + n)) j = upd (kd_W q n) (16 + n) (kd_sg (kd_W q n) (16 + n)) j
    unfold upd
    by_cases e : j = 16 + n
    · rw [if_pos e, if_pos e]
      exact kd_sg_ext (by omega) (fun i hi => ih i hi)
    · rw [if_neg e, if_neg e]
      exact ih j (by omega)
def kd_u (h e f g k w : Int32) : Int32 := h + (kd_t e (nI 6) ^^^ kd_t e (nI 11) ^^^ kd_t e (nI 25)) + ((e &&& f) ^^^ ((e ^^^ -1) &&& g)) + k + w
def kd_v (a b c : Int32) : Int32 := (kd_t a (nI 2) ^^^ kd_t a (nI 13) ^^^ kd_t a (nI 22)) + ((a &&& b) ^^^ (a &&& c) ^^^ (b &&& c))
def kd_step (s : Nat → Int32) (k w : Int32) : Nat → Int32 := fun j => match j with
  | 0 => kd_u (s 7) (s 4) (s 5) (s 6) k w + kd_v (s 0) (s 1) (s 2)
  | 1 => s 0
  | 2 => s 1
  | 3 => s 2
  | 4 => s 3 + kd_u (s 7) (s 4) (s 5) (s 6) k w
  | 5 => s 4
  | 6 => s 5
  | _ => s 6
def kd_rn (k w s : Nat → Int32) : Nat → Nat → Int32
  | 0 => s
  | t + 1 => kd_step (kd_rn k w s t) (k t) (w t)
/-- eight names for a state -/
def kd_is (s : Nat → Int32) (a b c d e f g h : Int32) : Prop := a = s 0 ∧ b = s 1 ∧ c = s 2 ∧ d = s 3 ∧ e = s 4 ∧ f = s 5 ∧ g = s 6 ∧ h = s 7
theorem kd_isStep {s : Nat → Int32} {a b c d e f g h k w u v : Int32} (H : kd_is s a b c d e f g h) (hu : u = kd_u h e f g k w) (hv : v = kd_v a b c) : kd_is (kd_step s k w) (u + v) a b c (d + u) e f g := by
  obtain ⟨rfl, rfl, rfl, rfl, rfl, rfl, rfl, rfl⟩ := H
  subst hu hv
  exact ⟨rfl, rfl, rfl, rfl, rfl, rfl, rfl, rfl⟩
theorem kd_8 {P : Nat → Prop} (h0 : P 0) (h1 : P 1) (h2 : P 2) (h3 : P 3) (h4 : P 4) (h5 : P 5) (h6 : P 6) (h7 : P 7) : ∀ j, j < 8 → P j := by
  intro j hj
  rcases (by omega : j = 0 ∨ j = 1 ∨ j = 2 ∨ j = 3 ∨ j = 4 ∨ j = 5 ∨ j = 6 ∨ j = 7) with rfl | rfl | rfl | rfl | rfl | rfl | rfl | rfl
  · exact h0
  · exact h1
  · exact h2
  · exact h3
  · exact h4
  · exact h5
  · exact h6
  · exact h7
theorem kd_step_ext {s r : Nat → Int32} {k w : Int32} (h : ∀ j, j < 8 → s j = r j) : ∀ j, j < 8 → kd_step s k w j = kd_step r k w j := by
  have h0 := h 0 (by omega)
  have h1 := h 1 (by omega)
  have h2 := h 2 (by omega)
  have h3 := h 3 (by omega)
  have h4 := h 4 (by omega)
  have h5 := h 5 (by omega)
  have h6 := h 6 (by omega)
  have h7 := h 7 (by omega)
  refine kd_8 (P := fun j => kd_step s k w j = kd_step r k w j) ?_ h0 h1 h2 ?_ h4 h5 h6
  · show kd_u (s 7) (s 4) (s 5) (s 6) k w + kd_v (s 0) (s 1) (s 2) = kd_u (r 7) (r 4) (r 5) (r 6) k w + kd_v (r 0) (r 1) (r 2)
    rw [h0, h1, h2, h4, h5, h6, h7]
  · show s 3 + kd_u (s 7) (s 4) (s 5) (s 6) k w = r 3 + kd_u (r 7) (r 4) (r 5) (r 6) k w
    rw [h3, h4, h5, h6, h7]
theorem kd_rn_ext {k q w z s r : Nat → Int32} (hs : ∀ j, j < 8 → s j = r j) : ∀ n : Nat, (∀ i, i < n → k i = q i) → (∀ i, i < n → w i = z i) → ∀ j, j < 8 → kd_rn k w s n j = kd_rn q z r n j
  | 0, _, _ => hs
  | n + 1, hk, hw => by
    intro j hj
    have ih := kd_rn_ext hs n (fun i hi => hk i (by omega)) (fun i hi => hw i (by omega))
    show kd_step (kd_rn k w s n) (k n) (w n) j = kd_step (kd_rn q z r n) (q n) (z n) j
    rw [hk n (by omega), hw n (by omega)]
    exact kd_step_ext ih j hj
def kd_add8 (s r : Nat → Int32) : Nat → Int32 := fun j => if j < 8 then s j + r j else s j
def kd_mx (k s m : Nat → Int32) : Nat → Int32 := kd_add8 s (kd_rn k (kd_W m 48) s 64)
theorem kd_mx_ext {k q s r m z : Nat → Int32} (hk : ∀ i, i < 64 → k i = q i) (hs : ∀ j, j < 8 → s j = r j) (hm : ∀ i, i < 16 → m i = z i) : ∀ j, j < 8 → kd_mx k s m j = kd_mx q r z j := by
  intro j hj
  unfold kd_mx kd_add8
  rw [if_pos hj, if_pos hj, hs j hj, kd_rn_ext hs 64 hk (fun i hi => kd_W_ext hm 48 i (by omega)) j hj]
theorem kd_add8_of {s f1 f2 f3 f4 f5 f6 f7 f8 r : Nat → Int32} {a b c d e f g h : Int32} (H : kd_is r a b c d e f g h) (e1 : f1 = upd s 0 (s 0 + a)) (e2 : f2 = upd f1 1 (f1 1 + b)) (e3 : f3 = upd f2 2 (f2 2 + c)) (e4 : f4 = upd f3 3 (f3 3 + d)) (e5 : f5 = upd f4 4 (f4 4 + e)) (e6 : f6 = upd f5 5 (f5 5 + f)) (e7 : f7 = upd f6 6 (f6 6 + g)) (e8 : f8 = upd f7 7 (f7 7 + h)) : f8 = kd_add8 s r := by
  obtain ⟨rfl, rfl, rfl, rfl, rfl, rfl, rfl, rfl⟩ := H
  have q : ∀ j, j < 8 → f8 j = s j + r j := by
    refine kd_8 (P := fun j => f8 j = s j + r j) ?_ ?_ ?_ ?_ ?_ ?_ ?_ ?_ <;> (subst e1 e2 e3 e4 e5 e6 e7 e8; rfl)
  funext j
  by_cases hj : j < 8
  · unfold kd_add8
    rw [if_pos hj]
    exact q j hj
  · subst e1 e2 e3 e4 e5 e6 e7 e8
    unfold kd_add8 upd
    rw [if_neg hj, if_neg (by omega), if_neg (by omega), if_neg (by omega), if_neg (by omega), if_neg (by omega), if_neg (by omega), if_neg (by omega), if_neg (by omega)]
/-! words put one after another -/
def kd_pR (ro : Nat → Int32) (ct : Nat) (v : Int32) : Nat → Int32 := if (ct + 1) % 16 = 0 then kd_W (upd ro (ct % 16) v) 48 else upd ro (ct % 16) v
def kd_pS (k su ro : Nat → Int32) (ct : Nat) (v : Int32) : Nat → Int32 := if (ct + 1) % 16 = 0 then kd_mx k su (upd ro (ct % 16) v) else su
def kd_n (k su ro : Nat → Int32) (ct : Nat) (f : Nat → Int32) : Nat → (Nat → Int32) × (Nat → Int32)
  | 0 => (su, ro)
  | n + 1 => (kd_pS k (kd_n k su ro ct f n).1 (kd_n k su ro ct f n).2 (ct + n) (f n), kd_pR (kd_n k su ro ct f n).2 (ct + n) (f n))
theorem kd_nStep {k su ro su0 ro0 f : Nat → Int32} {ct n c : Nat} {v : Int32} (h : (su, ro) = kd_n k su0 ro0 ct f n) (hc : c = ct + n) (hv : v = f n) : (kd_pS k su ro c v, kd_pR ro c v) = kd_n k su0 ro0 ct f (n + 1) := by
  show _ = (kd_pS k (kd_n k su0 ro0 ct f n).1 (kd_n k su0 ro0 ct f n).2 (ct + n) (f n), kd_pR (kd_n k su0 ro0 ct f n).2 (ct + n) (f n))
  rw [← h, hc, hv]
theorem kd_n_ext {k su ro f g : Nat → Int32} {ct : Nat} : ∀ n : Nat, (∀ i, i < n → f i = g i) → kd_n k su ro ct f n = kd_n k su ro ct g n
  | 0, _ => rfl
  | n + 1, h => by
    have ih := kd_n_ext (k := k) (su := su) (ro := ro) (ct := ct) n (fun i hi => h i (by omega))
    show (kd_pS k (kd_n k su ro ct f n).1 (kd_n k su ro ct f n).2 (ct + n) (f n), kd_pR (kd_n k su ro ct f n).2 (ct + n) (f n)) = (kd_pS k (kd_n k su ro ct g n).1 (kd_n k su ro ct g n).2 (ct + n) (g n), kd_pR (kd_n k su ro ct g n).2 (ct + n) (g n))
    rw [ih, h n (by omega)]
def kd_cat (a : Nat) (f g : Nat → Int32) : Nat → Int32 := fun i => if i < a then f i else g (i - a)
theorem kd_nApp {k su ro su1 ro1 f g : Nat → Int32} {ct c a : Nat} (h : (su1, ro1) = kd_n k su ro ct f a) (hc : c = ct + a) : ∀ b : Nat, kd_n k su1 ro1 c g b = kd_n k su ro ct (kd_cat a f g) (a + b)
  | 0 => by
    show (su1, ro1) = _
    rw [h, Nat.add_zero]
    exact kd_n_ext a (fun i hi => by unfold kd_cat; rw [if_pos hi])
  | b + 1 => by
    have ih := kd_nApp h hc b (g := g)
    have e : kd_cat a f g (a + b) = g b := by unfold kd_cat; rw [if_neg (by omega)]; congr 1; omega
    show (kd_pS k (kd_n k su1 ro1 c g b).1 (kd_n k su1 ro1 c g b).2 (c + b) (g b), kd_pR (kd_n k su1 ro1 c g b).2 (c + b) (g b)) = (kd_pS k (kd_n k su ro ct (kd_cat a f g) (a + b)).1 (kd_n k su ro ct (kd_cat a f g) (a + b)).2 (ct + (a + b)) (kd_cat a f g (a + b)), kd_pR (kd_n k su ro ct (kd_cat a f g) (a + b)).2 (ct + (a + b)) (kd_cat a f g (a + b)))
    rw [ih, e, hc, Nat.add_assoc]
/-- the state behind b rows of sixteen -/
def kd_H (k st X : Nat → Int32) : Nat → Nat → Int32
  | 0 => st
  | b + 1 => kd_mx k (kd_H k st X b) (fun j => X (16 * b + j))
theorem kd_H_ext {k q st r X Y : Nat → Int32} (hk : ∀ i, i < 64 → k i = q i) (hs : ∀ j, j < 8 → st j = r j) : ∀ b : Nat, (∀ i, i < 16 * b → X i = Y i) → ∀ j, j < 8 → kd_H k st X b j = kd_H q r Y b j
  | 0, _ => hs
  | b + 1, h => kd_mx_ext hk (kd_H_ext hk hs b (fun i hi => h i (by omega))) (fun i hi => h (16 * b + i) (by omega))
theorem kd_nH {k su ro st X : Nat → Int32} (hs : ∀ j, j < 8 → su j = st j) : ∀ n : Nat, (∀ j, j < 8 → (kd_n k su ro 0 X n).1 j = kd_H k st X (n / 16) j) ∧ (∀ j, j < n % 16 → (kd_n k su ro 0 X n).2 j = X (16 * (n / 16) + j))
  | 0 => ⟨hs, fun j hj => absurd hj (by omega)⟩
  | n + 1 => by
    obtain ⟨h1, h2⟩ := kd_nH hs n (k := k) (ro := ro) (X := X)
    have e1 : (kd_n k su ro 0 X (n + 1)).1 = kd_pS k (kd_n k su ro 0 X n).1 (kd_n k su ro 0 X n).2 (0 + n) (X n) := rfl
    have e2 : (kd_n k su ro 0 X (n + 1)).2 = kd_pR (kd_n k su ro 0 X n).2 (0 + n) (X n) := rfl
    rw [e1, e2, Nat.zero_add]
    unfold kd_pS kd_pR
    by_cases h : (n + 1) % 16 = 0
    · rw [if_pos h, if_pos h]
      refine ⟨?_, fun j hj => absurd hj (by omega)⟩
      have e3 : (n + 1) / 16 = n / 16 + 1 := by omega
      rw [e3]
      refine kd_mx_ext (fun _ _ => rfl) h1 (fun i hi => ?_)
      unfold upd
      by_cases h3 : i = n % 16
      · rw [if_pos h3]
        congr 1
        omega
      · rw [if_neg h3]
        exact h2 i (by omega)
    · rw [if_neg h, if_neg h]
      have e3 : (n + 1) / 16 = n / 16 := by omega
      rw [e3]
      refine ⟨h1, fun j hj => ?_⟩
      unfold upd
      by_cases h3 : j = n % 16
      · rw [if_pos h3]
        congr 1
        omega
      · rw [if_neg h3]
        exact h2 j (by omega)
/-- the sixteen words that end it -/
def kd_ef (w hi lo : Int32) : Nat → Int32 := fun i => if i = 0 then w else if i < 14 then nI 0 else if i = 14 then hi else lo
def kd_hx (a b c d e f w : Nat → Int32) : Nat → Int32 := kd_cat 48 (kd_cat 40 (kd_cat 32 (kd_cat 24 (kd_cat 16 (kd_cat 8 a b) c) d) e) f) w
def kd_kx (a b w : Nat → Int32) : Nat → Int32 := kd_cat 16 (kd_cat 8 a b) w
def kd_wh : Nat → Int32 := kd_ef (-2147483648) (nI 0) (nI 1536)
def kd_wk (h : Nat) : Nat → Int32 := kd_ef (nI (65 + h) <<< (nI 24 &&& 31) ||| kd_us (-2147483648) (nI 8)) (nI 0) (nI 520)
theorem kd_cat_ext {f g p q : Nat → Int32} {a n : Nat} (h1 : ∀ i, i < a → f i = p i) (h2 : ∀ i, i < n - a → g i = q i) : ∀ i, i < n → kd_cat a f g i = kd_cat a p q i := by
  intro i hi
  unfold kd_cat
  by_cases h : i < a
  · rw [if_pos h, if_pos h]; exact h1 i h
  · rw [if_neg h, if_neg h]; exact h2 (i - a) (by omega)
theorem kd_hx_ext {a b c d e f a' b' c' d' e' f' w : Nat → Int32} (ha : ∀ i, i < 8 → a i = a' i) (hb : ∀ i, i < 8 → b i = b' i) (hc : ∀ i, i < 8 → c i = c' i) (hd : ∀ i, i < 8 → d i = d' i) (he : ∀ i, i < 8 → e i = e' i) (hf : ∀ i, i < 8 → f i = f' i) : ∀ i, i < 64 → kd_hx a b c d e f w i = kd_hx a' b' c' d' e' f' w i :=
  kd_cat_ext (kd_cat_ext (kd_cat_ext (kd_cat_ext (kd_cat_ext (kd_cat_ext ha hb) hc) hd) he) hf) (fun _ _ => rfl)
theorem kd_kx_ext {a b a' b' w : Nat → Int32} (ha : ∀ i, i < 8 → a i = a' i) (hb : ∀ i, i < 8 → b i = b' i) : ∀ i, i < 32 → kd_kx a b w i = kd_kx a' b' w i :=
  kd_cat_ext (kd_cat_ext ha hb) (fun _ _ => rfl)
/-- the class's hash, its keys -/
theorem kd_hashK {k st s0 r0 s1 r1 s2 r2 s3 r3 s4 r4 s5 r5 s6 r6 s7 r7 a b c d e f w : Nat → Int32} {c0 c1 c2 c3 c4 c5 c6 : Nat} (hs : ∀ j, j < 8 → s0 j = st j) (e0 : c0 = 0) (p1 : (s1, r1) = kd_n k s0 r0 c0 a 8) (e1 : c1 = c0 + 8) (p2 : (s2, r2) = kd_n k s1 r1 c1 b 8) (e2 : c2 = c1 + 8) (p3 : (s3, r3) = kd_n k s2 r2 c2 c 8) (e3 : c3 = c2 + 8) (p4 : (s4, r4) = kd_n k s3 r3 c3 d 8) (e4 : c4 = c3 + 8) (p5 : (s5, r5) = kd_n k s4 r4 c4 e 8) (e5 : c5 = c4 + 8) (p6 : (s6, r6) = kd_n k s5 r5 c5 f 8) (e6 : c6 = c5 + 8) (p7 : (s7, r7) = kd_n k s6 r6 c6 w 16) : ∀ j, j < 8 → s7 j = kd_H k st (kd_hx a b c d e f w) 4 j := by
  subst e0
  have q2 := p2.trans (kd_nApp p1 e1 8)
  have q3 := p3.trans (kd_nApp q2 (show c2 = 0 + (8 + 8) by omega) 8)
  have q4 := p4.trans (kd_nApp q3 (show c3 = 0 + (8 + 8 + 8) by omega) 8)
  have q5 := p5.trans (kd_nApp q4 (show c4 = 0 + (8 + 8 + 8 + 8) by omega) 8)
  have q6 := p6.trans (kd_nApp q5 (show c5 = 0 + (8 + 8 + 8 + 8 + 8) by omega) 8)
  have q7 := p7.trans (kd_nApp q6 (show c6 = 0 + (8 + 8 + 8 + 8 + 8 + 8) by omega) 16)
  intro j hj
  have h := (kd_nH (k := k) (ro := r0) (X := kd_hx a b c d e f w) hs 64).1 j hj
  have h2 : s7 = (kd_n k s0 r0 0 (kd_hx a b c d e f w) 64).1 := congrArg Prod.fst q7
  rw [h2]
  exact h
theorem kd_keyK {k st s0 r0 s1 r1 s2 r2 s7 r7 a b w : Nat → Int32} {c0 c1 c2 : Nat} (hs : ∀ j, j < 8 → s0 j = st j) (e0 : c0 = 0) (p1 : (s1, r1) = kd_n k s0 r0 c0 a 8) (e1 : c1 = c0 + 8) (p2 : (s2, r2) = kd_n k s1 r1 c1 b 8) (e2 : c2 = c1 + 8) (p7 : (s7, r7) = kd_n k s2 r2 c2 w 16) : ∀ j, j < 8 → s7 j = kd_H k st (kd_kx a b w) 2 j := by
  subst e0
  have q2 := p2.trans (kd_nApp p1 e1 8)
  have q7 := p7.trans (kd_nApp q2 (show c2 = 0 + (8 + 8) by omega) 16)
  intro j hj
  have h := (kd_nH (k := k) (ro := r0) (X := kd_kx a b w) hs 32).1 j hj
  have h2 : s7 = (kd_n k s0 r0 0 (kd_kx a b w) 32).1 := congrArg Prod.fst q7
  rw [h2]
  exact h
/-! the reference's bytes -/
def kd_by (x : Int32) (m : Nat) : Int32 := (x >>> (nI (24 - 8 * m) &&& 31)).toInt8.toInt32
def kd_f4 (b : Nat → Int32) (t : Nat) : Nat → Int32
  | 0 => nI 0
  | m + 1 => (kd_f4 b t m <<< (nI 8 &&& 31)) ||| (b (t + m) &&& nI 255)
def kd_wd (b : Nat → Int32) (t : Nat) : Int32 := kd_f4 b (4 * t) 4
theorem kd_f4_ext {b q : Nat → Int32} {t u : Nat} : ∀ m : Nat, (∀ i, i < m → b (t + i) = q (u + i)) → kd_f4 b t m = kd_f4 q u m
  | 0, _ => rfl
  | m + 1, h => by
    show (kd_f4 b t m <<< (nI 8 &&& 31)) ||| (b (t + m) &&& nI 255) = (kd_f4 q u m <<< (nI 8 &&& 31)) ||| (q (u + m) &&& nI 255)
    rw [kd_f4_ext m (fun i hi => h i (by omega)), h m (by omega)]
theorem kd_b255 (x : Int32) : x.toInt8.toInt32 &&& nI 255 = x &&& nI 255 := by
  apply Int32.toBitVec_inj.mp
  apply BitVec.eq_of_getLsbD_eq
  intro i hi
  show (BitVec.signExtend 32 (BitVec.signExtend 8 x.toBitVec) &&& 255#32).getLsbD i = (x.toBitVec &&& 255#32).getLsbD i
  have h255 : (255#32).getLsbD i = decide (i < 8) := by
    have h : ∀ i, i < 32 → (255#32).getLsbD i = decide (i < 8) := by decide
    exact h i hi
  rw [BitVec.getLsbD_and, BitVec.getLsbD_and, h255]
  by_cases h8 : i < 8
  · rw [BitVec.getLsbD_signExtend, BitVec.getLsbD_signExtend]
    simp [hi, h8]
  · simp [h8]
theorem kd_sh255 {n s : Nat} (hn : n < 4294967296) (hs : s ≤ 24) : nI n >>> (nI s &&& 31) &&& nI 255 = nI (n / 2 ^ s % 256) := by
  apply Int32.toBitVec_inj.mp
  apply BitVec.eq_of_getLsbD_eq
  intro i hi
  have e1 : (nI n >>> (nI s &&& 31)).toBitVec = (BitVec.ofNat 32 n).sshiftRight ((nI s &&& 31).toBitVec.smod 32).toNat := rfl
  have h255 : (255#32).getLsbD i = decide (i < 8) := by
    have h : ∀ i, i < 32 → (255#32).getLsbD i = decide (i < 8) := by decide
    exact h i hi
  show ((nI n >>> (nI s &&& 31)).toBitVec &&& 255#32).getLsbD i = (BitVec.ofNat 32 (n / 2 ^ s % 256)).getLsbD i
  rw [e1, kz_s31 s (by omega), BitVec.getLsbD_and, h255, BitVec.getLsbD_sshiftRight, BitVec.getLsbD_ofNat, BitVec.getLsbD_ofNat]
  have e2 : n / 2 ^ s % 256 = n / 2 ^ s % 2 ^ 8 := rfl
  rw [e2, Nat.testBit_mod_two_pow, Nat.testBit_div_two_pow]
  by_cases h8 : i < 8
  · have h1 : s + i < 32 := by omega
    have h2 : ¬ 32 ≤ i := by omega
    simp [hi, h8, h1, h2, Nat.add_comm]
  · simp [hi, h8]
theorem kd_m256 (a : Nat) : a * 256 % 4294967296 = 256 * (a % 16777216) := by
  have h := Nat.mul_mod_mul_right 256 a 16777216
  rw [Nat.mul_comm 256]
  exact h
theorem kd_or8 {a b : Nat} (hb : b < 256) : nI a <<< (nI 8 &&& 31) ||| nI b = nI (a * 256 + b) := by
  apply Int32.toBitVec_inj.mp
  apply BitVec.eq_of_toNat_eq
  have e : (nI a <<< (nI 8 &&& 31)).toBitVec = (BitVec.ofNat 32 a) <<< 8 := rfl
  show ((nI a <<< (nI 8 &&& 31)).toBitVec ||| BitVec.ofNat 32 b).toNat = (BitVec.ofNat 32 (a * 256 + b)).toNat
  rw [e, BitVec.toNat_or, BitVec.toNat_shiftLeft, Nat.shiftLeft_eq, BitVec.toNat_ofNat, BitVec.toNat_ofNat, BitVec.toNat_ofNat]
  have h32 : (2 : Nat) ^ 32 = 4294967296 := by decide
  have h8 : (2 : Nat) ^ 8 = 256 := by decide
  rw [h32, h8]
  have e0 : a % 4294967296 * 256 % 4294967296 = 256 * (a % 16777216) := by omega
  have e1 := kd_m256 a
  have e2 : b % 4294967296 = b := by omega
  have e3 : (a * 256 + b) % 4294967296 = 256 * (a % 16777216) + b := by
    have h1 := Nat.mod_lt a (show 16777216 > 0 by omega)
    rw [Nat.add_mod, e1, e2]
    exact Nat.mod_eq_of_lt (by omega)
  rw [e0, e2, e3]
  exact (Nat.two_pow_add_eq_or_of_lt (i := 8) hb (a % 16777216)).symm
theorem kd_f4By {b : Nat → Int32} {t : Nat} {x : Int32} (h : ∀ m, m < 4 → b (t + m) = kd_by x m) : ∀ m : Nat, m ≤ 4 → kd_f4 b t m = nI (x.toUInt32.toNat / 2 ^ (32 - 8 * m))
  | 0, _ => by
    have h1 := kz_ult x
    show nI 0 = nI (x.toUInt32.toNat / 2 ^ 32)
    rw [Nat.div_eq_of_lt h1]
  | m + 1, hm => by
    have h1 := kz_ult x
    show (kd_f4 b t m <<< (nI 8 &&& 31)) ||| (b (t + m) &&& nI 255) = _
    rw [kd_f4By h m (by omega), h m (by omega)]
    unfold kd_by
    rw [kd_b255]
    have e0 : x >>> (nI (24 - 8 * m) &&& 31) &&& nI 255 = nI (x.toUInt32.toNat / 2 ^ (24 - 8 * m) % 256) := by
      have e := kd_sh255 (n := x.toUInt32.toNat) (s := 24 - 8 * m) h1 (by omega)
      rw [← kz_u x] at e
      exact e
    rw [e0, kd_or8 (Nat.mod_lt _ (by decide))]
    congr 1
    have e3 : 32 - 8 * m = (24 - 8 * m) + 8 := by omega
    have e4 : 32 - 8 * (m + 1) = 24 - 8 * m := by omega
    rw [e3, e4, Nat.pow_add, ← Nat.div_div_eq_div_mul]
    generalize x.toUInt32.toNat / 2 ^ (24 - 8 * m) = y
    omega
theorem kd_wdBy {b : Nat → Int32} {t : Nat} {x : Int32} (h : ∀ m, m < 4 → b (4 * t + m) = kd_by x m) : kd_wd b t = x := by
  have h1 := kd_f4By h 4 (Nat.le_refl 4)
  unfold kd_wd
  rw [h1]
  show nI (x.toUInt32.toNat / 2 ^ 0) = x
  rw [Nat.pow_zero, Nat.div_one]
  exact (kz_u x).symm
def kd_all (n : Nat) : Nat := (n + 9 + 63) / 64 * 64
def kd_pb (n k : Nat) : Int32 := if k = n then (nI 128).toInt8.toInt32 else if k < kd_all n - 4 then (nI 0).toInt8.toInt32 else (nI (8 * n) >>> (nI (8 * (kd_all n - 1 - k)) &&& 31)).toInt8.toInt32
def kd_pd (row : Nat → Int32) (n : Nat) : Nat → Int32 := fun k => if k < n then row k else kd_pb n k
theorem kd_padH : ∀ t : Nat, t < 16 → kd_wd (kd_pb 192) (48 + t) = kd_wh t := by decide +kernel
theorem kd_padK : ∀ t : Nat, t < 15 → kd_wd (kd_pb 65) (17 + t) = kd_wk 0 (1 + t) := by decide +kernel
theorem kd_padK0 : kd_f4 (fun k => if k = 0 then (nI (65 + 0)).toInt8.toInt32 else kd_pb 65 (64 + k)) 0 4 = kd_wk 0 0 := by decide +kernel
theorem kd_padK1 : kd_f4 (fun k => if k = 0 then (nI (65 + 1)).toInt8.toInt32 else kd_pb 65 (64 + k)) 0 4 = kd_wk 1 0 := by decide +kernel
/-- the bytes of eight words from a on -/
def kd_has (row : Nat → Int32) (a : Nat) (f : Nat → Int32) : Prop := ∀ j, j < 32 → row (a + j) = kd_by (f (j / 4)) (j % 4)
theorem kd_hasW {row f : Nat → Int32} {a n t : Nat} (h : kd_has row a f) (ha : a % 4 = 0) (ht : t < 8) (hn : a + 32 ≤ n) : kd_wd (kd_pd row n) (a / 4 + t) = f t := by
  refine kd_wdBy (fun m hm => ?_)
  unfold kd_pd
  rw [if_pos (by omega)]
  have h1 := h (4 * t + m) (by omega)
  rw [show (4 * t + m) / 4 = t by omega, show (4 * t + m) % 4 = m by omega] at h1
  rw [← h1]
  congr 1
  omega
theorem kd_wdPad {row : Nat → Int32} {n t : Nat} (h : n ≤ 4 * t) : kd_wd (kd_pd row n) t = kd_wd (kd_pb n) t := by
  unfold kd_wd
  exact kd_f4_ext 4 (fun i hi => by unfold kd_pd; rw [if_neg (by omega)])
/-- the reference's hash: its words are the class's -/
theorem kd_hashW {row a b c d e f : Nat → Int32} (h0 : kd_has row 0 a) (h1 : kd_has row 32 b) (h2 : kd_has row 64 c) (h3 : kd_has row 96 d) (h4 : kd_has row 128 e) (h5 : kd_has row 160 f) : ∀ i, i < 64 → kd_wd (kd_pd row 192) i = kd_hx a b c d e f kd_wh i := by
  intro i hi
  unfold kd_hx kd_cat
  rcases (by omega : i < 8 ∨ (8 ≤ i ∧ i < 16) ∨ (16 ≤ i ∧ i < 24) ∨ (24 ≤ i ∧ i < 32) ∨ (32 ≤ i ∧ i < 40) ∨ (40 ≤ i ∧ i < 48) ∨ 48 ≤ i) with h | ⟨h, h'⟩ | ⟨h, h'⟩ | ⟨h, h'⟩ | ⟨h, h'⟩ | ⟨h, h'⟩ | h
  · have q := kd_hasW (n := 192) (t := i) h0 (by omega) (by omega) (by omega)
    rw [Nat.zero_div, Nat.zero_add] at q
    rw [if_pos (by omega), if_pos (by omega), if_pos (by omega), if_pos (by omega), if_pos (by omega), if_pos h]
    exact q
  · have q := kd_hasW (n := 192) (t := i - 8) h1 (by omega) (by omega) (by omega)
    rw [show 32 / 4 + (i - 8) = i by omega] at q
    rw [if_pos (by omega), if_pos (by omega), if_pos (by omega), if_pos (by omega), if_pos (by omega), if_neg (by omega)]
    exact q
  · have q := kd_hasW (n := 192) (t := i - 16) h2 (by omega) (by omega) (by omega)
    rw [show 64 / 4 + (i - 16) = i by omega] at q
    rw [if_pos (by omega), if_pos (by omega), if_pos (by omega), if_pos (by omega), if_neg (by omega)]
    exact q
  · have q := kd_hasW (n := 192) (t := i - 24) h3 (by omega) (by omega) (by omega)
    rw [show 96 / 4 + (i - 24) = i by omega] at q
    rw [if_pos (by omega), if_pos (by omega), if_pos (by omega), if_neg (by omega)]
    exact q
  · have q := kd_hasW (n := 192) (t := i - 32) h4 (by omega) (by omega) (by omega)
    rw [show 128 / 4 + (i - 32) = i by omega] at q
    rw [if_pos (by omega), if_pos (by omega), if_neg (by omega)]
    exact q
  · have q := kd_hasW (n := 192) (t := i - 40) h5 (by omega) (by omega) (by omega)
    rw [show 160 / 4 + (i - 40) = i by omega] at q
    rw [if_pos (by omega), if_neg (by omega)]
    exact q
  · rw [if_neg (by omega), kd_wdPad (by omega)]
    have q := kd_padH (i - 48) (by omega)
    rw [show 48 + (i - 48) = i by omega] at q
    exact q
theorem kd_keyW {row a b : Nat → Int32} {h : Nat} (hh : h < 2) (h0 : kd_has row 0 a) (h1 : kd_has row 32 b) (h2 : row 64 = (nI (65 + h)).toInt8.toInt32) : ∀ i, i < 32 → kd_wd (kd_pd row 65) i = kd_kx a b (kd_wk h) i := by
  intro i hi
  unfold kd_kx kd_cat
  rcases (by omega : i < 8 ∨ (8 ≤ i ∧ i < 16) ∨ i = 16 ∨ 17 ≤ i) with p | ⟨p, p'⟩ | p | p
  · have q := kd_hasW (n := 65) (t := i) h0 (by omega) (by omega) (by omega)
    rw [Nat.zero_div, Nat.zero_add] at q
    rw [if_pos (by omega), if_pos p]
    exact q
  · have q := kd_hasW (n := 65) (t := i - 8) h1 (by omega) (by omega) (by omega)
    rw [show 32 / 4 + (i - 8) = i by omega] at q
    rw [if_pos (by omega), if_neg (by omega)]
    exact q
  · subst p
    rw [if_neg (by omega)]
    have e : kd_wd (kd_pd row 65) 16 = kd_f4 (fun k => if k = 0 then (nI (65 + h)).toInt8.toInt32 else kd_pb 65 (64 + k)) 0 4 := by
      unfold kd_wd
      refine kd_f4_ext 4 (fun i hi => ?_)
      unfold kd_pd
      by_cases hi0 : i = 0
      · subst hi0
        rw [if_pos (by omega), if_pos (by omega)]
        exact h2
      · rw [if_neg (by omega), if_neg (by omega)]
        congr 1
        omega
    rw [e]
    rcases (by omega : h = 0 ∨ h = 1) with rfl | rfl
    · exact kd_padK0
    · exact kd_padK1
  · rw [if_neg (by omega), kd_wdPad (by omega)]
    have q := kd_padK (i - 17) (by omega)
    rw [show 17 + (i - 17) = i by omega] at q
    rw [q]
    have e : kd_wk 0 (1 + (i - 17)) = kd_wk h (1 + (i - 17)) := by
      have hne : ¬ 1 + (i - 17) = 0 := by omega
      unfold kd_wk kd_ef
      rw [if_neg hne, if_neg hne]
    rw [e]
    congr 1
    omega
theorem kz_lz_c32 : (32 : Int64) = kz_lz 32 := by decide
theorem kd_ef0 {w hi lo : Int32} {i : Nat} (h1 : 0 < i) (h2 : i < 14) : nI 0 = kd_ef w hi lo i := by
  unfold kd_ef
  rw [if_neg (by omega), if_pos h2]
theorem kd_arrStep {p d f1 f2 s : Nat → Int32} {u v k w : Int32} (hp : ∀ j, j < 8 → p j = s j) (h1 : ∀ j, 0 < j → j < 8 → d j = p (j - 1)) (e1 : f1 = upd d 4 (d 4 + u)) (e2 : f2 = upd f1 0 (u + v)) (hu : u = kd_u (p 7) (p 4) (p 5) (p 6) k w) (hv : v = kd_v (p 0) (p 1) (p 2)) : ∀ j, j < 8 → f2 j = kd_step s k w j := by
  subst hu hv
  have q : ∀ j, j < 8 → f2 j = kd_step p k w j := by
    refine kd_8 (P := fun j => f2 j = kd_step p k w j) ?_ ?_ ?_ ?_ ?_ ?_ ?_ ?_
    · rw [e2]; rfl
    · rw [e2, e1]; exact h1 1 (by omega) (by omega)
    · rw [e2, e1]; exact h1 2 (by omega) (by omega)
    · rw [e2, e1]; exact h1 3 (by omega) (by omega)
    · rw [e2, e1]
      show d 4 + _ = p 3 + _
      rw [h1 4 (by omega) (by omega)]
    · rw [e2, e1]; exact h1 5 (by omega) (by omega)
    · rw [e2, e1]; exact h1 6 (by omega) (by omega)
    · rw [e2, e1]; exact h1 7 (by omega) (by omega)
  intro j hj
  rw [q j hj]
  exact kd_step_ext hp j hj
theorem kd_pdA {row : Nat → Int32} {n k : Nat} (h : k = n) : (nI 128).toInt8.toInt32 = kd_pd row n k := by
  unfold kd_pd kd_pb
  rw [if_neg (by omega), if_pos h]
theorem kd_pdB {row : Nat → Int32} {n k : Nat} (h : n < k) (h2 : k < kd_all n - 4) : (nI 0).toInt8.toInt32 = kd_pd row n k := by
  unfold kd_pd kd_pb
  rw [if_neg (by omega), if_neg (by omega), if_pos h2]
theorem kd_pdC {row : Nat → Int32} {n k : Nat} (h : n < k) (h2 : ¬ k < kd_all n - 4) : (nI (8 * n) >>> (nI (8 * (kd_all n - 1 - k)) &&& 31)).toInt8.toInt32 = kd_pd row n k := by
  unfold kd_pd kd_pb
  rw [if_neg (by omega), if_neg (by omega), if_neg h2]
theorem kd_blk {k st X D D' w : Nat → Int32} {b : Nat} (h : ∀ j, j < 8 → D j = kd_H k st X b j) (hm : ∀ j, j < 8 → D' j = kd_mx k D w j) (hw : ∀ i, i < 16 → w i = X (16 * b + i)) : ∀ j, j < 8 → D' j = kd_H k st X (b + 1) j := by
  intro j hj
  rw [hm j hj]
  exact kd_mx_ext (fun _ _ => rfl) h hw j hj
theorem kd_hasKeep {row q f : Nat → Int32} {a s : Nat} (h : kd_has row a f) (hk : ∀ j, j < s → q j = row j) (hs : a + 32 ≤ s) : kd_has q a f := by
  intro j hj
  rw [hk (a + j) (by omega)]
  exact h j hj
theorem kd_hasAt {row f : Nat → Int32} {a b : Nat} (h : kd_has row a f) (e : a = b) : kd_has row b f := by
  subst e
  exact h
theorem kd_hasUp {row q f : Nat → Int32} {a s : Nat} {v : Int32} (h : kd_has row a f) (e : q = upd row s v) (hs : a + 32 ≤ s) : kd_has q a f := by
  intro j hj
  rw [e]
  unfold upd
  rw [if_neg (by omega)]
  exact h j hj
theorem kd_hashM {k st D X Y : Nat → Int32} {row : Nat → Int32} {n : Nat} (h : ∀ j, j < 8 → D j = kd_H k st (kd_wd (kd_pd row n)) ((n + 9 + 63) / 64) j) (hn : n = 192) (hX : ∀ i, i < 64 → kd_wd (kd_pd row 192) i = X i) : ∀ j, j < 8 → D j = kd_H k st X 4 j := by
  subst hn
  intro j hj
  rw [h j hj]
  exact kd_H_ext (fun _ _ => rfl) (fun _ _ => rfl) 4 hX j hj
theorem kd_keyM {k st D X : Nat → Int32} {row : Nat → Int32} {n : Nat} (h : ∀ j, j < 8 → D j = kd_H k st (kd_wd (kd_pd row n)) ((n + 9 + 63) / 64) j) (hn : n = 65) (hX : ∀ i, i < 32 → kd_wd (kd_pd row 65) i = X i) : ∀ j, j < 8 → D j = kd_H k st X 2 j := by
  subst hn
  intro j hj
  rw [h j hj]
  exact kd_H_ext (fun _ _ => rfl) (fun _ _ => rfl) 2 hX j hj
