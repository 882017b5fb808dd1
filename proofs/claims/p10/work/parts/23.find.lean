/-! SECRET: the words of D -/
theorem kx_split (f : Nat → Nat) (k : Nat) : ∀ m : Nat, kx_val f (k + m) = kx_val f k + 4294967296 ^ k * kx_val (fun j => f (k + j)) m
  | 0 => rfl
  | m + 1 => by
    have e : kx_val f (k + (m + 1)) = kx_val f (k + m) + f (k + m) * 4294967296 ^ (k + m) := rfl
    rw [e, kx_split f k m, kx_val_s, Nat.mul_add, Nat.pow_add, Nat.mul_left_comm (4294967296 ^ k) (f (k + m))]
    omega
theorem kx_wordAt {f : Nat → Nat} (hf : ∀ j, f j < 4294967296) {k n : Nat} (hk : k < n) : kx_val f n / 4294967296 ^ k % 4294967296 = f k := by
  obtain ⟨m, rfl⟩ : ∃ m, n = k + (m + 1) := ⟨n - k - 1, by omega⟩
  have h1 := kx_lt hf k
  have h0 : 0 < 4294967296 ^ k := Nat.pow_pos (by omega)
  rw [kx_split, Nat.add_mul_div_left _ _ h0, Nat.div_eq_of_lt h1, Nat.zero_add, kx_low]
  have h2 := hf (k + 0)
  show (f (k + 0) + 4294967296 * kx_val (fun j => f (k + (j + 1))) m) % 4294967296 = f k
  rw [Nat.add_zero] at h2 ⊢
  omega
theorem kx_word {d : Nat → Nat} (hd : ∀ j, d j < 4294967296) {i : Nat} (hi : i < 8) : kx_V 8 d / 4294967296 ^ (7 - i) % 4294967296 = d i := by
  have h := kx_wordAt (kx_rv_lt hd 8) (k := 7 - i) (n := 8) (by omega)
  have e : kx_rv 8 d (7 - i) = d i := by unfold kx_rv; congr 1; omega
  rw [e] at h
  exact h
/-- what secret answers: 0, or D's word -/
def kx_sec (P Q i : Nat) (r : Int32) : Prop := (¬ kx_fit P Q ∧ r = 0) ∨ (kx_fit P Q ∧ ∃ D : Nat, kx_isD P Q D ∧ r = nI (D / 4294967296 ^ (7 - i) % 4294967296))
theorem kx_sec0 {x : Int32} {P Q i D : Nat} (h : (x = 0 ∧ ¬ kx_fit P Q) ∨ (x = 1 ∧ kx_fit P Q ∧ kx_isD P Q D)) (hx : x = 0) : kx_sec P Q i (nI 0) :=
  Or.inl ⟨(h.resolve_right (fun q => absurd (hx.symm.trans q.1) (by decide))).2, rfl⟩
theorem kx_sec1 {x : Int32} {P Q i : Nat} {d : Nat → Nat} (h : (x = 0 ∧ ¬ kx_fit P Q) ∨ (x = 1 ∧ kx_fit P Q ∧ kx_isD P Q (kx_V 8 d))) (hx : ¬ x = 0) (hi : i < 8) (hd : ∀ j, d j < 4294967296) : kx_sec P Q i (nI (d i)) := by
  have h2 := (h.resolve_left (fun q => hx q.1)).2
  exact Or.inr ⟨h2.1, _, h2.2, by rw [kx_word hd hi]⟩
/-- D is one number -/
theorem kx_isD_one {P Q D E : Nat} (hf : kx_fit P Q) (h1 : kx_isD P Q D) (h2 : kx_isD P Q E) : D = E := by
  obtain ⟨a, a1, a2, a3⟩ := h1
  obtain ⟨b, b1, b2, b3⟩ := h2
  have hM := hf.2.2
  generalize (P - 1) * (Q - 1) = M at a2 a3 b2 b3 hM
  have key : a = b := by
    obtain ⟨x, -, hx⟩ := kv_inv (a := M % 65537) (by omega) (Nat.mod_lt _ (by omega))
    have hx2 : (1 + x * M) % 65537 = 0 := by
      rw [Nat.add_mod, Nat.mul_mod, Nat.mod_mod, ← Nat.mul_mod, ← Nat.add_mod] at hx
      exact hx
    have ea : (x * (1 + a * M)) % 65537 = 0 := by rw [Nat.mul_mod, a2, Nat.mul_zero, Nat.zero_mod]
    have eb : (x * (1 + b * M)) % 65537 = 0 := by rw [Nat.mul_mod, b2, Nat.mul_zero, Nat.zero_mod]
    have fa : (a * (1 + x * M)) % 65537 = 0 := by rw [Nat.mul_mod, hx2, Nat.mul_zero, Nat.zero_mod]
    have fb : (b * (1 + x * M)) % 65537 = 0 := by rw [Nat.mul_mod, hx2, Nat.mul_zero, Nat.zero_mod]
    have ga : x * (a * M) = a * (x * M) := Nat.mul_left_comm x a M
    have gb : x * (b * M) = b * (x * M) := Nat.mul_left_comm x b M
    rw [Nat.mul_add, Nat.mul_one] at ea eb fa fb
    rw [ga] at ea
    rw [gb] at eb
    generalize a * (x * M) = A at ea fa
    generalize b * (x * M) = C at eb fb
    omega
  rw [a3, b3, key]
theorem kx_sec_one {P Q i : Nat} {r z : Int32} (h1 : kx_sec P Q i r) (h2 : kx_sec P Q i z) : r = z := by
  rcases h1 with ⟨a1, a2⟩ | ⟨a1, D, a2, a3⟩ <;> rcases h2 with ⟨b1, b2⟩ | ⟨b1, E, b2, b3⟩
  · rw [a2, b2]
  · exact absurd b1 a1
  · exact absurd a1 b1
  · rw [a3, b3, kx_isD_one a1 a2 b2]
/-- small's row -/
def kx_smallrow (v j : Nat) : Nat := if j = 7 then v % 4294967296 else if j = 6 then v / 4294967296 % 4294967296 else 0
theorem kx_smallOf {f g d : Nat → Nat} {v a b : Nat} (e1 : f = kv_up g 7 a) (e2 : g = kv_up d 6 b) (hz : ∀ j, j < 8 → d j = 0) (ha : a = v % 4294967296) (hb : b = v / 4294967296 % 4294967296) : ∀ j, j < 8 → f j = kx_smallrow v j := by
  intro j hj
  rw [e1, e2]
  unfold kx_smallrow kv_up
  by_cases h7 : j = 7
  · rw [if_pos h7, if_pos h7]; exact ha
  · rw [if_neg h7, if_neg h7]
    by_cases h6 : j = 6
    · rw [if_pos h6, if_pos h6]; exact hb
    · rw [if_neg h6, if_neg h6]; exact hz j hj
theorem kx_sr0 {v k : Nat} (h : k < 6) : nI 0 = nI (kx_smallrow v k) := by
  unfold kx_smallrow
  rw [if_neg (by omega), if_neg (by omega)]
theorem kx_sr6 {v k a : Nat} (h : k = 6) (ha : a = v / 4294967296 % 4294967296) : nI a = nI (kx_smallrow v k) := by
  unfold kx_smallrow
  rw [if_neg (by omega), if_pos h, ha]
theorem kx_sr7 {v k a : Nat} (h : k = 7) (ha : a = v % 4294967296) : nI a = nI (kx_smallrow v k) := by
  unfold kx_smallrow
  rw [if_pos h, ha]
/-! FIND: the reference's secret, exactly -/
theorem kv_at (d : Nat → Nat) (k n : Nat) (hn : k < n) : d k * 65536 ^ k ≤ kv_val d n := by
  have h1 := kv_mono d (k + 1) (n - (k + 1))
  have e : k + 1 + (n - (k + 1)) = n := by omega
  rw [e, kv_val_s] at h1
  omega
theorem kv_big {d : Nat → Nat} {k : Nat} (hk : 0 < k) (h16 : k < 16) (hd : ¬ d k = 0) : 3 ≤ kv_val d 16 := by
  have h := kv_at d k 16 h16
  have h2 : 65536 ^ 1 ≤ 65536 ^ k := Nat.pow_le_pow_right (by omega) hk
  have h3 : 1 * 65536 ^ k ≤ d k * 65536 ^ k := Nat.mul_le_mul_right _ (by omega)
  rw [Nat.pow_one] at h2
  omega
theorem kv_ge0 (d : Nat → Nat) : d 0 ≤ kv_val d 16 := by
  have h := kv_at d 0 16 (by omega)
  rw [Nat.pow_zero, Nat.mul_one] at h
  exact h
theorem kv_small0 {d : Nat → Nat} (h : ∀ j, 0 < j → j < 16 → d j = 0) : kv_val d 16 = d 0 := by
  have h1 := kv_trunc d 1 15 (fun j a b => h j a (by omega))
  have e1 : kv_val d 1 = d 0 := by
    rw [kv_val_s]
    show 0 + d 0 * 65536 ^ 0 = d 0
    omega
  exact h1.trans e1
theorem kv_lessStep {o g : Nat → Nat} {k : Nat} (hk : k < 16) (h0 : o k = 0) (hv : kv_val o 16 + 1 = kv_val g 16 + 65536 ^ k) : kv_val (kv_up o k 65535) 16 + 1 = kv_val g 16 + 65536 ^ (k + 1) := by
  have h1 := kv_up_val o k 65535 16 hk
  rw [h0, Nat.zero_mul] at h1
  rw [Nat.pow_succ]
  generalize 65536 ^ k = P at h1 hv ⊢
  omega
theorem kv_lessEnd {o g : Nat → Nat} {k : Nat} (hk : k < 16) (h0 : ¬ o k = 0) (hv : kv_val o 16 + 1 = kv_val g 16 + 65536 ^ k) : kv_val (kv_up o k (o k - 1)) 16 + 1 = kv_val g 16 := by
  have h1 := kv_up_val o k (o k - 1) 16 hk
  obtain ⟨m, hm⟩ : ∃ m, o k = m + 1 := ⟨o k - 1, by omega⟩
  rw [hm, Nat.add_mul, Nat.one_mul, Nat.add_sub_cancel] at h1
  rw [hm, Nat.add_sub_cancel]
  generalize 65536 ^ k = P at h1 hv
  omega
theorem kv_low (f : Nat → Nat) : ∀ n : Nat, kv_val f (n + 1) = f 0 + 65536 * kv_val (fun j => f (j + 1)) n
  | 0 => by
    rw [kv_val_s]
    show 0 + f 0 * 65536 ^ 0 = f 0 + 65536 * 0
    omega
  | n + 1 => by
    rw [kv_val_s, kv_low f n, kv_val_s, Nat.mul_add, Nat.pow_succ, Nat.mul_comm (65536 ^ n) 65536, Nat.mul_left_comm]
    omega
/-- the figures from K on -/
def kv_hiN (N : Nat) (x : Nat → Nat) (K : Nat) : Nat := kv_val (fun j => x (K + j)) (N - K)
theorem kv_hiN_s {N : Nat} (x : Nat → Nat) {k : Nat} (hk : k < N) : kv_hiN N x k = x k + 65536 * kv_hiN N x (k + 1) := by
  unfold kv_hiN
  have e : N - k = (N - (k + 1)) + 1 := by omega
  have e2 : kv_val (fun j => x (k + (j + 1))) (N - (k + 1)) = kv_val (fun j => x (k + 1 + j)) (N - (k + 1)) := kv_ext _ (fun j _ => by congr 1; omega)
  rw [e, kv_low, e2, Nat.add_zero]
theorem kv_hiN_0 (N : Nat) (x : Nat → Nat) : kv_hiN N x 0 = kv_val x N := by
  unfold kv_hiN
  rw [Nat.sub_zero]
  exact kv_ext N (fun j _ => by rw [Nat.zero_add])
theorem kv_hiN_top (N : Nat) (x : Nat → Nat) : kv_hiN N x N = 0 := by
  unfold kv_hiN
  rw [Nat.sub_self]
  rfl
theorem kv_hiN_up {N : Nat} (x : Nat → Nat) {k v K : Nat} (h : k < K) : kv_hiN N (kv_up x k v) K = kv_hiN N x K := by
  unfold kv_hiN
  exact kv_ext _ (fun j _ => kv_up_ne x v (by omega))
theorem kv_modStep {x : Nat → Nat} {k r : Nat} (hk : k < 16) (h : r = kv_hiN 16 x (k + 1) % 65537) : (65536 * r + x k) % 65537 = kv_hiN 16 x k % 65537 := by
  rw [kv_hiN_s x hk, h]
  omega
theorem kv_top0 {d : Nat → Nat} {N m : Nat} (h : kv_val d N < 65536 ^ m) : ∀ j, m ≤ j → j < N → d j = 0 := by
  intro j h1 h2
  have h3 := kv_at d j N h2
  have h4 : 65536 ^ m ≤ 65536 ^ j := Nat.pow_le_pow_right (by omega) h1
  rcases Nat.eq_zero_or_pos (d j) with h5 | h5
  · exact h5
  · have h6 : 1 * 65536 ^ j ≤ d j * 65536 ^ j := Nat.mul_le_mul_right _ h5
    omega
theorem kv_valLow {d F : Nat → Nat} (h1 : ∀ j, j < 8 → d j = F j) (h2 : ∀ j, 8 ≤ j → j < 16 → d j = 0) : kv_val d 16 = kv_val F 8 :=
  (kv_trunc d 8 8 (fun j a b => h2 j a (by omega))).trans (kv_ext 8 h1)
theorem kv_prodM {x : Nat → Nat} {p q P Q : Nat} (mu : kv_val x 32 = p * q) (h1 : p + 1 = P) (h2 : q + 1 = Q) (hP : P < 65536 ^ 8) (hQ : Q < 65536 ^ 8) : kv_val x 16 = (P - 1) * (Q - 1) ∧ (P - 1) * (Q - 1) < 65536 ^ 16 := by
  have e1 : P - 1 = p := by omega
  have e2 : Q - 1 = q := by omega
  rw [e1, e2]
  have h3 : p * q < 65536 ^ 8 * 65536 ^ 8 := Nat.mul_lt_mul_of_lt_of_lt (by omega) (by omega)
  rw [← Nat.pow_add] at h3
  refine ⟨?_, h3⟩
  rw [← mu] at h3 ⊢
  exact (kv_trunc x 16 16 (fun j a b => kv_top0 (N := 32) h3 j a (by omega))).symm
theorem kv_carry {s x : Nat → Nat} {c k t q : Nat} (ht : t = c + q * x k) (hI : kv_val s k + c * 65536 ^ k = 1 + q * kv_val x k) : kv_val (kv_up s k (t % 65536)) (k + 1) + t / 65536 * 65536 ^ (k + 1) = 1 + q * kv_val x (k + 1) := by
  rw [kv_val_s, kv_val_s, kv_up_eq, kv_up_below s k _ k (Nat.le_refl k), Nat.pow_succ, Nat.mul_add]
  generalize 65536 ^ k = P at hI ⊢
  have h1 : (t / 65536 * 65536 + t % 65536) * P = (c + q * x k) * P := by rw [← ht]; congr 1; omega
  rw [Nat.add_mul, Nat.add_mul, Nat.mul_assoc, Nat.mul_assoc q] at h1
  rw [Nat.mul_comm P 65536]
  omega
theorem kv_carryEnd {s x : Nat → Nat} {c q M : Nat} (hM : kv_val x 16 = M) (hl : M < 65536 ^ 16) (hq : q < 65537) (hI : kv_val s 18 + c * 65536 ^ 18 = 1 + q * kv_val (kv_m18 x) 18) : kv_val s 18 = 1 + q * M := by
  rw [kv_m18_val, hM] at hI
  have h1 : q * M ≤ 65536 * M := Nat.mul_le_mul_right _ (by omega)
  have e : (65536 : Nat) ^ 18 = 65536 * (65536 * 65536 ^ 16) := by decide +kernel
  have h2 : (1 : Nat) < 65536 ^ 16 := by decide +kernel
  rw [e] at hI
  generalize (65536 : Nat) ^ 16 = P at hl hI h2
  generalize q * M = X at h1 hI ⊢
  rcases Nat.eq_zero_or_pos c with h0 | h0
  · rw [h0, Nat.zero_mul, Nat.add_zero] at hI
    exact hI
  · have h3 : 1 * (65536 * (65536 * P)) ≤ c * (65536 * (65536 * P)) := Nat.mul_le_mul_right _ h0
    generalize c * (65536 * (65536 * P)) = Y at h3 hI
    omega
theorem kv_divStep {s z : Nat → Nat} {k r t : Nat} (hk : k < 18) (ht : t = 65536 * r + z k) (hI : 65537 * kv_hiN 18 s (k + 1) + r = kv_hiN 18 z (k + 1)) : 65537 * kv_hiN 18 (kv_up s k (t / 65537)) k + t % 65537 = kv_hiN 18 z k := by
  rw [kv_hiN_s _ hk, kv_hiN_s z hk, kv_up_eq, kv_hiN_up s (by omega), ← hI]
  omega
theorem kv_findD {s z : Nat → Nat} {r q P Q : Nat} (hr : r < 65537) (hq : q < 65537) (h0 : (1 + q * ((P - 1) * (Q - 1))) % 65537 = 0) (hz : kv_val z 18 = 1 + q * ((P - 1) * (Q - 1))) (hI : 65537 * kv_hiN 18 s 0 + r = kv_hiN 18 z 0) : kx_isD P Q (kv_val s 18) := by
  rw [kv_hiN_0, kv_hiN_0, hz] at hI
  refine ⟨q, hq, h0, ?_⟩
  rw [← hI]
  omega
/-- two figures of D are its word -/
theorem kv_word {s : Nat → Nat} (hs : ∀ j, j < 18 → s j < 65536) {i : Nat} (hi : i < 8) : kv_val s 18 / 4294967296 ^ (7 - i) % 4294967296 = s (15 - 2 * i) * 65536 + s (14 - 2 * i) := by
  have e0 : (4294967296 : Nat) = 65536 ^ 2 := by decide
  have e1 : (4294967296 : Nat) ^ (7 - i) = 65536 ^ (14 - 2 * i) := by
    rw [e0, ← Nat.pow_mul]
    congr 1
    omega
  rw [e1]
  obtain ⟨k, hk, hk2⟩ : ∃ k, k = 14 - 2 * i ∧ 15 - 2 * i = k + 1 := ⟨14 - 2 * i, rfl, by omega⟩
  rw [hk2, ← hk]
  have sp : ∀ m : Nat, kv_val s (k + m) = kv_val s k + 65536 ^ k * kv_val (fun j => s (k + j)) m := by
    intro m
    induction m with
    | zero => rfl
    | succ m ih =>
      have e : kv_val s (k + (m + 1)) = kv_val s (k + m) + s (k + m) * 65536 ^ (k + m) := rfl
      rw [e, ih, kv_val_s, Nat.mul_add, Nat.pow_add, Nat.mul_left_comm (65536 ^ k) (s (k + m))]
      omega
  have h18 : 18 = k + ((18 - k - 2) + 1 + 1) := by omega
  have hl : kv_val s k < 65536 ^ k := by
    have h := kv_lt (d := fun j => if j < 18 then s j else 0) (fun j => by
      split
      · exact hs j (by assumption)
      · omega) k
    rw [kv_ext (z := s) k (fun j hj => if_pos (by omega))] at h
    exact h
  have h0 : 0 < 65536 ^ k := Nat.pow_pos (by omega)
  rw [h18, sp, Nat.add_mul_div_left _ _ h0, Nat.div_eq_of_lt hl, Nat.zero_add, kv_low, kv_low]
  have a1 := hs k (by omega)
  have a2 := hs (k + 1) (by omega)
  show (s (k + 0) + 65536 * (s (k + (0 + 1)) + 65536 * kv_val (fun j => s (k + (j + 1 + 1))) (18 - k - 2))) % 4294967296 = s (k + 1) * 65536 + s k
  rw [Nat.add_zero, Nat.zero_add]
  omega
theorem kv_sec1 {x : Int32} {P Q i : Nat} {s : Nat → Nat} (h : (x = 0 ∧ ¬ kx_fit P Q) ∨ (x = 1 ∧ kx_fit P Q ∧ kx_isD P Q (kv_val s 18))) (hx : ¬ x = 0) (hi : i < 8) (hs : ∀ j, j < 18 → s j < 65536) : kx_sec P Q i (nI (s (15 - 2 * i) * 65536 + s (14 - 2 * i))) := by
  have h2 := (h.resolve_left (fun q => hx q.1)).2
  exact Or.inr ⟨h2.1, _, h2.2, by rw [kv_word hs hi]⟩
theorem kz_lz_shr32 {z : Int} (h1 : -2 ^ 63 ≤ z) (h2 : z < 2 ^ 63) : kz_lz z >>> ((nI 32).toInt64 &&& 63) = kz_lz (z / 4294967296) := by
  apply Int64.toInt_inj.mp
  rw [kz_lz_int (z := z / 4294967296) (by omega) (by omega)]
  have e : kz_lz z >>> ((nI 32).toInt64 &&& 63) = Int64.ofBitVec ((kz_lz z).toBitVec.sshiftRight 32) := rfl
  rw [e]
  show ((kz_lz z).toBitVec.sshiftRight 32).toInt = _
  rw [BitVec.toInt_sshiftRight]
  have h3 : (kz_lz z).toBitVec.toInt = z := kz_lz_int h1 h2
  rw [h3, Int.shiftRight_eq_div_pow]
  rfl
/-- the told words' numbers: the class's rows and the reference's figures -/
theorem kv_fig_two (w : Nat → Int32) (fr j : Nat) (hj : j < 8) : kv_fig w fr (2 * j) + 65536 * kv_fig w fr (2 * j + 1) = (w (fr + 7 - j)).toUInt32.toNat := by
  unfold kv_fig
  rw [if_pos (by omega), if_neg (by omega), show 2 * j / 2 = j by omega, show (2 * j + 1) / 2 = j by omega]
  omega
theorem kv_figs (w : Nat → Int32) (fr : Nat) : ∀ m : Nat, m ≤ 8 → kv_val (kv_fig w fr) (2 * m) = kx_val (fun j => (w (fr + 7 - j)).toUInt32.toNat) m
  | 0, _ => rfl
  | m + 1, h => by
    have e : 2 * (m + 1) = 2 * m + 1 + 1 := by omega
    rw [e, kv_val_s, kv_val_s, kv_figs w fr m (by omega), kx_val_s, ← kv_fig_two w fr m (by omega)]
    have e2 : (4294967296 : Nat) ^ m = 65536 ^ (2 * m) := by
      rw [show (4294967296 : Nat) = 65536 ^ 2 by decide, ← Nat.pow_mul]
    rw [e2, Nat.pow_succ, Nat.add_mul, Nat.mul_comm 65536 (kv_fig w fr (2 * m + 1)), Nat.mul_assoc (kv_fig w fr (2 * m + 1)), Nat.mul_comm (65536 ^ (2 * m)) 65536]
    omega
theorem kx_L_figs {w : Nat → Int32} {d : Nat → Nat} {fr : Nat} (hd : ∀ j, d j < 4294967296) (h : ∀ j, j < 8 → w (fr + j) = nI (d j)) : kv_val (kv_fig w fr) 8 = kx_L d := by
  have h1 := kv_figs w fr 4 (by omega)
  have h2 : kv_val (kv_fig w fr) 8 = kx_val (fun j => (w (fr + 7 - j)).toUInt32.toNat) 4 := h1
  have h3 := kx_trunc (kx_rv 8 (kx_lo d)) 4 4 (fun j a b => by unfold kx_rv kx_lo; rw [if_pos (by omega)])
  have h4 : kx_L d = kx_val (kx_rv 8 (kx_lo d)) 4 := h3
  rw [h2, h4]
  refine kx_ext 4 (fun j hj => ?_)
  rw [show fr + 7 - j = fr + (7 - j) by omega, h (7 - j) (by omega), kz_un (hd _)]
  unfold kx_rv kx_lo
  rw [if_neg (by omega)]
/-! WORDS, more: for the fitness of the numbers (p4) -/
theorem kx_bigN {d : Nat → Nat} {k : Nat} (hk : k < 7) (hd : ¬ d k = 0) : 4294967296 ≤ kx_V 8 d := by
  have h := kx_at (kx_rv 8 d) (7 - k) 8 (by omega)
  have e : kx_rv 8 d (7 - k) = d k := by unfold kx_rv; congr 1; omega
  rw [e] at h
  have h2 : 4294967296 ^ 1 ≤ 4294967296 ^ (7 - k) := Nat.pow_le_pow_right (by omega) (by omega)
  have h3 : 1 * 4294967296 ^ (7 - k) ≤ d k * 4294967296 ^ (7 - k) := Nat.mul_le_mul_right _ (by omega)
  show 4294967296 ≤ kx_val (kx_rv 8 d) 8
  rw [Nat.pow_one] at h2
  omega
theorem kx_subN {o g : Nat → Nat} {k c c' v n : Nat} (hk : k < 8) (hv : v + c = g k + c' * 4294967296) (hI : kx_val (kx_rv 8 o) (8 - (k + 1)) + n = kx_val (kx_rv 8 g) (8 - (k + 1)) + c * 4294967296 ^ (8 - (k + 1))) :
    kx_val (kx_rv 8 (kv_up o k v)) (8 - k) + n = kx_val (kx_rv 8 g) (8 - k) + c' * 4294967296 ^ (8 - k) := by
  rw [kx_downStep hk, kx_downAt hk, kx_pw k hk]
  generalize 4294967296 ^ (8 - (k + 1)) = P at hI ⊢
  have h1 : (v + c) * P = (g k + c' * 4294967296) * P := by rw [hv]
  rw [Nat.add_mul, Nat.add_mul, Nat.mul_assoc] at h1
  omega
theorem kx_subEndN {o g : Nat → Nat} {b : Int} {n : Nat} (hd : ∀ j, o j < 4294967296) (h1 : n ≤ kx_V 8 g) (hI : kx_val (kx_rv 8 o) (8 - 0) + n = kx_val (kx_rv 8 g) (8 - 0) + b.toNat * 4294967296 ^ (8 - 0)) : kx_V 8 o + n = kx_V 8 g := by
  have h2 := kx_V_lt hd 8
  unfold kx_V at h1 h2 ⊢
  rw [Nat.sub_zero] at hI
  generalize (4294967296 : Nat) ^ 8 = P at h2 hI
  generalize kx_val (kx_rv 8 o) 8 = x at h2 hI ⊢
  generalize kx_val (kx_rv 8 g) 8 = y at h1 hI ⊢
  rcases Nat.eq_zero_or_pos b.toNat with h | h
  · rw [h, Nat.zero_mul, Nat.add_zero] at hI
    exact hI
  · have h3 : 1 * P ≤ b.toNat * P := Nat.mul_le_mul_right _ h
    omega
theorem kx_cmpLt {a b : Nat → Nat} {k : Nat} (hk : k < 8) (ha : ∀ j, a j < 4294967296) (h : ∀ j, j < k → a j = b j) (hl : a k < b k) : kx_V 8 a < kx_V 8 b := by
  have key : ∀ m : Nat, kx_pre a (k + 1 + m) < kx_pre b (k + 1 + m) := by
    intro m
    induction m with
    | zero =>
      show kx_pre a k * 4294967296 + a k < kx_pre b k * 4294967296 + b k
      rw [kx_pre_ext k h]
      omega
    | succ m ih =>
      have h1 := ha (k + 1 + m)
      show kx_pre a (k + 1 + m) * 4294967296 + a (k + 1 + m) < kx_pre b (k + 1 + m) * 4294967296 + b (k + 1 + m)
      omega
  have h2 := key (7 - k)
  rw [show k + 1 + (7 - k) = 8 by omega, kx_pre_V, kx_pre_V] at h2
  exact h2
/-! FIGURES, more: the reference's isWithin -/
theorem kv_bigW {d : Nat → Nat} {k : Nat} (hk : 2 ≤ k) (h16 : k < 16) (hd : ¬ d k = 0) : 4294967296 ≤ kv_val d 16 := by
  have h := kv_at d k 16 h16
  have h2 : 65536 ^ 2 ≤ 65536 ^ k := Nat.pow_le_pow_right (by omega) hk
  have h3 : 1 * 65536 ^ k ≤ d k * 65536 ^ k := Nat.mul_le_mul_right _ (by omega)
  rw [show (65536 : Nat) ^ 2 = 4294967296 by decide] at h2
  omega
theorem kv_two {d : Nat → Nat} (h : ∀ j, 2 ≤ j → j < 16 → d j = 0) : kv_val d 16 = 65536 * d 1 + d 0 := by
  have h1 := kv_trunc d 2 14 (fun j a b => h j a (by omega))
  have e1 : kv_val d 2 = 65536 * d 1 + d 0 := by
    rw [kv_val_s, kv_val_s]
    show 0 + d 0 * 65536 ^ 0 + d 1 * 65536 ^ 1 = _
    rw [Nat.pow_zero, Nat.pow_one]
    omega
  exact h1.trans e1
theorem kv_addStep {s x : Nat → Nat} {c k t n : Nat} (ht : t = c + x k) (hI : kv_val s k + c * 65536 ^ k = n + kv_val x k) : kv_val (kv_up s k (t % 65536)) (k + 1) + t / 65536 * 65536 ^ (k + 1) = n + kv_val x (k + 1) := by
  rw [kv_val_s, kv_val_s, kv_up_eq, kv_up_below s k _ k (Nat.le_refl k), Nat.pow_succ]
  generalize 65536 ^ k = P at hI ⊢
  have h1 : (t / 65536 * 65536 + t % 65536) * P = (c + x k) * P := by rw [← ht]; congr 1; omega
  rw [Nat.add_mul, Nat.add_mul, Nat.mul_assoc] at h1
  rw [Nat.mul_comm P 65536]
  omega
theorem kv_cmpLe {r : Int32} {A B : Nat} (h : (r = 0 ∧ A = B) ∨ (r = 1 ∧ B < A) ∨ (r = -1 ∧ A < B)) (hc : ¬ 0 < r) : A ≤ B := by
  rcases h with ⟨-, h⟩ | ⟨h0, h⟩ | ⟨-, h⟩
  · omega
  · rw [h0] at hc
    exact absurd (by decide) hc
  · omega
theorem kv_cmpGt {r : Int32} {A B : Nat} (h : (r = 0 ∧ A = B) ∨ (r = 1 ∧ B < A) ∨ (r = -1 ∧ A < B)) (hc : 0 < r) : B < A := by
  rcases h with ⟨h0, h⟩ | ⟨-, h⟩ | ⟨h0, h⟩
  · rw [h0] at hc
    exact absurd hc (by decide)
  · exact h
  · rw [h0] at hc
    exact absurd hc (by decide)
theorem kv_over {x p : Nat → Nat} {c V : Nat} (hp : ∀ j, p j < 65536) (hc : ¬ c = 0) (hI : kv_val x 16 + c * 65536 ^ 16 = 2 + V) : ¬ V + 2 ≤ kv_val p 16 := by
  have h1 := kv_lt hp 16
  have h2 : 1 * 65536 ^ 16 ≤ c * 65536 ^ 16 := Nat.mul_le_mul_right _ (by omega)
  generalize (65536 : Nat) ^ 16 = P at h1 h2 hI
  omega
theorem kv_even {x : Nat → Nat} {c V : Nat} (hc : c = 0) (hI : kv_val x 16 + c * 65536 ^ 16 = 2 + V) : kv_val x 16 = V + 2 := by
  rw [hc, Nat.zero_mul, Nat.add_zero] at hI
  omega
theorem kv_bigF {d : Nat → Nat} {k : Nat} (hk : 0 < k) (h16 : k < 16) (hd : ¬ d k = 0) : 65536 ≤ kv_val d 16 := by
  have h := kv_at d k 16 h16
  have h2 : 65536 ^ 1 ≤ 65536 ^ k := Nat.pow_le_pow_right (by omega) hk
  have h3 : 1 * 65536 ^ k ≤ d k * 65536 ^ k := Nat.mul_le_mul_right _ (by omega)
  rw [Nat.pow_one] at h2
  omega
/-- the numbers are as offer wants them -/
def kx_ok (P G p q : Nat) : Prop := 5 ≤ P ∧ 2 ≤ G ∧ G + 2 ≤ P ∧ kx_fit p q
/-! the stage and the state: 0 or not; what offer answers -/
theorem kz_st0 {a b : Int32} (ha : ¬ a = 0) (hb : ¬ b = 0) : (a = 0 ↔ b = 0) := ⟨fun h => absurd h ha, fun h => absurd h hb⟩
def kx_off (z ok : Prop) (r : Int32) (z' : Prop) : Prop := (¬ z ∧ r = -11 ∧ ¬ z') ∨ (z ∧ ¬ ok ∧ r = -10 ∧ z') ∨ (z ∧ ok ∧ r = 1 ∧ ¬ z')
theorem kx_off_one {z1 z2 k1 k2 a b : Prop} {r q : Int32} (hz : z1 ↔ z2) (hk : k1 ↔ k2) (h1 : kx_off z1 k1 r a) (h2 : kx_off z2 k2 q b) : r = q ∧ (a ↔ b) := by
  rcases h1 with ⟨a1, a2, a3⟩ | ⟨a1, a2, a3, a4⟩ | ⟨a1, a2, a3, a4⟩ <;> rcases h2 with ⟨b1, b2, b3⟩ | ⟨b1, b2, b3, b4⟩ | ⟨b1, b2, b3, b4⟩
  · exact ⟨a2.trans b2.symm, ⟨fun h => absurd h a3, fun h => absurd h b3⟩⟩
  · exact absurd (hz.mpr b1) a1
  · exact absurd (hz.mpr b1) a1
  · exact absurd (hz.mp a1) b1
  · exact ⟨a3.trans b3.symm, ⟨fun _ => b4, fun _ => a4⟩⟩
  · exact absurd (hk.mpr b2) a2
  · exact absurd (hz.mp a1) b1
  · exact absurd (hk.mp a2) b2
  · exact ⟨a3.trans b3.symm, ⟨fun h => absurd h a4, fun h => absurd h b4⟩⟩
/-! what is told: the class's seven rows, the reference's one -/
def kw_t7 (a b c d e f g : Nat → Nat) : Nat → Nat → Nat := fun k => match k with
  | 0 => a
  | 1 => b
  | 2 => c
  | 3 => d
  | 4 => e
  | 5 => f
  | _ => g
def kw_T (g : Nat → Int32) (τ : Nat → Nat → Nat) : Prop := ∀ k, k < 7 → ∀ j, j < 8 → g (8 * k + j) = nI (τ k j)
theorem kw_num1 {g : Nat → Int32} {a b : Nat → Nat} {w i v c j : Nat} (hi : i < 8) (hj : j < 8) (h : g (8 * c + j) = nI (a j)) (q : b j = if w = c then kv_up a i v j else a j) : upd g (8 * w + i) (nI v) (8 * c + j) = nI (b j) := by
  rw [q]
  unfold upd kv_up
  by_cases hw : w = c
  · rw [if_pos hw]
    by_cases hji : j = i
    · rw [if_pos (by omega), if_pos hji]
    · rw [if_neg (by omega), if_neg hji]; exact h
  · rw [if_neg hw, if_neg (by omega)]; exact h
theorem kw_sm1 {g g' : Nat → Int32} {a b : Nat → Nat} {w v c j : Nat} (hj : j < 8) (h : g (8 * c + j) = nI (a j)) (m1 : ∀ j, j < 8 → g' (8 * w + j) = nI (kx_smallrow v j)) (m2 : ∀ j, (j < 8 * w ∨ 8 * w + 8 ≤ j) → g' j = g j) (q : b j = if w = c then kx_smallrow v j else a j) : g' (8 * c + j) = nI (b j) := by
  rw [q]
  by_cases hw : w = c
  · rw [if_pos hw, ← hw]; exact m1 j hj
  · rw [if_neg hw, m2 _ (by omega)]; exact h
theorem kw_numT {g g' : Nat → Int32} {τ : Nat → Nat → Nat} {a0 a1 a2 a3 a4 a5 a6 b0 b1 b2 b3 b4 b5 b6 : Nat → Nat} {w i v : Nat} (hi : i < 8) (hτ : τ = kw_t7 a0 a1 a2 a3 a4 a5 a6) (hT : kw_T g τ) (hg : g' = upd g (8 * w + i) (nI v))
    (q0 : ∀ j, j < 8 → b0 j = if w = 0 then kv_up a0 i v j else a0 j) (q1 : ∀ j, j < 8 → b1 j = if w = 1 then kv_up a1 i v j else a1 j) (q2 : ∀ j, j < 8 → b2 j = if w = 2 then kv_up a2 i v j else a2 j) (q3 : ∀ j, j < 8 → b3 j = if w = 3 then kv_up a3 i v j else a3 j)
    (q4 : ∀ j, j < 8 → b4 j = if w = 4 then kv_up a4 i v j else a4 j) (q5 : ∀ j, j < 8 → b5 j = if w = 5 then kv_up a5 i v j else a5 j) (q6 : ∀ j, j < 8 → b6 j = if w = 6 then kv_up a6 i v j else a6 j) : kw_T g' (kw_t7 b0 b1 b2 b3 b4 b5 b6) := by
  intro k hk j hj
  have h := hT k hk j hj
  rw [hτ] at h
  rw [hg]
  rcases (by omega : k = 0 ∨ k = 1 ∨ k = 2 ∨ k = 3 ∨ k = 4 ∨ k = 5 ∨ k = 6) with rfl | rfl | rfl | rfl | rfl | rfl | rfl
  · exact kw_num1 hi hj h (q0 j hj)
  · exact kw_num1 hi hj h (q1 j hj)
  · exact kw_num1 hi hj h (q2 j hj)
  · exact kw_num1 hi hj h (q3 j hj)
  · exact kw_num1 hi hj h (q4 j hj)
  · exact kw_num1 hi hj h (q5 j hj)
  · exact kw_num1 hi hj h (q6 j hj)
theorem kw_smT {g g' : Nat → Int32} {τ : Nat → Nat → Nat} {a0 a1 a2 a3 a4 a5 a6 b0 b1 b2 b3 b4 b5 b6 : Nat → Nat} {w v : Nat} (hτ : τ = kw_t7 a0 a1 a2 a3 a4 a5 a6) (hT : kw_T g τ) (m1 : ∀ j, j < 8 → g' (8 * w + j) = nI (kx_smallrow v j)) (m2 : ∀ j, (j < 8 * w ∨ 8 * w + 8 ≤ j) → g' j = g j)
    (q0 : ∀ j, j < 8 → b0 j = if w = 0 then kx_smallrow v j else a0 j) (q1 : ∀ j, j < 8 → b1 j = if w = 1 then kx_smallrow v j else a1 j) (q2 : ∀ j, j < 8 → b2 j = if w = 2 then kx_smallrow v j else a2 j) (q3 : ∀ j, j < 8 → b3 j = if w = 3 then kx_smallrow v j else a3 j)
    (q4 : ∀ j, j < 8 → b4 j = if w = 4 then kx_smallrow v j else a4 j) (q5 : ∀ j, j < 8 → b5 j = if w = 5 then kx_smallrow v j else a5 j) (q6 : ∀ j, j < 8 → b6 j = if w = 6 then kx_smallrow v j else a6 j) : kw_T g' (kw_t7 b0 b1 b2 b3 b4 b5 b6) := by
  intro k hk j hj
  have h := hT k hk j hj
  rw [hτ] at h
  rcases (by omega : k = 0 ∨ k = 1 ∨ k = 2 ∨ k = 3 ∨ k = 4 ∨ k = 5 ∨ k = 6) with rfl | rfl | rfl | rfl | rfl | rfl | rfl
  · exact kw_sm1 hj h m1 m2 (q0 j hj)
  · exact kw_sm1 hj h m1 m2 (q1 j hj)
  · exact kw_sm1 hj h m1 m2 (q2 j hj)
  · exact kw_sm1 hj h m1 m2 (q3 j hj)
  · exact kw_sm1 hj h m1 m2 (q4 j hj)
  · exact kw_sm1 hj h m1 m2 (q5 j hj)
  · exact kw_sm1 hj h m1 m2 (q6 j hj)
theorem kw_T0 {g : Nat → Int32} {a0 a1 a2 a3 a4 a5 a6 : Nat → Nat} (hg : g = fun _ => 0) (h0 : a0 = fun _ => 0) (h1 : a1 = fun _ => 0) (h2 : a2 = fun _ => 0) (h3 : a3 = fun _ => 0) (h4 : a4 = fun _ => 0) (h5 : a5 = fun _ => 0) (h6 : a6 = fun _ => 0) : kw_T g (kw_t7 a0 a1 a2 a3 a4 a5 a6) := by
  subst hg h0 h1 h2 h3 h4 h5 h6
  intro k hk j hj
  rcases (by omega : k = 0 ∨ k = 1 ∨ k = 2 ∨ k = 3 ∨ k = 4 ∨ k = 5 ∨ k = 6) with rfl | rfl | rfl | rfl | rfl | rfl | rfl <;> rfl
/-- secret's two answers are one -/
theorem kw_secOne {g : Nat → Int32} {τ : Nat → Nat → Nat} {i : Nat} {r z : Int32} (hT : kw_T g τ) (b2 : ∀ j, τ 2 j < 4294967296) (b3 : ∀ j, τ 3 j < 4294967296) (h1 : kx_sec (kx_L (τ 2)) (kx_L (τ 3)) i z) (h2 : kx_sec (kv_val (kv_fig g 16) 8) (kv_val (kv_fig g 24) 8) i r) : z = r := by
  rw [kx_L_figs b2 (fun j hj => hT 2 (by omega) j hj), kx_L_figs b3 (fun j hj => hT 3 (by omega) j hj)] at h2
  exact kx_sec_one h1 h2
theorem kz_posl {x : Int64} (h : ¬ x < 0) : ∃ n : Nat, n < 9223372036854775808 ∧ x = kz_lz ((n : Nat) : Int) := by
  have h0 : 0 ≤ x.toInt := by
    rw [Int64.lt_iff_toInt_lt, Int64.toInt_zero] at h
    omega
  have h1 := Int64.toInt_lt x
  refine ⟨x.toInt.toNat, by omega, ?_⟩
  have e : ((x.toInt.toNat : Nat) : Int) = x.toInt := by omega
  rw [e]
  exact (Int64.ofInt_toInt x).symm
/-! a told row's words and its figures: one number; what offer wants is one in both -/
theorem kx_V_figs {w : Nat → Int32} {d : Nat → Nat} {fr : Nat} (hd : ∀ j, d j < 4294967296) (h : ∀ j, j < 8 → w (fr + j) = nI (d j)) : kv_val (kv_fig w fr) 16 = kx_V 8 d := by
  have h1 := kv_figs w fr 8 (Nat.le_refl _)
  have h2 : kv_val (kv_fig w fr) 16 = kx_val (fun j => (w (fr + 7 - j)).toUInt32.toNat) 8 := h1
  rw [h2]
  refine kx_ext 8 (fun j hj => ?_)
  rw [show fr + 7 - j = fr + (7 - j) by omega, h (7 - j) (by omega), kz_un (hd _)]
  rfl
theorem kw_okOne {g : Nat → Int32} {τ : Nat → Nat → Nat} {a0 a1 a2 a3 a4 a5 a6 : Nat → Nat} (hτ : τ = kw_t7 a0 a1 a2 a3 a4 a5 a6) (hT : kw_T g τ) (b0 : ∀ j, a0 j < 4294967296) (b1 : ∀ j, a1 j < 4294967296) (b2 : ∀ j, a2 j < 4294967296) (b3 : ∀ j, a3 j < 4294967296) :
    kx_ok (kx_V 8 a0) (kx_V 8 a1) (kx_L a2) (kx_L a3) ↔ kx_ok (kv_val (kv_fig g 0) 16) (kv_val (kv_fig g 8) 16) (kv_val (kv_fig g 16) 8) (kv_val (kv_fig g 24) 8) := by
  rw [hτ] at hT
  rw [kx_V_figs b0 (fun j hj => hT 0 (by omega) j hj), kx_V_figs b1 (fun j hj => hT 1 (by omega) j hj), kx_L_figs b2 (fun j hj => hT 2 (by omega) j hj), kx_L_figs b3 (fun j hj => hT 3 (by omega) j hj)]
