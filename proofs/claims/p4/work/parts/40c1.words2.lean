/-! WORDS, more: for the fitness of the numbers (p4) -/
theorem kx_bigN {d : Nat → Nat} {k : Nat} (hk : k < 7) (hd : ¬ d k = 0) : 4294967296 ≤ kx_V 8 d := by
  have h := kx_at (kx_rv 8 d) (7 - k) 8 (by omega)
  have e : kx_rv 8 d (7 - k) = d k := by unfold kx_rv; congr 1; omega
  rw [e] at h
  have h2 : 4294967296 ^ 1 ≤ 4294967296 ^ (7 - k) := Nat.pow_le_pow_right (by omega) (by omega)
  have h3 : 1 * 4294967296 ^ (7 - k) ≤ d k * 4294967296 ^ (7 - k) := Nat.mul_le_mul_right _ (by omega)
  show 4294967296 ≤ kx_val (kx_rv 8 d) 8
  rw [Nat.pow_one] at h2
  omega
theorem kx_subN {o g : Nat → Nat} {k c c' v n : Nat} (hk : k < 8) (hv : v + c = g k + c' * 4294967296) (hI : kx_val (kx_rv 8 o) (8 - (k + 1)) + n = kx_val (kx_rv 8 g) (8 - (k + 1)) + c * 4294967296 ^ (8 - (k + 1))) :
    kx_val (kx_rv 8 (kv_up o k v)) (8 - k) + n = kx_val (kx_rv 8 g) (8 - k) + c' * 4294967296 ^ (8 - k) := by
  rw [kx_downStep hk, kx_downAt hk, kx_pw k hk]
  generalize 4294967296 ^ (8 - (k + 1)) = P at hI ⊢
  have h1 : (v + c) * P = (g k + c' * 4294967296) * P := by rw [hv]
  rw [Nat.add_mul, Nat.add_mul, Nat.mul_assoc] at h1
  omega
theorem kx_subEndN {o g : Nat → Nat} {b : Int} {n : Nat} (hd : ∀ j, o j < 4294967296) (h1 : n ≤ kx_V 8 g) (hI : kx_val (kx_rv 8 o) (8 - 0) + n = kx_val (kx_rv 8 g) (8 - 0) + b.toNat * 4294967296 ^ (8 - 0)) : kx_V 8 o + n = kx_V 8 g := by
  have h2 := kx_V_lt hd 8
  unfold kx_V at h1 h2 ⊢
  rw [Nat.sub_zero] at hI
  generalize (4294967296 : Nat) ^ 8 = P at h2 hI
  generalize kx_val (kx_rv 8 o) 8 = x at h2 hI ⊢
  generalize kx_val (kx_rv 8 g) 8 = y at h1 hI ⊢
  rcases Nat.eq_zero_or_pos b.toNat with h | h
  · rw [h, Nat.zero_mul, Nat.add_zero] at hI
    exact hI
  · have h3 : 1 * P ≤ b.toNat * P := Nat.mul_le_mul_right _ h
    omega
theorem kx_cmpLt {a b : Nat → Nat} {k : Nat} (hk : k < 8) (ha : ∀ j, a j < 4294967296) (h : ∀ j, j < k → a j = b j) (hl : a k < b k) : kx_V 8 a < kx_V 8 b := by
  have key : ∀ m : Nat, kx_pre a (k + 1 + m) < kx_pre b (k + 1 + m) := by
    intro m
    induction m with
    | zero =>
      show kx_pre a k * 4294967296 + a k < kx_pre b k * 4294967296 + b k
      rw [kx_pre_ext k h]
      omega
    | succ m ih =>
      have h1 := ha (k + 1 + m)
      show kx_pre a (k + 1 + m) * 4294967296 + a (k + 1 + m) < kx_pre b (k + 1 + m) * 4294967296 + b (k + 1 + m)
      omega
  have h2 := key (7 - k)
  rw [show k + 1 + (7 - k) = 8 by omega, kx_pre_V, kx_pre_V] at h2
  exact h2
/-! FIGURES, more: the reference's isWithin -/
theorem kv_bigW {d : Nat → Nat} {k : Nat} (hk : 2 ≤ k) (h16 : k < 16) (hd : ¬ d k = 0) : 4294967296 ≤ kv_val d 16 := by
  have h := kv_at d k 16 h16
  have h2 : 65536 ^ 2 ≤ 65536 ^ k := Nat.pow_le_pow_right (by omega) hk
  have h3 : 1 * 65536 ^ k ≤ d k * 65536 ^ k := Nat.mul_le_mul_right _ (by omega)
  rw [show (65536 : Nat) ^ 2 = 4294967296 by decide] at h2
  omega
theorem kv_two {d : Nat → Nat} (h : ∀ j, 2 ≤ j → j < 16 → d j = 0) : kv_val d 16 = 65536 * d 1 + d 0 := by
  have h1 := kv_trunc d 2 14 (fun j a b => h j a (by omega))
  have e1 : kv_val d 2 = 65536 * d 1 + d 0 := by
    rw [kv_val_s, kv_val_s]
    show 0 + d 0 * 65536 ^ 0 + d 1 * 65536 ^ 1 = _
    rw [Nat.pow_zero, Nat.pow_one]
    omega
  exact h1.trans e1
theorem kv_addStep {s x : Nat → Nat} {c k t n : Nat} (ht : t = c + x k) (hI : kv_val s k + c * 65536 ^ k = n + kv_val x k) : kv_val (kv_up s k (t % 65536)) (k + 1) + t / 65536 * 65536 ^ (k + 1) = n + kv_val x (k + 1) := by
  rw [kv_val_s, kv_val_s, kv_up_eq, kv_up_below s k _ k (Nat.le_refl k), Nat.pow_succ]
  generalize 65536 ^ k = P at hI ⊢
  have h1 : (t / 65536 * 65536 + t % 65536) * P = (c + x k) * P := by rw [← ht]; congr 1; omega
  rw [Nat.add_mul, Nat.add_mul, Nat.mul_assoc] at h1
  rw [Nat.mul_comm P 65536]
  omega
theorem kv_cmpLe {r : Int32} {A B : Nat} (h : (r = 0 ∧ A = B) ∨ (r = 1 ∧ B < A) ∨ (r = -1 ∧ A < B)) (hc : ¬ 0 < r) : A ≤ B := by
  rcases h with ⟨-, h⟩ | ⟨h0, h⟩ | ⟨-, h⟩
  · omega
  · rw [h0] at hc
    exact absurd (by decide) hc
  · omega
theorem kv_cmpGt {r : Int32} {A B : Nat} (h : (r = 0 ∧ A = B) ∨ (r = 1 ∧ B < A) ∨ (r = -1 ∧ A < B)) (hc : 0 < r) : B < A := by
  rcases h with ⟨h0, h⟩ | ⟨-, h⟩ | ⟨h0, h⟩
  · rw [h0] at hc
    exact absurd hc (by decide)
  · exact h
  · rw [h0] at hc
    exact absurd hc (by decide)
theorem kv_over {x p : Nat → Nat} {c V : Nat} (hp : ∀ j, p j < 65536) (hc : ¬ c = 0) (hI : kv_val x 16 + c * 65536 ^ 16 = 2 + V) : ¬ V + 2 ≤ kv_val p 16 := by
  have h1 := kv_lt hp 16
  have h2 : 1 * 65536 ^ 16 ≤ c * 65536 ^ 16 := Nat.mul_le_mul_right _ (by omega)
  generalize (65536 : Nat) ^ 16 = P at h1 h2 hI
  omega
theorem kv_even {x : Nat → Nat} {c V : Nat} (hc : c = 0) (hI : kv_val x 16 + c * 65536 ^ 16 = 2 + V) : kv_val x 16 = V + 2 := by
  rw [hc, Nat.zero_mul, Nat.add_zero] at hI
  omega
theorem kv_bigF {d : Nat → Nat} {k : Nat} (hk : 0 < k) (h16 : k < 16) (hd : ¬ d k = 0) : 65536 ≤ kv_val d 16 := by
  have h := kv_at d k 16 h16
  have h2 : 65536 ^ 1 ≤ 65536 ^ k := Nat.pow_le_pow_right (by omega) hk
  have h3 : 1 * 65536 ^ k ≤ d k * 65536 ^ k := Nat.mul_le_mul_right _ (by omega)
  rw [Nat.pow_one] at h2
  omega
/-- the numbers are as offer wants them -/
def kx_ok (P G p q : Nat) : Prop := 5 ≤ P ∧ 2 ≤ G ∧ G + 2 ≤ P ∧ kx_fit p q
