/-! what the reference's remain needs -/
theorem kz_dec {k : Nat} (h : 0 < k) : nI k + Int32.ofInt (-1) = nI (k - 1) := by
  obtain ⟨j, rfl⟩ : ∃ j, k = j + 1 := ⟨k - 1, by omega⟩
  rw [kz_m1, nI_pred]
  rfl
theorem kz_neg {k : Nat} (hk : k < 2 ^ 31) : nI k - 1 < 0 ↔ k = 0 := by
  constructor
  · intro h
    rcases Nat.eq_zero_or_pos k with h0 | h0
    · exact h0
    · obtain ⟨j, rfl⟩ : ∃ j, k = j + 1 := ⟨k - 1, by omega⟩
      rw [nI_pred] at h
      exact absurd h (nI_pos (by omega))
  · intro h
    subst h
    decide
theorem kv_qm {q : Int} {m : Nat} (h0 : 0 ≤ q) (h1 : q < 4294967296) (hm : m < 65536) : 0 ≤ q * (m : Int) ∧ q * (m : Int) < 281474976710656 := by
  obtain ⟨n, rfl⟩ : ∃ n : Nat, q = (n : Int) := ⟨q.toNat, by omega⟩
  have h2 : n * m ≤ 4294967295 * 65535 := Nat.mul_le_mul (by omega) (by omega)
  have h3 : (n : Int) * (m : Int) = ((n * m : Nat) : Int) := (Int.natCast_mul _ _).symm
  rw [h3]
  omega
/-- head by high: not below 0, below 2^32, and high times it is not above head -/
theorem kv_qdiv {a b : Int} (h0 : 0 ≤ a) (h1 : a < 281474976710656) (h2 : 65536 ≤ b) : 0 ≤ a / b ∧ a / b < 4294967296 ∧ (a / b).toNat * b.toNat ≤ a.toNat := by
  obtain ⟨n, rfl⟩ : ∃ n : Nat, a = (n : Int) := ⟨a.toNat, by omega⟩
  obtain ⟨k, rfl⟩ : ∃ n : Nat, b = (n : Int) := ⟨b.toNat, by omega⟩
  rw [← Int.natCast_ediv]
  have h3 : n / k < 4294967296 := (Nat.div_lt_iff_lt_mul (by omega)).mpr (by
    have := Nat.mul_le_mul_left 4294967296 (show 65536 ≤ k by omega)
    omega)
  have h4 := Nat.div_mul_le_self n k
  generalize n / k = w at h3 h4 ⊢
  exact ⟨by omega, by omega, h4⟩
theorem kv_qZ1 {m r : Nat → Nat} {top : Nat} {hd hi q : Int} (hm : ∀ j, m j < 65536) (hr : ∀ j, r j < 65536) (h0 : 0 < top) (h16 : top < 16) (hmt : 0 < m top) (hz : ∀ j, top < j → j < 16 → m j = 0)
    (hhi : hi = (65536 * (m top : Int)) + (m (top - 1) : Int) + 1) (hhd : hd = (65536 * ((65536 * (r (top + 1) : Int)) + (r top : Int))) + (r (top - 1) : Int)) (hq : q = hd / hi) : 0 ≤ q ∧ q < 4294967296 ∧ q.toNat * kv_val (kv_m18 m) 18 ≤ kv_val r 18 := by
  obtain ⟨t, rfl⟩ : ∃ t, top = t + 1 := ⟨top - 1, by omega⟩
  have e1 : t + 1 - 1 = t := by omega
  rw [e1] at hhi hhd
  have a1 := hr (t + 1 + 1)
  have a2 := hr (t + 1)
  have a3 := hr t
  have a4 := hm (t + 1)
  have a5 := hm t
  obtain ⟨q1, q2, q3⟩ := kv_qdiv (a := hd) (b := hi) (by omega) (by omega) (by omega)
  rw [← hq] at q1 q2 q3
  refine ⟨q1, q2, kv_q1 (kv_m18_lt hm) (t := t) (by omega) (fun j b1 b2 => ?_) ?_⟩
  · unfold kv_m18
    by_cases hj : j < 16
    · rw [if_pos hj]; exact hz j (by omega) hj
    · rw [if_neg hj]
  · have b1 : kv_m18 m (t + 1) = m (t + 1) := by unfold kv_m18; rw [if_pos h16]
    have b2 : kv_m18 m t = m t := by unfold kv_m18; rw [if_pos (by omega)]
    have b3 : hi.toNat = 65536 * m (t + 1) + m t + 1 := by omega
    have b4 : hd.toNat = 65536 * (65536 * r (t + 1 + 1) + r (t + 1)) + r t := by omega
    rw [b1, b2, ← b3]
    show q.toNat * hi.toNat ≤ 65536 * (65536 * r (t + 1 + 1) + r (t + 1)) + r t
    rw [← b4]
    exact q3
theorem kv_qZ0 {m r : Nat → Nat} {hd hi q : Int} (hm : ∀ j, m j < 65536) (hr : ∀ j, r j < 65536) (hmt : 0 < m 0) (hz : ∀ j, 0 < j → j < 16 → m j = 0)
    (hhi : hi = (65536 * (m 0 : Int)) + ((0 : Nat) : Int) + 1) (hhd : hd = (65536 * ((65536 * (r (0 + 1) : Int)) + (r 0 : Int))) + ((0 : Nat) : Int)) (hq : q = hd / hi) : 0 ≤ q ∧ q < 4294967296 ∧ q.toNat * kv_val (kv_m18 m) 18 ≤ kv_val r 18 := by
  have a1 := hr (0 + 1)
  have a2 := hr 0
  have a4 := hm 0
  obtain ⟨q1, q2, q3⟩ := kv_qdiv (a := hd) (b := hi) (by omega) (by omega) (by omega)
  rw [← hq] at q1 q2 q3
  refine ⟨q1, q2, kv_q0 (fun j b1 b2 => ?_) ?_⟩
  · unfold kv_m18
    by_cases hj : j < 16
    · rw [if_pos hj]; exact hz j b1 hj
    · rw [if_neg hj]
  · have b1 : kv_m18 m 0 = m 0 := by unfold kv_m18; rw [if_pos (by omega)]
    have b3 : hi.toNat = 65536 * m 0 + 1 := by omega
    have b4 : hd.toNat = 65536 * (65536 * r (0 + 1) + r 0) := by omega
    rw [b1, ← b3]
    show q.toNat * hi.toNat ≤ 65536 * (65536 * r (0 + 1) + r 0)
    rw [← b4]
    exact q3
