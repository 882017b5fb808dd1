/-! MATH: rows of figures to the base 65536, and what the reference's loops need to end -/
def kv_val (d : Nat → Nat) : Nat → Nat
  | 0 => 0
  | n + 1 => kv_val d n + d n * 65536 ^ n
theorem kv_val_s (d : Nat → Nat) (n : Nat) : kv_val d (n + 1) = kv_val d n + d n * 65536 ^ n := rfl
theorem kv_lt {d : Nat → Nat} (hd : ∀ j, d j < 65536) : ∀ n : Nat, kv_val d n < 65536 ^ n
  | 0 => Nat.one_pos
  | n + 1 => by
    have h := kv_lt hd n
    have h2 : (d n + 1) * 65536 ^ n ≤ 65536 * 65536 ^ n := Nat.mul_le_mul_right _ (hd n)
    rw [Nat.add_mul, Nat.one_mul] at h2
    rw [kv_val_s, Nat.pow_succ, Nat.mul_comm (65536 ^ n) 65536]
    omega
theorem kv_ext {r z : Nat → Nat} : ∀ n : Nat, (∀ j, j < n → r j = z j) → kv_val r n = kv_val z n
  | 0, _ => rfl
  | n + 1, h => by
    rw [kv_val_s, kv_val_s, kv_ext n (fun j hj => h j (by omega)), h n (by omega)]
theorem kv_cmp {r z : Nat → Nat} (hz : ∀ j, z j < 65536) {k : Nat} (hk : z k < r k) : ∀ n : Nat, k < n → (∀ j, k < j → j < n → r j = z j) → kv_val z n < kv_val r n
  | 0, h, _ => absurd h (by omega)
  | n + 1, h, he => by
    rw [kv_val_s, kv_val_s]
    by_cases hkn : k = n
    · subst hkn
      have h1 := kv_lt hz k
      have h2 : (z k + 1) * 65536 ^ k ≤ r k * 65536 ^ k := Nat.mul_le_mul_right _ hk
      rw [Nat.add_mul, Nat.one_mul] at h2
      omega
    · have h1 := kv_cmp hz hk n (by omega) (fun j a b => he j a (by omega))
      rw [he n (by omega) (by omega)]
      omega
theorem kv_mono (d : Nat → Nat) (n : Nat) : ∀ k : Nat, kv_val d n ≤ kv_val d (n + k)
  | 0 => Nat.le_refl _
  | k + 1 => by
    have h := kv_mono d n k
    have e : kv_val d (n + (k + 1)) = kv_val d (n + k) + d (n + k) * 65536 ^ (n + k) := rfl
    omega
theorem kv_trunc (d : Nat → Nat) (k : Nat) : ∀ n : Nat, (∀ j, k ≤ j → j < k + n → d j = 0) → kv_val d (k + n) = kv_val d k
  | 0, _ => rfl
  | n + 1, h => by
    have e : kv_val d (k + (n + 1)) = kv_val d (k + n) + d (k + n) * 65536 ^ (k + n) := rfl
    rw [e, kv_trunc d k n (fun j a b => h j a (by omega)), h (k + n) (by omega) (by omega), Nat.zero_mul, Nat.add_zero]
theorem kv_pos {d : Nat → Nat} {k : Nat} (hk : 0 < d k) (n : Nat) (hn : k < n) : 0 < kv_val d n := by
  have h1 := kv_mono d (k + 1) (n - (k + 1))
  have e : k + 1 + (n - (k + 1)) = n := by omega
  rw [e, kv_val_s] at h1
  have h2 : 0 < d k * 65536 ^ k := Nat.mul_pos hk (Nat.pow_pos (by omega))
  omega
theorem kv_nz {d : Nat → Nat} : ∀ n : Nat, 0 < kv_val d n → ∃ k, k < n ∧ 0 < d k
  | 0, h => absurd h (Nat.lt_irrefl 0)
  | n + 1, h => by
    rw [kv_val_s] at h
    by_cases h0 : 0 < d n
    · exact ⟨n, by omega, h0⟩
    · have e : d n = 0 := by omega
      rw [e, Nat.zero_mul] at h
      obtain ⟨k, a, b⟩ := kv_nz n h
      exact ⟨k, by omega, b⟩
/-- one figure changed -/
def kv_up (d : Nat → Nat) (k v : Nat) : Nat → Nat := fun j => if j = k then v else d j
theorem kv_up_eq (d : Nat → Nat) (k v : Nat) : kv_up d k v k = v := if_pos rfl
theorem kv_up_ne (d : Nat → Nat) {k j : Nat} (v : Nat) (h : j ≠ k) : kv_up d k v j = d j := if_neg h
theorem kv_up_lt {d : Nat → Nat} (hd : ∀ j, d j < 65536) {k v : Nat} (hv : v < 65536) : ∀ j, kv_up d k v j < 65536 := by
  intro j
  unfold kv_up
  split
  · exact hv
  · exact hd j
theorem kv_up_below (d : Nat → Nat) (k v n : Nat) (h : n ≤ k) : kv_val (kv_up d k v) n = kv_val d n := kv_ext n (fun j hj => kv_up_ne d v (by omega))
theorem kv_up_val (d : Nat → Nat) (k v : Nat) : ∀ n : Nat, k < n → kv_val (kv_up d k v) n + d k * 65536 ^ k = kv_val d n + v * 65536 ^ k
  | 0, h => absurd h (by omega)
  | n + 1, h => by
    rw [kv_val_s, kv_val_s]
    by_cases hkn : k = n
    · subst hkn
      rw [kv_up_eq, kv_up_below d k v k (Nat.le_refl k)]
      omega
    · rw [kv_up_ne d v (show n ≠ k by omega)]
      have h1 := kv_up_val d k v n (by omega)
      omega
/-- the product of two figures, a figure and a carry beside it -/
theorem kv_ab {a b c g : Nat} (ha : a < 65536) (hb : b < 65536) (hc : c < 65536) (hg : g < 65536) : (c + g + a * b) / 65536 < 65536 ∧ c + g + a * b < 2 ^ 33 := by
  have h : a * b ≤ 65535 * 65535 := Nat.mul_le_mul (by omega) (by omega)
  omega
/-- a product's row, a figure further -/
theorem kv_mulStep {g b : Nat → Nat} {c V ai i j : Nat} (hij : i + j < 32) (hI : kv_val g 32 + c * 65536 ^ (i + j) = V + ai * 65536 ^ i * kv_val b j) :
    kv_val (kv_up g (i + j) ((c + g (i + j) + ai * b j) % 65536)) 32 + (c + g (i + j) + ai * b j) / 65536 * 65536 ^ (i + (j + 1)) = V + ai * 65536 ^ i * kv_val b (j + 1) := by
  have h1 := kv_up_val g (i + j) ((c + g (i + j) + ai * b j) % 65536) 32 hij
  generalize ht : c + g (i + j) + ai * b j = t at h1 ⊢
  have e1 : 65536 ^ (i + (j + 1)) = 65536 * 65536 ^ (i + j) := by rw [show i + (j + 1) = (i + j) + 1 by omega, Nat.pow_succ, Nat.mul_comm]
  have e2 : t / 65536 * 65536 ^ (i + (j + 1)) + t % 65536 * 65536 ^ (i + j) = t * 65536 ^ (i + j) := by
    rw [e1, ← Nat.mul_assoc, ← Nat.add_mul]
    have h9 : t / 65536 * 65536 + t % 65536 = t := by omega
    rw [h9]
  have e3 : t * 65536 ^ (i + j) = c * 65536 ^ (i + j) + g (i + j) * 65536 ^ (i + j) + ai * b j * 65536 ^ (i + j) := by rw [← ht, Nat.add_mul, Nat.add_mul]
  have e4 : ai * b j * 65536 ^ (i + j) = ai * 65536 ^ i * (b j * 65536 ^ j) := by
    rw [Nat.pow_add]
    simp only [Nat.mul_assoc, Nat.mul_comm, Nat.mul_left_comm]
  rw [kv_val_s b j, Nat.mul_add]
  omega
/-- a product's row, its end -/
theorem kv_mulRow {g b a : Nat → Nat} {c i : Nat} (hi : i < 16) (hg : g (i + 16) = 0) (hI : kv_val g 32 + c * 65536 ^ (i + 16) = kv_val a i * kv_val b 16 + a i * 65536 ^ i * kv_val b 16) :
    kv_val (kv_up g (i + 16) c) 32 = kv_val a (i + 1) * kv_val b 16 := by
  have h1 := kv_up_val g (i + 16) c 32 (by omega)
  rw [hg, Nat.zero_mul] at h1
  rw [kv_val_s a i, Nat.add_mul]
  omega
/-- a row and a carry below 0: q times m is taken away, a figure further -/
theorem kv_cast (d : Nat → Nat) (n : Nat) : ((kv_val d (n + 1) : Nat) : Int) = (kv_val d n : Int) + (d n : Int) * (65536 : Int) ^ n := by
  rw [kv_val_s, Int.natCast_add, Int.natCast_mul, Int.natCast_pow]
  rfl
theorem kv_subStep {g r z : Nat → Nat} {c q t : Int} {j : Nat} (hI : (kv_val g j : Int) + c * (65536 : Int) ^ j = (kv_val r j : Int) - q * (kv_val z j : Int)) (ht : t = c + (r j : Int) - q * (z j : Int)) :
    (kv_val (kv_up g j (t % 65536).toNat) (j + 1) : Int) + t / 65536 * (65536 : Int) ^ (j + 1) = (kv_val r (j + 1) : Int) - q * (kv_val z (j + 1) : Int) := by
  rw [kv_cast, kv_cast, kv_cast, kv_up_eq, kv_up_below g j _ j (Nat.le_refl j)]
  have hv : (((t % 65536).toNat : Nat) : Int) = t % 65536 := by omega
  rw [hv, Int.pow_succ]
  generalize (65536 : Int) ^ j = P at hI ⊢
  have e3 : t % 65536 * P + t / 65536 * (P * 65536) = t * P := by
    rw [Int.mul_comm P 65536, ← Int.mul_assoc, ← Int.add_mul]
    have h9 : t % 65536 + t / 65536 * 65536 = t := by omega
    rw [h9]
  have e4 : t * P = c * P + (r j : Int) * P - q * ((z j : Int) * P) := by rw [ht, Int.sub_mul, Int.add_mul, Int.mul_assoc q]
  rw [Int.mul_add]
  omega
theorem kv_subEnd {g r z : Nat → Nat} {c : Int} {q : Nat} (hg : ∀ j, g j < 65536) (hr : ∀ j, r j < 65536) (hq : 0 < q) (hz : 0 < kv_val z 18) (hle : q * kv_val z 18 ≤ kv_val r 18)
    (hI : (kv_val g 18 : Int) + c * (65536 : Int) ^ 18 = (kv_val r 18 : Int) - (q : Int) * (kv_val z 18 : Int)) : kv_val g 18 < kv_val r 18 := by
  have h1 := kv_lt hg 18
  have h2 := kv_lt hr 18
  have h3 : 0 < q * kv_val z 18 := Nat.mul_pos hq hz
  have h4 : (q : Int) * (kv_val z 18 : Int) = ((q * kv_val z 18 : Nat) : Int) := (Int.natCast_mul _ _).symm
  rw [h4] at hI
  generalize q * kv_val z 18 = M at h3 hle hI
  generalize kv_val g 18 = a at h1 hI ⊢
  generalize kv_val r 18 = b at h2 hle hI ⊢
  omega
/-- what is taken away is never more than there is -/
theorem kv_q0 {m r : Nat → Nat} {q : Nat} (hz : ∀ j, 0 < j → j < 18 → m j = 0) (hq : q * (65536 * m 0 + 1) ≤ 65536 * (65536 * r 1 + r 0)) : q * kv_val m 18 ≤ kv_val r 18 := by
  have h1 := kv_trunc m 1 17 (fun j a b => hz j (by omega) (by omega))
  have e1 : kv_val m 1 = m 0 := by rw [kv_val_s]; show 0 + m 0 * 65536 ^ 0 = m 0; omega
  have e2 : kv_val r 2 = r 0 + r 1 * 65536 := by rw [kv_val_s, kv_val_s]; show 0 + r 0 * 65536 ^ 0 + r 1 * 65536 ^ 1 = _; omega
  have h2 := kv_mono r 2 16
  have h3 : kv_val m 18 = m 0 := h1.trans e1
  have h4 : kv_val r 2 ≤ kv_val r 18 := h2
  rw [h3]
  rw [Nat.mul_add, Nat.mul_one, Nat.mul_left_comm] at hq
  omega
theorem kv_q1 {m r : Nat → Nat} {q t : Nat} (hm : ∀ j, m j < 65536) (ht : t < 15) (hz : ∀ j, t + 1 < j → j < 18 → m j = 0) (hq : q * (65536 * m (t + 1) + m t + 1) ≤ 65536 * (65536 * r (t + 2) + r (t + 1)) + r t) : q * kv_val m 18 ≤ kv_val r 18 := by
  have h1 := kv_trunc m (t + 2) (16 - t) (fun j a b => hz j (by omega) (by omega))
  have e0 : t + 2 + (16 - t) = 18 := by omega
  rw [e0] at h1
  have h2 := kv_mono r (t + 3) (15 - t)
  have e9 : t + 3 + (15 - t) = 18 := by omega
  rw [e9] at h2
  have h3 := kv_lt hm t
  have p1 : 65536 ^ (t + 1) = 65536 * 65536 ^ t := by rw [Nat.pow_succ, Nat.mul_comm]
  have p2 : 65536 ^ (t + 2) = 65536 * (65536 * 65536 ^ t) := by rw [Nat.pow_succ, Nat.mul_comm, p1]
  have e1 : kv_val m (t + 2) = kv_val m t + m t * 65536 ^ t + m (t + 1) * (65536 * 65536 ^ t) := by rw [kv_val_s, kv_val_s, p1]
  have e2 : kv_val r (t + 3) = kv_val r t + r t * 65536 ^ t + r (t + 1) * (65536 * 65536 ^ t) + r (t + 2) * (65536 * (65536 * 65536 ^ t)) := by rw [kv_val_s, kv_val_s, kv_val_s, p1, p2]
  have a1 : kv_val m 18 ≤ (65536 * m (t + 1) + m t + 1) * 65536 ^ t := by
    rw [h1, e1, Nat.add_mul, Nat.add_mul, Nat.one_mul, Nat.mul_assoc 65536 (m (t + 1)), Nat.mul_left_comm (m (t + 1)) 65536]
    omega
  have a2 : (65536 * (65536 * r (t + 2) + r (t + 1)) + r t) * 65536 ^ t ≤ kv_val r 18 := by
    refine Nat.le_trans ?_ h2
    rw [e2, Nat.add_mul, Nat.mul_assoc 65536, Nat.add_mul, Nat.mul_assoc 65536 (r (t + 2)), Nat.mul_left_comm (r (t + 1)) 65536, Nat.mul_left_comm (r (t + 2)) 65536, Nat.mul_left_comm (r (t + 2)) 65536]
    omega
  have a3 : q * kv_val m 18 ≤ q * ((65536 * m (t + 1) + m t + 1) * 65536 ^ t) := Nat.mul_le_mul_left _ a1
  rw [← Nat.mul_assoc] at a3
  have a4 := Nat.mul_le_mul_right (65536 ^ t) hq
  omega
/-- 65537 has no divisor; there is a multiple of a that is one less than a multiple of 65537 -/
theorem kv_small : ∀ d : Nat, d < 257 → 2 ≤ d → 65537 % d ≠ 0 := by decide +kernel
theorem kv_prime {a : Nat} (h2 : 2 ≤ a) (h : a < 65537) : 65537 % a ≠ 0 := by
  intro h0
  have e := Nat.div_add_mod 65537 a
  rw [h0, Nat.add_zero] at e
  by_cases ha : a < 257
  · exact kv_small a ha h2 h0
  · have hb : 65537 / a < 257 := by
      rcases Nat.lt_or_ge (65537 / a) 257 with q | q
      · exact q
      · have := Nat.mul_le_mul (show 257 ≤ a by omega) q
        omega
    have h3 : 65537 % (65537 / a) = 0 := by
      generalize 65537 / a = b at e
      rw [← e]
      exact Nat.mul_mod_left a b
    refine kv_small _ hb ?_ h3
    rcases Nat.lt_or_ge (65537 / a) 2 with q | q
    · have h4 : ∀ b : Nat, b < 2 → b = 0 ∨ b = 1 := by omega
      rcases h4 _ q with h4 | h4 <;> rw [h4] at e <;> omega
    · exact q
theorem kv_inv0 : ∀ (n a : Nat), a < n → 0 < a → a < 65537 → ∃ x : Nat, (1 + x * a) % 65537 = 0
  | 0, _, h, _, _ => absurd h (by omega)
  | n + 1, a, h, h0, h1 => by
    by_cases ha : a = 1
    · exact ⟨65536, by rw [ha]⟩
    · have hr := kv_prime (show 2 ≤ a by omega) h1
      have hr2 := Nat.mod_lt 65537 h0
      obtain ⟨y, hy⟩ := kv_inv0 n (65537 % a) (by omega) (by omega) (by omega)
      have e := Nat.div_add_mod 65537 a
      have e2 : y * (a * (65537 / a)) + y * (65537 % a) = y * 65537 := by rw [← Nat.mul_add, e]
      refine ⟨65536 * (y * (65537 / a)), ?_⟩
      have e3 : 65536 * (y * (65537 / a)) * a = 65536 * (y * (a * (65537 / a))) := by rw [Nat.mul_assoc, Nat.mul_assoc, Nat.mul_comm (65537 / a) a]
      rw [e3]
      generalize y * (a * (65537 / a)) = A at e2 ⊢
      generalize y * (65537 % a) = C at e2 hy
      omega
theorem kv_inv {a : Nat} (h0 : 0 < a) (h1 : a < 65537) : ∃ x : Nat, x < 65537 ∧ (1 + x * a) % 65537 = 0 := by
  obtain ⟨x, hx⟩ := kv_inv0 (a + 1) a (by omega) h0 h1
  have e : x * a = 65537 * (x / 65537 * a) + x % 65537 * a := by rw [← Nat.mul_assoc, ← Nat.add_mul, Nat.div_add_mod]
  refine ⟨x % 65537, Nat.mod_lt _ (by omega), ?_⟩
  rw [e] at hx
  generalize x / 65537 * a = A at hx
  omega
