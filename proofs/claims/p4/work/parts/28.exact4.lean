/-! what the reference's answer needs: N is not 0 -/
theorem kv_prod_some {x P Q : Nat → Nat} (hP : ∀ j, P j < 65536) (hQ : ∀ j, Q j < 65536) (hv : kv_val x 32 = kv_val P 16 * kv_val Q 16) (sP : kv_some P 0 16) (sQ : kv_some Q 0 16)
    (zP : ∀ j, 8 ≤ j → j < 16 → P j = 0) (zQ : ∀ j, 8 ≤ j → j < 16 → Q j = 0) : kv_some x 0 16 := by
  have a1 := kv_some_val sP
  have a2 := kv_some_val sQ
  have b1 := kv_trunc P 8 8 (fun j a b => zP j a b)
  have b2 := kv_trunc Q 8 8 (fun j a b => zQ j a b)
  have c1 := kv_lt hP 8
  have c2 := kv_lt hQ 8
  have d1 : kv_val P 16 < 65536 ^ 8 := by rw [show kv_val P 16 = kv_val P 8 from b1]; exact c1
  have d2 : kv_val Q 16 < 65536 ^ 8 := by rw [show kv_val Q 16 = kv_val Q 8 from b2]; exact c2
  have p0 : 0 < kv_val x 32 := by rw [hv]; exact Nat.mul_pos a1 a2
  have p1 : kv_val x 32 < 65536 ^ 16 := by
    rw [hv]
    have h := Nat.mul_lt_mul_of_lt_of_lt d1 d2
    have e : (65536 : Nat) ^ 8 * 65536 ^ 8 = 65536 ^ 16 := by rw [← Nat.pow_add]
    rw [e] at h
    exact h
  obtain ⟨k, hk, hx⟩ := kv_nz 32 p0
  rcases Nat.lt_or_ge k 16 with h | h
  · exact ⟨k, Nat.zero_le k, h, hx⟩
  · exfalso
    have m1 := kv_mono x (k + 1) (32 - (k + 1))
    rw [show k + 1 + (32 - (k + 1)) = 32 by omega, kv_val_s] at m1
    have m2 : 65536 ^ 16 ≤ 65536 ^ k := Nat.pow_le_pow_right (by omega) h
    have m3 : 1 * 65536 ^ k ≤ x k * 65536 ^ k := Nat.mul_le_mul_right _ hx
    rw [Nat.one_mul] at m3
    have m4 : 65536 ^ 16 ≤ kv_val x 32 := Nat.le_trans m2 (Nat.le_trans m3 (Nat.le_trans (Nat.le_add_left _ _) m1))
    exact absurd p1 (Nat.not_lt.mpr m4)
theorem kv_fig_words {d : Nat → Nat} {w : Nat → Int32} {a : Nat} (hd : ∀ j, d j < 65536) (h : ∀ i, i < 8 → w (a + i) = nI (d (15 - 2 * i) * 65536 + d (14 - 2 * i))) : ∀ j, j < 16 → kv_fig w a j = d j := by
  intro j hj
  have e : a + 7 - j / 2 = a + (7 - j / 2) := by omega
  unfold kv_fig
  rw [e, h (7 - j / 2) (by omega)]
  have h1 := hd (15 - 2 * (7 - j / 2))
  have h2 := hd (14 - 2 * (7 - j / 2))
  rw [kz_un (by omega)]
  by_cases hp : j % 2 = 0
  · rw [if_pos hp]
    have e2 : 14 - 2 * (7 - j / 2) = j := by omega
    rw [e2] at h2 ⊢
    omega
  · rw [if_neg hp]
    have e2 : 15 - 2 * (7 - j / 2) = j := by omega
    rw [e2] at h1 ⊢
    omega
theorem kv_fig_same {w v : Nat → Int32} (h : ∀ j, (j < 16 ∨ 16 + 8 ≤ j) → w j = v j) : ∀ j, j < 16 → kv_fig w 8 j = kv_fig v 8 j := by
  intro j hj
  unfold kv_fig
  rw [h (8 + 7 - j / 2) (Or.inl (by omega))]
theorem kz_b01 {c : Nat} (h : c ≤ 1) : nI c = 0 ∨ nI c = 1 := by
  rcases (by omega : c = 0 ∨ c = 1) with h | h
  · rw [h]; exact Or.inl rfl
  · rw [h]; exact Or.inr rfl
