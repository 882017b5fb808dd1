/-! what the reference's remain needs -/
theorem kz_dec {k : Nat} (h : 0 < k) : nI k + Int32.ofInt (-1) = nI (k - 1) := by
  obtain ⟨j, rfl⟩ : ∃ j, k = j + 1 := ⟨k - 1, by omega⟩
  rw [kz_m1, nI_pred]
  rfl
theorem kz_neg {k : Nat} (hk : k < 2 ^ 31) : nI k - 1 < 0 ↔ k = 0 := by
  constructor
  · intro h
    rcases Nat.eq_zero_or_pos k with h0 | h0
    · exact h0
    · obtain ⟨j, rfl⟩ : ∃ j, k = j + 1 := ⟨k - 1, by omega⟩
      rw [nI_pred] at h
      exact absurd h (nI_pos (by omega))
  · intro h
    subst h
    decide
theorem kv_qm {q : Int} {m : Nat} (h0 : 0 ≤ q) (h1 : q < 4294967296) (hm : m < 65536) : 0 ≤ q * (m : Int) ∧ q * (m : Int) < 281474976710656 := by
  obtain ⟨n, rfl⟩ : ∃ n : Nat, q = (n : Int) := ⟨q.toNat, by omega⟩
  have h2 : n * m ≤ 4294967295 * 65535 := Nat.mul_le_mul (by omega) (by omega)
  have h3 : (n : Int) * (m : Int) = ((n * m : Nat) : Int) := (Int.natCast_mul _ _).symm
  rw [h3]
  omega
/-- head by high: not below 0, below 2^32, and high times it is not above head -/
theorem kv_qdiv {a b : Int} (h0 : 0 ≤ a) (h1 : a < 281474976710656) (h2 : 65536 ≤ b) : 0 ≤ a / b ∧ a / b < 4294967296 ∧ (a / b).toNat * b.toNat ≤ a.toNat := by
  obtain ⟨n, rfl⟩ : ∃ n : Nat, a = (n : Int) := ⟨a.toNat, by omega⟩
  obtain ⟨k, rfl⟩ : ∃ n : Nat, b = (n : Int) := ⟨b.toNat, by omega⟩
  rw [← Int.natCast_ediv]
  have h3 : n / k < 4294967296 := (Nat.div_lt_iff_lt_mul (by omega)).mpr (by
    have := Nat.mul_le_mul_left 4294967296 (show 65536 ≤ k by omega)
    omega)
  have h4 := Nat.div_mul_le_self n k
  generalize n / k = w at h3 h4 ⊢
  exact ⟨by omega, by omega, h4⟩
theorem kv_qZ1 {m r : Nat → Nat} {top : Nat} {hd hi q : Int} (hm : ∀ j, m j < 65536) (hr : ∀ j, r j < 65536) (h0 : 0 < top) (h16 : top < 16) (hmt : 0 < m top) (hz : ∀ j, top < j → j < 16 → m j = 0)
    (hhi : hi = (65536 * (m top : Int)) + (m (top - 1) : Int) + 1) (hhd : hd = (65536 * ((65536 * (r (top + 1) : Int)) + (r top : Int))) + (r (top - 1) : Int)) (hq : q = hd / hi) : 0 ≤ q ∧ q < 4294967296 ∧ q.toNat * kv_val (kv_m18 m) 18 ≤ kv_val r 18 := by
  obtain ⟨t, rfl⟩ : ∃ t, top = t + 1 := ⟨top - 1, by omega⟩
  have e1 : t + 1 - 1 = t := by omega
  rw [e1] at hhi hhd
  have a1 := hr (t + 1 + 1)
  have a2 := hr (t + 1)
  have a3 := hr t
  have a4 := hm (t + 1)
  have a5 := hm t
  obtain ⟨q1, q2, q3⟩ := kv_qdiv (a := hd) (b := hi) (by omega) (by omega) (by omega)
  rw [← hq] at q1 q2 q3
  refine ⟨q1, q2, kv_q1 (kv_m18_lt hm) (t := t) (by omega) (fun j b1 b2 => ?_) ?_⟩
  · unfold kv_m18
    by_cases hj : j < 16
    · rw [if_pos hj]; exact hz j (by omega) hj
    · rw [if_neg hj]
  · have b1 : kv_m18 m (t + 1) = m (t + 1) := by unfold kv_m18; rw [if_pos h16]
    have b2 : kv_m18 m t = m t := by unfold kv_m18; rw [if_pos (by omega)]
    have b3 : hi.toNat = 65536 * m (t + 1) + m t + 1 := by omega
    have b4 : hd.toNat = 65536 * (65536 * r (t + 1 + 1) + r (t + 1)) + r t := by omega
    rw [b1, b2, ← b3]
    show q.toNat * hi.toNat ≤ 65536 * (65536 * r (t + 1 + 1) + r (t + 1)) + r t
    rw [← b4]
    exact q3
theorem kv_qZ0 {m r : Nat → Nat} {hd hi q : Int} (hm : ∀ j, m j < 65536) (hr : ∀ j, r j < 65536) (hmt : 0 < m 0) (hz : ∀ j, 0 < j → j < 16 → m j = 0)
    (hhi : hi = (65536 * (m 0 : Int)) + ((0 : Nat) : Int) + 1) (hhd : hd = (65536 * ((65536 * (r (0 + 1) : Int)) + (r 0 : Int))) + ((0 : Nat) : Int)) (hq : q = hd / hi) : 0 ≤ q ∧ q < 4294967296 ∧ q.toNat * kv_val (kv_m18 m) 18 ≤ kv_val r 18 := by
  have a1 := hr (0 + 1)
  have a2 := hr 0
  have a4 := hm 0
  obtain ⟨q1, q2, q3⟩ := kv_qdiv (a := hd) (b := hi) (by omega) (by omega) (by omega)
  rw [← hq] at q1 q2 q3
  refine ⟨q1, q2, kv_q0 (fun j b1 b2 => ?_) ?_⟩
  · unfold kv_m18
    by_cases hj : j < 16
    · rw [if_pos hj]; exact hz j b1 hj
    · rw [if_neg hj]
  · have b1 : kv_m18 m 0 = m 0 := by unfold kv_m18; rw [if_pos (by omega)]
    have b3 : hi.toNat = 65536 * m 0 + 1 := by omega
    have b4 : hd.toNat = 65536 * (65536 * r (0 + 1) + r 0) := by omega
    rw [b1, ← b3]
    show q.toNat * hi.toNat ≤ 65536 * (65536 * r (0 + 1) + r 0)
    rw [← b4]
    exact q3
/-! what the reference's find, isWithin and raiseBy need -/
theorem kz_and16L (x : Int64) : ∃ z : Nat, z < 65536 ∧ x &&& kz_lz 65535 = kz_lz (z : Int) := by
  obtain ⟨n, rfl⟩ : ∃ n : Int, x = kz_lz n := ⟨x.toInt, (Int64.ofInt_toInt x).symm⟩
  refine ⟨(n % 65536).toNat, by omega, ?_⟩
  rw [kz_lz_andz]
  congr 1
  omega
section KX3
variable {p : Program} {l : Launch} {e : Env} {R : Room} {s : State} {m : MethodId} {args : Array Value} {below : List Frame} {meth : Method} {c : Code} {H : Heap} {locs : List Loc} {cells slots : Nat} {Q : State → Prop}
variable {cc : ByteArray} {pc : Nat} {ls : Array Slot} {rest : List Value}
theorem kz_mask16 (hexec : p.tables.exec = Jvm.exec) (hb : c.code = cc) {x : Int64} (hdg : decode cc pc = .ok (.land, 1)) (k : ∀ z : Nat, z < 65536 → W p l e R s m args below meth c H locs cells slots Q (F0 m (pc + 1) ls (.long (kz_lz (z : Int)) :: rest))) : W p l e R s m args below meth c H locs cells slots Q (F0 m pc ls (.long (kz_lz 65535) :: .long x :: rest)) := by
  obtain ⟨z, hz, ez⟩ := kz_and16L x
  refine lv_land hexec hb hdg ?_
  rw [ez]
  exact k z hz
end KX3
theorem kv_kz {k : Nat} {z : Int} (hk : k < 65537) (h0 : 0 ≤ z) (h1 : z < 65537) : 0 ≤ (k : Int) * z ∧ (k : Int) * z < 4294967297 := by
  obtain ⟨n, rfl⟩ : ∃ n : Nat, z = (n : Int) := ⟨z.toNat, by omega⟩
  have h2 : k * n ≤ 65536 * 65536 := Nat.mul_le_mul (by omega) (by omega)
  have h3 : (k : Int) * (n : Int) = ((k * n : Nat) : Int) := (Int.natCast_mul _ _).symm
  rw [h3]
  omega
theorem kv_some_low {d F : Nat → Nat} (h : kv_some d 0 16) (h1 : ∀ j, j < 8 → d j = F j) (h2 : ∀ j, 8 ≤ j → j < 16 → d j = 0) : kv_some F 0 8 := by
  obtain ⟨j, a, b, c⟩ := h
  rcases Nat.lt_or_ge j 8 with h3 | h3
  · exact ⟨j, a, h3, by rw [← h1 j h3]; exact c⟩
  · exact absurd c (by rw [h2 j h3 b]; omega)
theorem kv_some_up {d F : Nat → Nat} (h : kv_some F 0 8) (h1 : ∀ j, j < 8 → d j = F j) : kv_some d 0 16 := by
  obtain ⟨j, a, b, c⟩ := h
  exact ⟨j, a, by omega, by rw [h1 j b]; exact c⟩
theorem kv_invZ {z : Int} (h0 : 0 ≤ z) (h1 : z < 65537) (h2 : ¬ z = 0) : ∃ x : Nat, x < 65537 ∧ (1 + ((x : Nat) : Int) * z) % 65537 = 0 := by
  obtain ⟨n, rfl⟩ : ∃ n : Nat, z = (n : Int) := ⟨z.toNat, by omega⟩
  obtain ⟨x, h3, h4⟩ := kv_inv (a := n) (by omega) (by omega)
  refine ⟨x, h3, ?_⟩
  rw [← Int.natCast_mul]
  omega
/-! what the reference's answer needs: N is not 0 -/
theorem kv_prod_some {x P Q : Nat → Nat} (hP : ∀ j, P j < 65536) (hQ : ∀ j, Q j < 65536) (hv : kv_val x 32 = kv_val P 16 * kv_val Q 16) (sP : kv_some P 0 16) (sQ : kv_some Q 0 16)
    (zP : ∀ j, 8 ≤ j → j < 16 → P j = 0) (zQ : ∀ j, 8 ≤ j → j < 16 → Q j = 0) : kv_some x 0 16 := by
  have a1 := kv_some_val sP
  have a2 := kv_some_val sQ
  have b1 := kv_trunc P 8 8 (fun j a b => zP j a b)
  have b2 := kv_trunc Q 8 8 (fun j a b => zQ j a b)
  have c1 := kv_lt hP 8
  have c2 := kv_lt hQ 8
  have d1 : kv_val P 16 < 65536 ^ 8 := by rw [show kv_val P 16 = kv_val P 8 from b1]; exact c1
  have d2 : kv_val Q 16 < 65536 ^ 8 := by rw [show kv_val Q 16 = kv_val Q 8 from b2]; exact c2
  have p0 : 0 < kv_val x 32 := by rw [hv]; exact Nat.mul_pos a1 a2
  have p1 : kv_val x 32 < 65536 ^ 16 := by
    rw [hv]
    have h := Nat.mul_lt_mul_of_lt_of_lt d1 d2
    have e : (65536 : Nat) ^ 8 * 65536 ^ 8 = 65536 ^ 16 := by rw [← Nat.pow_add]
    rw [e] at h
    exact h
  obtain ⟨k, hk, hx⟩ := kv_nz 32 p0
  rcases Nat.lt_or_ge k 16 with h | h
  · exact ⟨k, Nat.zero_le k, h, hx⟩
  · exfalso
    have m1 := kv_mono x (k + 1) (32 - (k + 1))
    rw [show k + 1 + (32 - (k + 1)) = 32 by omega, kv_val_s] at m1
    have m2 : 65536 ^ 16 ≤ 65536 ^ k := Nat.pow_le_pow_right (by omega) h
    have m3 : 1 * 65536 ^ k ≤ x k * 65536 ^ k := Nat.mul_le_mul_right _ hx
    rw [Nat.one_mul] at m3
    have m4 : 65536 ^ 16 ≤ kv_val x 32 := Nat.le_trans m2 (Nat.le_trans m3 (Nat.le_trans (Nat.le_add_left _ _) m1))
    exact absurd p1 (Nat.not_lt.mpr m4)
theorem kv_fig_words {d : Nat → Nat} {w : Nat → Int32} {a : Nat} (hd : ∀ j, d j < 65536) (h : ∀ i, i < 8 → w (a + i) = nI (d (15 - 2 * i) * 65536 + d (14 - 2 * i))) : ∀ j, j < 16 → kv_fig w a j = d j := by
  intro j hj
  have e : a + 7 - j / 2 = a + (7 - j / 2) := by omega
  unfold kv_fig
  rw [e, h (7 - j / 2) (by omega)]
  have h1 := hd (15 - 2 * (7 - j / 2))
  have h2 := hd (14 - 2 * (7 - j / 2))
  rw [kz_un (by omega)]
  by_cases hp : j % 2 = 0
  · rw [if_pos hp]
    have e2 : 14 - 2 * (7 - j / 2) = j := by omega
    rw [e2] at h2 ⊢
    omega
  · rw [if_neg hp]
    have e2 : 15 - 2 * (7 - j / 2) = j := by omega
    rw [e2] at h1 ⊢
    omega
theorem kv_fig_same {w v : Nat → Int32} (h : ∀ j, (j < 16 ∨ 16 + 8 ≤ j) → w j = v j) : ∀ j, j < 16 → kv_fig w 8 j = kv_fig v 8 j := by
  intro j hj
  unfold kv_fig
  rw [h (8 + 7 - j / 2) (Or.inl (by omega))]
theorem kz_b01 {c : Nat} (h : c ≤ 1) : nI c = 0 ∨ nI c = 1 := by
  rcases (by omega : c = 0 ∨ c = 1) with h | h
  · rw [h]; exact Or.inl rfl
  · rw [h]; exact Or.inr rfl
