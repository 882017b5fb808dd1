/-! shifts of ints and longs by a number of places -/
theorem kz_s31 : ∀ n, n < 32 → ((nI n &&& 31).toBitVec.smod 32).toNat = n := by decide +kernel
theorem kz_c63 : ∀ k, k < 64 → ((nI k).toInt64 &&& 63).toBitVec.smod 64 = BitVec.ofNat 64 k := by decide +kernel
theorem kz_cu63 : ∀ k, k < 64 → (((nI k).toInt64.toUInt64 &&& Int64.toUInt64 63).toBitVec % 64).toNat = k := by decide +kernel
theorem kz_and31 (n : Nat) : nI n &&& nI 31 = nI (n % 32) := by
  apply Int32.toBitVec_inj.mp
  apply BitVec.eq_of_toNat_eq
  show (BitVec.ofNat 32 n &&& 31#32).toNat = (BitVec.ofNat 32 (n % 32)).toNat
  have h : (31#32).toNat = 2 ^ 5 - 1 := rfl
  rw [BitVec.toNat_and, h, Nat.and_two_pow_sub_one_eq_mod, BitVec.toNat_ofNat, BitVec.toNat_ofNat]
  omega
theorem kz_lz_shlK {n k : Nat} (hk : k < 64) : kz_lz ((n : Nat) : Int) <<< ((nI k).toInt64 &&& 63) = kz_lz ((n * 2 ^ k : Nat) : Int) := by
  apply Int64.toBitVec_inj.mp
  apply BitVec.eq_of_toNat_eq
  have e : (kz_lz ((n : Nat) : Int) <<< ((nI k).toInt64 &&& 63)).toBitVec = (kz_lz ((n : Nat) : Int)).toBitVec <<< ((nI k).toInt64 &&& 63).toBitVec.smod 64 := rfl
  rw [e, kz_c63 k hk, BitVec.shiftLeft_eq', BitVec.toNat_shiftLeft, Nat.shiftLeft_eq]
  have e2 : (BitVec.ofNat 64 k).toNat = k := by rw [BitVec.toNat_ofNat]; omega
  rw [e2]
  show (BitVec.ofInt 64 ((n : Nat) : Int)).toNat * 2 ^ k % 2 ^ 64 = (BitVec.ofInt 64 ((n * 2 ^ k : Nat) : Int)).toNat
  rw [BitVec.toNat_ofInt, BitVec.toNat_ofInt]
  have a1 : (((n : Nat) : Int) % ((2 ^ 64 : Nat) : Int)).toNat = n % 2 ^ 64 := by omega
  have a2 : (((n * 2 ^ k : Nat) : Int) % ((2 ^ 64 : Nat) : Int)).toNat = n * 2 ^ k % 2 ^ 64 := by
    generalize n * 2 ^ k = x
    omega
  rw [a1, a2, Nat.mod_mul_mod]
theorem kz_lz_ushrK {n k : Nat} (hn : n < 18446744073709551616) (hk : k < 64) : ((kz_lz ((n : Nat) : Int)).toUInt64 >>> ((nI k).toInt64.toUInt64 &&& Int64.toUInt64 63)).toInt64 = kz_lz ((n / 2 ^ k : Nat) : Int) := by
  apply Int64.toBitVec_inj.mp
  apply BitVec.eq_of_toNat_eq
  have e : ((kz_lz ((n : Nat) : Int)).toUInt64 >>> ((nI k).toInt64.toUInt64 &&& Int64.toUInt64 63)).toInt64.toBitVec = (kz_lz ((n : Nat) : Int)).toBitVec >>> (((nI k).toInt64.toUInt64 &&& Int64.toUInt64 63).toBitVec % 64) := rfl
  rw [e, BitVec.ushiftRight_eq', BitVec.toNat_ushiftRight, Nat.shiftRight_eq_div_pow, kz_cu63 k hk]
  show (BitVec.ofInt 64 ((n : Nat) : Int)).toNat / 2 ^ k = (BitVec.ofInt 64 ((n / 2 ^ k : Nat) : Int)).toNat
  rw [BitVec.toNat_ofInt, BitVec.toNat_ofInt]
  have a1 : (((n : Nat) : Int) % ((2 ^ 64 : Nat) : Int)).toNat = n := by omega
  have h2 : n / 2 ^ k ≤ n := Nat.div_le_self _ _
  have a2 : (((n / 2 ^ k : Nat) : Int) % ((2 ^ 64 : Nat) : Int)).toNat = n / 2 ^ k := by
    generalize n / 2 ^ k = x at h2
    omega
  rw [a1, a2]
theorem kz_lz_ushr32m (n : Nat) : ((kz_lz ((n : Nat) : Int)).toUInt64 >>> ((nI 32).toInt64.toUInt64 &&& Int64.toUInt64 63)).toInt64 = kz_lz ((n % 18446744073709551616 / 4294967296 : Nat) : Int) := by
  have e : kz_lz ((n : Nat) : Int) = kz_lz ((n % 18446744073709551616 : Nat) : Int) := by
    apply Int64.toBitVec_inj.mp
    apply BitVec.eq_of_toNat_eq
    show (BitVec.ofInt 64 ((n : Nat) : Int)).toNat = (BitVec.ofInt 64 ((n % 18446744073709551616 : Nat) : Int)).toNat
    rw [BitVec.toNat_ofInt, BitVec.toNat_ofInt]
    omega
  rw [e]
  exact kz_lz_ushrK (k := 32) (Nat.mod_lt _ (by decide)) (by decide)
theorem kz_lz_shl1 (z : Int) : kz_lz z <<< ((nI 1).toInt64 &&& 63) = kz_lz (z * 2) := by
  apply Int64.toBitVec_inj.mp
  apply BitVec.eq_of_toNat_eq
  have e : (kz_lz z <<< ((nI 1).toInt64 &&& 63)).toBitVec = (kz_lz z).toBitVec <<< 1 := rfl
  rw [e, BitVec.toNat_shiftLeft, Nat.shiftLeft_eq]
  show (BitVec.ofInt 64 z).toNat * 2 ^ 1 % 2 ^ 64 = (BitVec.ofInt 64 (z * 2)).toNat
  rw [BitVec.toNat_ofInt, BitVec.toNat_ofInt]
  omega
theorem kz_lz_i32N (n : Nat) : (kz_lz ((n : Nat) : Int)).toInt32 = nI (n % 4294967296) := by
  have h := kz_lz_i32 ((n : Nat) : Int)
  have e : (((n : Nat) : Int) % 4294967296).toNat = n % 4294967296 := by omega
  rw [e] at h
  exact h
theorem kz_lz_or32w {a b : Int} (h0 : 0 ≤ a) (h1 : a < 4294967296) (b0 : 0 ≤ b) (b1 : b < 4294967296) : kz_lz (a * 4294967296) ||| kz_lz b = kz_lz (a * 4294967296 + b) := by
  obtain ⟨n, rfl⟩ : ∃ n : Nat, a = (n : Int) := ⟨a.toNat, by omega⟩
  obtain ⟨k, rfl⟩ : ∃ n : Nat, b = (n : Int) := ⟨b.toNat, by omega⟩
  apply Int64.toBitVec_inj.mp
  apply BitVec.eq_of_toNat_eq
  show (BitVec.ofInt 64 ((n : Int) * 4294967296) ||| BitVec.ofInt 64 (k : Int)).toNat = (BitVec.ofInt 64 ((n : Int) * 4294967296 + (k : Int))).toNat
  rw [BitVec.toNat_or, BitVec.toNat_ofInt, BitVec.toNat_ofInt, BitVec.toNat_ofInt]
  have e1 : ((n : Int) * 4294967296 % ((2 ^ 64 : Nat) : Int)).toNat = 2 ^ 32 * n := by omega
  have e2 : ((k : Int) % ((2 ^ 64 : Nat) : Int)).toNat = k := by omega
  have e3 : (((n : Int) * 4294967296 + (k : Int)) % ((2 ^ 64 : Nat) : Int)).toNat = 2 ^ 32 * n + k := by omega
  rw [e1, e2, e3]
  exact (Nat.two_pow_add_eq_or_of_lt (i := 32) (by omega) n).symm
/-- a bit of a word: shifted up to the sign -/
theorem kx_hb {w k : Nat} (hk : k < 32) : w * 2 ^ k % 4294967296 / 2147483648 = w / 2 ^ (31 - k) % 2 := by
  have e1 : (2147483648 : Nat) = 2 ^ (31 - k) * 2 ^ k := by rw [← Nat.pow_add, show 31 - k + k = 31 by omega]
  have e2 : (4294967296 : Nat) = 2147483648 * 2 := by decide
  rw [e2, Nat.mod_mul_right_div_self]
  congr 1
  rw [e1]
  exact Nat.mul_div_mul_right _ _ (Nat.two_pow_pos k)
theorem kz_neg32 (n : Nat) : nI n < 0 ↔ n % 4294967296 / 2147483648 = 1 := by
  rw [Int32.lt_iff_toInt_lt]
  have h : (nI n).toInt = Int.bmod ((n % 4294967296 : Nat) : Int) 4294967296 := by
    show (BitVec.ofNat 32 n).toInt = _
    rw [BitVec.toInt_eq_toNat_bmod, BitVec.toNat_ofNat]
  rw [h, Int32.toInt_zero, Int.bmod_def]
  have h2 := Nat.mod_lt n (show 4294967296 > 0 by decide)
  generalize n % 4294967296 = x at h2
  split <;> omega
theorem kz_shlK {a k : Nat} (ha : a < 4294967296) (hk : k < 32) : nI a <<< (nI k &&& 31) = nI (a * 2 ^ k) := by
  apply Int32.toBitVec_inj.mp
  apply BitVec.eq_of_toNat_eq
  rw [pk_shl (nI a) (nI k &&& 31) k (kz_s31 k hk), pk_tn ha]
  show _ = (BitVec.ofNat 32 (a * 2 ^ k)).toNat
  rw [BitVec.toNat_ofNat]
theorem kz_hasT {w k : Nat} (hw : w < 4294967296) (hk : k < 32) (h : ¬ 0 ≤ nI w <<< (nI k &&& 31)) : w / 2 ^ (31 - k) % 2 = 1 := by
  rw [kz_shlK hw hk] at h
  rw [← kx_hb hk]
  refine (kz_neg32 _).mp ?_
  rw [Int32.lt_iff_toInt_lt]
  rw [Int32.le_iff_toInt_le] at h
  omega
theorem kz_hasF {w k : Nat} (hw : w < 4294967296) (hk : k < 32) (h : 0 ≤ nI w <<< (nI k &&& 31)) : w / 2 ^ (31 - k) % 2 = 0 := by
  rw [kz_shlK hw hk] at h
  have h2 : ¬ w / 2 ^ (31 - k) % 2 = 1 := by
    intro h3
    rw [← kx_hb hk] at h3
    have h4 := (kz_neg32 _).mpr h3
    rw [Int32.lt_iff_toInt_lt] at h4
    rw [Int32.le_iff_toInt_le] at h
    omega
  generalize w / 2 ^ (31 - k) = x at h2 ⊢
  omega
/-- the word at an int, or 0 -/
def kx_wi (d : Nat → Nat) (v : Int32) : Nat := if 0 ≤ v.toInt ∧ v.toInt < 8 then d v.toNatClampNeg else 0
theorem kx_wi_out {d : Nat → Nat} {v : Int32} (h : v < 0 ∨ nI 8 ≤ v) : kx_wi d v = 0 := by
  unfold kx_wi
  rw [if_neg]
  rw [Int32.lt_iff_toInt_lt, Int32.le_iff_toInt_le, Int32.toInt_zero, nI_toInt (by decide)] at h
  omega
theorem kx_wi_in {d : Nat → Nat} {v : Int32} (h0 : ¬ v < 0) (h8 : ¬ nI 8 ≤ v) : kx_wi d v = d v.toNatClampNeg := by
  unfold kx_wi
  rw [if_pos]
  rw [Int32.lt_iff_toInt_lt, Int32.toInt_zero] at h0
  rw [Int32.le_iff_toInt_le, nI_toInt (by decide)] at h8
  omega
theorem kx_wi_lt {d : Nat → Nat} (hd : ∀ j, d j < 4294967296) (v : Int32) : kx_wi d v < 4294967296 := by
  unfold kx_wi
  split
  · exact hd _
  · omega
theorem kx_wi_n {d : Nat → Nat} {e : Nat} (he : e < 2 ^ 31) : kx_wi d (nI e) = kx_wz d e := by
  unfold kx_wi kx_wz
  rw [nI_toInt he, nI_clamp he]
  by_cases h : e < 8
  · rw [if_pos (by omega), if_pos h]
  · rw [if_neg (by omega), if_neg h]
theorem kx_wi_s {d : Nat → Nat} {i e : Nat} (hi : i < 8) (he : e ≤ 9) : kx_wi d (nI i - nI e) = kx_wn d i e := by
  unfold kx_wn
  by_cases h : e ≤ i
  · rw [if_pos h, pk_sub h, kx_wi_n (by omega)]
    unfold kx_wz
    rw [if_pos (by omega)]
  · rw [if_neg h]
    exact kx_wi_out (Or.inl (pk_sneg (by omega) (by omega)))
theorem kx_wi_s1 {d : Nat → Nat} {i e : Nat} (hi : i < 8) (he : e ≤ 8) : kx_wi d (nI i - nI e - nI 1) = kx_wn d i (e + 1) := by
  have h : nI i - nI e - nI 1 = nI i - nI (e + 1) := by
    rw [← nI_add, Int32.sub_eq_add_neg, Int32.sub_eq_add_neg, Int32.sub_eq_add_neg, Int32.neg_add, Int32.add_assoc, Int32.sub_eq_add_neg]
  rw [h]
  exact kx_wi_s hi (by omega)
/-! leading zeros -/
/-- t is how many zeros lead V -/
def kx_lz (V t : Nat) : Prop := t ≤ 256 ∧ V / 2 ^ (256 - t) = 0 ∧ (t < 256 → V / 2 ^ (255 - t) % 2 = 1)
theorem kx_lz0 {d : Nat → Nat} (hd : ∀ j, d j < 4294967296) : kx_V 8 d / 2 ^ (256 - 0) = 0 := by
  refine Nat.div_eq_of_lt ?_
  have h := kx_V_lt hd 8
  have e : (4294967296 : Nat) ^ 8 = 2 ^ 256 := by rw [show (4294967296 : Nat) = 2 ^ 32 by decide, ← Nat.pow_mul]
  rw [e] at h
  exact h
theorem kx_lzNext {V t : Nat} (ht : t < 256) (h : V / 2 ^ (256 - t) = 0) (hb : V / 2 ^ (255 - t) % 2 = 0) : V / 2 ^ (256 - (t + 1)) = 0 := kx_lzStep ht h hb
theorem kx_lzPos {V t : Nat} (h : kx_lz V t) (hV : 0 < V) : t < 256 := by
  obtain ⟨h1, h2, -⟩ := h
  rcases Nat.lt_or_ge t 256 with h3 | h3
  · exact h3
  · have e : 256 - t = 0 := by omega
    rw [e, Nat.pow_zero, Nat.div_one] at h2
    omega
/-! the modulus: shifted up until its highest bit is set -/
def kx_md (s : Nat → Nat) (sh : Nat) : Nat := kx_V 8 s / 2 ^ sh
def kx_isM (s : Nat → Nat) (sh : Nat) : Prop := sh < 256 ∧ kx_V 8 s = kx_md s sh * 2 ^ sh ∧ 2147483648 ≤ s 0
theorem kx_p2 (sh : Nat) : (2 : Nat) ^ sh = 4294967296 ^ (sh / 32) * 2 ^ (sh % 32) := by
  have e : sh = 32 * (sh / 32) + sh % 32 := by omega
  have h : (2 : Nat) ^ sh = 2 ^ (32 * (sh / 32) + sh % 32) := congrArg (2 ^ ·) e
  rw [h, Nat.pow_add, Nat.pow_mul]
theorem kx_topW {s : Nat → Nat} (hd : ∀ j, s j < 4294967296) (h : kx_V 8 s / 2 ^ 255 = 1) : 2147483648 ≤ s 0 := by
  have h1 := kx_bit hd (t := 0) (by decide)
  have h2 : kx_V 8 s / 2 ^ (255 - 0) % 2 = s 0 / 2 ^ 31 % 2 := h1
  rw [show 255 - 0 = 255 from rfl, h] at h2
  have h3 : s 0 / 2 ^ 31 % 2 = 1 := h2.symm
  have h4 := hd 0
  omega
theorem kx_isMof {s : Nat → Nat} {M sh : Nat} (hs : ∀ j, s j < 4294967296) (hV : kx_V 8 s = M * 2 ^ sh) (hl : kx_lz M sh) (h0 : 0 < M) : kx_isM s sh ∧ kx_md s sh = M := by
  have ht := kx_lzPos hl h0
  have hp := Nat.two_pow_pos sh
  have e : kx_md s sh = M := by
    unfold kx_md
    rw [hV]
    exact Nat.mul_div_cancel _ hp
  refine ⟨⟨ht, by rw [e]; exact hV, ?_⟩, e⟩
  refine kx_topW hs ?_
  obtain ⟨-, h2, h3⟩ := hl
  have h4 := h3 ht
  have e3 : (2 : Nat) ^ 255 = 2 ^ (255 - sh) * 2 ^ sh := by rw [← Nat.pow_add, show 255 - sh + sh = 255 by omega]
  rw [hV, e3, Nat.mul_div_mul_right _ _ hp]
  have e5 : 256 - sh = 255 - sh + 1 := by omega
  rw [e5, Nat.pow_succ, ← Nat.div_div_eq_div_mul] at h2
  generalize M / 2 ^ (255 - sh) = x at h2 h4
  omega
theorem kx_shlOk {M sh : Nat} (hl : kx_lz M sh) (h0 : 0 < M) : M * 2 ^ sh < 4294967296 ^ 8 := by
  have ht := kx_lzPos hl h0
  obtain ⟨-, h2, -⟩ := hl
  have h3 : M < 2 ^ (256 - sh) := by
    rcases Nat.lt_or_ge M (2 ^ (256 - sh)) with h | h
    · exact h
    · have h4 := Nat.div_pos h (Nat.two_pow_pos _)
      omega
  have h4 : M * 2 ^ sh < 2 ^ (256 - sh) * 2 ^ sh := Nat.mul_lt_mul_of_pos_right h3 (Nat.two_pow_pos sh)
  rw [← Nat.pow_add, show 256 - sh + sh = 256 by omega] at h4
  have e : (4294967296 : Nat) ^ 8 = 2 ^ 256 := by rw [show (4294967296 : Nat) = 2 ^ 32 by decide, ← Nat.pow_mul]
  rw [e]
  exact h4
theorem kx_mdPos {s : Nat → Nat} {sh : Nat} (h : kx_isM s sh) : 0 < kx_md s sh := by
  obtain ⟨h1, h2, h3⟩ := h
  rcases Nat.eq_zero_or_pos (kx_md s sh) with h4 | h4
  · rw [h4, Nat.zero_mul] at h2
    have h5 := kx_at (kx_rv 8 s) 7 8 (by decide)
    have h6 : kx_rv 8 s 7 = s 0 := rfl
    have h7 : kx_val (kx_rv 8 s) 8 = 0 := h2
    rw [h6, h7] at h5
    have h8 : 0 < s 0 * 4294967296 ^ 7 := Nat.mul_pos (by omega) (Nat.pow_pos (by decide))
    omega
  · exact h4
/-! a window of nine words from a on -/
def kx_w9 (w : Nat → Nat) (a : Nat) : Nat → Nat := fun j => w (a + 8 - j)
theorem kx_w9_lt {w : Nat → Nat} (hd : ∀ j, w j < 4294967296) (a : Nat) : ∀ j, kx_w9 w a j < 4294967296 := fun _ => hd _
theorem kx_w9_up {w : Nat → Nat} {a k v n : Nat} (hk : k < 8) (hn : n ≤ 9) : kx_val (kx_w9 (kv_up w (a + 1 + k) v) a) n = kx_val (kv_up (kx_w9 w a) (7 - k) v) n :=
  kx_ext n (fun j hj => by
    unfold kx_w9 kv_up
    by_cases h : j = 7 - k
    · rw [if_pos (by omega), if_pos h]
    · rw [if_neg (by omega), if_neg h])
theorem kx_w9Step {w : Nat → Nat} {a k v : Nat} (hk : k < 8) : kx_val (kx_w9 (kv_up w (a + 1 + k) v) a) (8 - k) = kx_val (kx_w9 w a) (8 - (k + 1)) + v * 4294967296 ^ (8 - (k + 1)) := by
  have e1 : 8 - k = (8 - (k + 1)) + 1 := by omega
  have e3 : 7 - k = 8 - (k + 1) := by omega
  rw [kx_w9_up hk (by omega), e3, e1, kx_val_s, kv_up_eq, kx_up_below _ _ _ _ (Nat.le_refl _)]
theorem kx_w9At {w : Nat → Nat} {a k : Nat} (hk : k < 8) : kx_val (kx_w9 w a) (8 - k) = kx_val (kx_w9 w a) (8 - (k + 1)) + w (a + 1 + k) * 4294967296 ^ (8 - (k + 1)) := by
  have e1 : 8 - k = (8 - (k + 1)) + 1 := by omega
  have e5 : kx_w9 w a (8 - (k + 1)) = w (a + 1 + k) := by unfold kx_w9; congr 1; omega
  rw [e1, kx_val_s, e5]
theorem kx_taStep {w z s : Nat → Nat} {a k c c' v t d b : Nat} (hk : k < 8) (ht : t = d * s k + c) (hv : v + t % 4294967296 = z (a + 1 + k) + b * 4294967296) (hc : c' = t / 4294967296 + b)
    (hI : kx_val (kx_w9 w a) (8 - (k + 1)) + d * kx_val (kx_rv 8 s) (8 - (k + 1)) = kx_val (kx_w9 z a) (8 - (k + 1)) + c * 4294967296 ^ (8 - (k + 1))) :
    kx_val (kx_w9 (kv_up w (a + 1 + k) v) a) (8 - k) + d * kx_val (kx_rv 8 s) (8 - k) = kx_val (kx_w9 z a) (8 - k) + c' * 4294967296 ^ (8 - k) := by
  rw [kx_w9Step hk, kx_downAt hk, kx_w9At hk, kx_pw k hk]
  generalize 4294967296 ^ (8 - (k + 1)) = P at hI ⊢
  have e : v + (d * s k + c) = z (a + 1 + k) + c' * 4294967296 := by rw [← ht]; omega
  have h1 : (v + (d * s k + c)) * P = (z (a + 1 + k) + c' * 4294967296) * P := by rw [e]
  rw [Nat.add_mul, Nat.add_mul, Nat.add_mul, Nat.mul_assoc d, Nat.mul_assoc c'] at h1
  rw [Nat.mul_add]
  omega
theorem kx_gbStep {w z s : Nat → Nat} {a k c t : Nat} (hk : k < 8) (ht : t = z (a + 1 + k) + s k + c)
    (hI : kx_val (kx_w9 w a) (8 - (k + 1)) + c * 4294967296 ^ (8 - (k + 1)) = kx_val (kx_w9 z a) (8 - (k + 1)) + kx_val (kx_rv 8 s) (8 - (k + 1))) :
    kx_val (kx_w9 (kv_up w (a + 1 + k) (t % 4294967296)) a) (8 - k) + t / 4294967296 * 4294967296 ^ (8 - k) = kx_val (kx_w9 z a) (8 - k) + kx_val (kx_rv 8 s) (8 - k) := by
  rw [kx_w9Step hk, kx_downAt hk, kx_w9At hk, kx_pw k hk]
  generalize 4294967296 ^ (8 - (k + 1)) = P at hI ⊢
  have h1 : (t / 4294967296 * 4294967296 + t % 4294967296) * P = (z (a + 1 + k) + s k + c) * P := by rw [← ht]; congr 1; omega
  rw [Nat.add_mul, Nat.add_mul, Nat.add_mul, Nat.mul_assoc] at h1
  omega
/-- a guess: right, or too great by one or two -/
def kx_gs (T S h : Nat) : Prop := T / S ≤ h ∧ h ≤ T / S + 2 ∧ h < 4294967296 ∧ 0 < S
/-- d S taken away from T, k times S given back: what the nine words say then -/
def kx_tj (P T S low : Nat) (top : Int) (d k : Nat) : Prop := top * (P : Int) + (low : Int) = (T : Int) - ((d : Int) - (k : Int)) * (S : Int) ∧ T / S + k ≤ d
theorem kx_tj0 {P T S low low0 w c d : Nat} {top : Int} (hT : T = low0 + w * P) (hI : low + d * S = low0 + c * P) (ht : top = (w : Int) - (c : Int)) (hd : T / S ≤ d) : kx_tj P T S low top d 0 := by
  refine ⟨?_, hd⟩
  have h1 : (low : Int) + (d : Int) * (S : Int) = (low0 : Int) + (c : Int) * (P : Int) := by
    rw [← Int.natCast_mul, ← Int.natCast_mul, ← Int.natCast_add, ← Int.natCast_add, hI]
  rw [ht, hT, Int.natCast_add, Int.natCast_mul, Int.sub_mul]
  have e : ((d : Int) - ((0 : Nat) : Int)) = (d : Int) := by omega
  rw [e]
  omega
theorem kx_tjNeg {P T S low d k : Nat} {top : Int} (h : kx_tj P T S low top d k) (hl : low < P) (h0 : top < 0) (hS : 0 < S) : T / S + (k + 1) ≤ d := by
  obtain ⟨h1, h2⟩ := h
  rcases Nat.lt_or_ge (T / S + k) d with h3 | h3
  · omega
  · exfalso
    have e : d = T / S + k := by omega
    have h4 : T / S * S ≤ T := Nat.div_mul_le_self T S
    have h5 : ((d : Int) - (k : Int)) = ((T / S : Nat) : Int) := by omega
    have h6 : top * (P : Int) ≤ (-1) * (P : Int) := Int.mul_le_mul_of_nonneg_right (by omega) (by omega)
    rw [h5, ← Int.natCast_mul] at h1
    generalize top * (P : Int) = x at h1 h6
    generalize T / S * S = y at h1 h4
    omega
theorem kx_tjStep {P T S low low' b d k : Nat} {top top' : Int} (h : kx_tj P T S low top d k) (hl : low < P) (h0 : top < 0) (hS : 0 < S) (hb : low' + b * P = low + S) (ht : top' = top + (b : Int)) : kx_tj P T S low' top' d (k + 1) := by
  refine ⟨?_, kx_tjNeg h hl h0 hS⟩
  obtain ⟨h1, -⟩ := h
  have h2 : (low' : Int) + (b : Int) * (P : Int) = (low : Int) + (S : Int) := by
    rw [← Int.natCast_mul, ← Int.natCast_add, ← Int.natCast_add, hb]
  have e : ((d : Int) - ((k + 1 : Nat) : Int)) = ((d : Int) - (k : Int)) - 1 := by omega
  rw [ht, e, Int.add_mul, Int.sub_mul, Int.one_mul]
  generalize ((d : Int) - (k : Int)) * (S : Int) = y at h1 ⊢
  generalize top * (P : Int) = x at h1 ⊢
  omega
theorem kx_tjEnd {P T S low d k : Nat} {top : Int} (h : kx_tj P T S low top d k) (hl : low < P) (hSP : S ≤ P) (hg : kx_gs T S d) (he : 2 ≤ k ∨ ¬ top < 0) : low = T % S := by
  obtain ⟨h1, h2⟩ := h
  obtain ⟨-, g2, -, hS⟩ := hg
  have key : d = T / S + k := by
    rcases he with he | he
    · omega
    · refine Nat.le_antisymm (Nat.le_of_not_lt (fun h3 => ?_)) h2
      have h5 : (((T / S + 1 : Nat)) : Int) ≤ ((d : Int) - (k : Int)) := by omega
      have h6 : (((T / S + 1 : Nat)) : Int) * (S : Int) ≤ ((d : Int) - (k : Int)) * (S : Int) := Int.mul_le_mul_of_nonneg_right h5 (by omega)
      have h7 : 0 ≤ top * (P : Int) := Int.mul_nonneg (by omega) (by omega)
      have h8 : T < S * (T / S + 1) := Nat.lt_mul_div_succ T hS
      rw [← Int.natCast_mul, Nat.mul_comm] at h6
      generalize ((d : Int) - (k : Int)) * (S : Int) = y at h1 h6
      generalize top * (P : Int) = x at h1 h7
      generalize S * (T / S + 1) = z at h6 h8
      omega
  have h5 : ((d : Int) - (k : Int)) = ((T / S : Nat) : Int) := by omega
  rw [h5, ← Int.natCast_mul] at h1
  have h6 := Nat.div_add_mod T S
  rw [Nat.mul_comm] at h6
  have h7 := Nat.mod_lt T hS
  generalize T / S * S = y at h1 h6
  generalize T % S = r at h6 h7 ⊢
  have h8 : top = 0 := by
    rcases Int.lt_trichotomy top 0 with h9 | h9 | h9
    · have a1 : top * (P : Int) ≤ (-1) * (P : Int) := Int.mul_le_mul_of_nonneg_right (by omega) (by omega)
      generalize top * (P : Int) = x at h1 a1
      omega
    · exact h9
    · have a1 : 1 * (P : Int) ≤ top * (P : Int) := Int.mul_le_mul_of_nonneg_right (by omega) (by omega)
      generalize top * (P : Int) = x at h1 a1
      omega
  rw [h8, Int.zero_mul] at h1
  omega
theorem kx_w9T (w : Nat → Nat) (a : Nat) : kx_val (kx_w9 w a) 9 = kx_val (kx_w9 w a) 8 + w a * 4294967296 ^ 8 := by
  have e : kx_w9 w a 8 = w a := by unfold kx_w9; congr 1
  rw [kx_val_s, e]
theorem kx_top2 (f : Nat → Nat) (n : Nat) : kx_val f (n + 2) = (f (n + 1) * 4294967296 + f n) * 4294967296 ^ n + kx_val f n := by
  have e : kx_val f (n + 2) = kx_val f n + f n * 4294967296 ^ n + f (n + 1) * 4294967296 ^ (n + 1) := rfl
  rw [e, Nat.pow_succ, Nat.add_mul, Nat.mul_assoc, Nat.mul_comm (4294967296 ^ n) 4294967296]
  omega
theorem kx_w9T2 (w : Nat → Nat) (a : Nat) : kx_val (kx_w9 w a) 9 = (w a * 4294967296 + w (a + 1)) * 4294967296 ^ 7 + kx_val (kx_w9 w a) 7 := by
  have e0 : kx_w9 w a (7 + 1) = w a := by unfold kx_w9; congr 1
  have e1 : kx_w9 w a 7 = w (a + 1) := by unfold kx_w9; congr 1
  have h := kx_top2 (kx_w9 w a) 7
  rw [e0, e1] at h
  exact h
theorem kx_V7 (s : Nat → Nat) : kx_V 8 s = s 0 * 4294967296 ^ 7 + kx_val (kx_rv 8 s) 7 := by
  have e1 : kx_rv 8 s 7 = s 0 := rfl
  show kx_val (kx_rv 8 s) 8 = _
  rw [kx_val_s, e1]
  exact Nat.add_comm _ _
/-- what guessDigit says -/
def kx_gd (x0 x1 s0 h : Nat) : Prop := h ≤ 4294967295 ∧ h * s0 ≤ x0 * 4294967296 + x1 ∧ (h = 4294967295 ∨ x0 * 4294967296 + x1 < (h + 1) * s0)
theorem kx_gd1 {x0 x1 s0 : Nat} (h : ¬ x0 < s0) : kx_gd x0 x1 s0 4294967295 := by
  refine ⟨Nat.le_refl _, ?_, Or.inl rfl⟩
  omega
theorem kx_gdE {x0 x1 s0 n6 n8 m9 : Nat} (h0 : x0 < s0) (hx : x1 < 4294967296) (h6 : n6 = x0 * 4294967296 + x1) (hm : m9 = n8 * s0) (h1 : m9 ≤ n6) (h2 : n6 < m9 + s0) : kx_gd x0 x1 s0 n8 := by
  have h3 : n8 ≤ 4294967295 := by
    refine Nat.le_of_lt_succ (Nat.lt_of_not_le (fun h => ?_))
    have h4 : 4294967296 * s0 ≤ n8 * s0 := Nat.mul_le_mul_right _ h
    omega
  refine ⟨h3, by omega, Or.inr ?_⟩
  rw [Nat.add_mul, Nat.one_mul]
  omega
theorem kx_gdO {x0 x1 s0 n6 n8 m9 : Nat} (h0 : x0 < s0) (hx : x1 < 4294967296) (h6 : n6 = x0 * 4294967296 + x1) (hm : m9 = n8 * s0) (h1 : m9 + s0 ≤ n6) (h2 : n6 < m9 + 2 * s0) : kx_gd x0 x1 s0 (n8 + 1) := by
  refine kx_gdE (m9 := m9 + s0) h0 hx h6 ?_ h1 (by omega)
  rw [Nat.add_mul, Nat.one_mul, hm]
/-- pair / 2 / divisor, doubled -/
theorem kx_gdH {n6 n4 n8 : Nat} (h4 : 0 < n4) (h8 : n8 = n6 / 2 / n4 * 2) : n8 * n4 ≤ n6 ∧ n6 < n8 * n4 + 2 * n4 := by
  have a1 := Nat.div_mul_le_self (n6 / 2) n4
  have a2 := Nat.lt_mul_div_succ (n6 / 2) h4
  generalize n6 / 2 / n4 = q at h8 a1 a2
  rw [h8, Nat.mul_right_comm]
  rw [Nat.mul_add, Nat.mul_one, Nat.mul_comm n4 q] at a2
  generalize q * n4 = z at a1 a2
  omega
theorem kx_gsOf {w s : Nat → Nat} {a h : Nat} (hw : ∀ j, w j < 4294967296) (hs : ∀ j, s j < 4294967296) (h31 : 2147483648 ≤ s 0) (hq : kx_val (kx_w9 w a) 9 < kx_V 8 s * 4294967296) (hg : kx_gd (w a) (w (a + 1)) (s 0) h) : kx_gs (kx_val (kx_w9 w a) 9) (kx_V 8 s) h := by
  obtain ⟨g1, g2, g3⟩ := hg
  have h1 := kx_lt (kx_w9_lt hw a) 7
  have h2 := kx_lt (kx_rv_lt hs 8) 7
  have h3 := kx_guess (kx_w9T2 w a) h1 (kx_V7 s) h2 h31 hq g1 g2 g3
  refine ⟨h3.1, h3.2, by omega, ?_⟩
  rw [kx_V7]
  have h4 : 0 < s 0 * 4294967296 ^ 7 := Nat.mul_pos (by omega) (Nat.pow_pos (by decide))
  exact Nat.lt_of_lt_of_le h4 (Nat.le_add_right _ _)
/-! the loop of reduce -/
def kx_rd (w s : Nat → Nat) (X k : Nat) : Prop := kx_val (kx_rv 16 w) (16 - k) % kx_V 8 s = X % kx_V 8 s ∧ kx_val (kx_rv 16 w) (16 - k) < kx_V 8 s * 4294967296 ^ (8 - k)
theorem kx_rd0 {w s : Nat → Nat} (h : kx_V 16 w < kx_V 8 s * 4294967296 ^ 8) : kx_rd w s (kx_V 16 w) 0 := by
  refine ⟨rfl, ?_⟩
  rw [Nat.sub_zero, Nat.sub_zero]
  exact h
theorem kx_rdSplit {w : Nat → Nat} {a : Nat} (ha : a < 8) : kx_val (kx_rv 16 w) (16 - a) = kx_val (kx_rv 16 w) (7 - a) + 4294967296 ^ (7 - a) * kx_val (kx_w9 w a) 9 := by
  have h := kx_splt (kx_rv 16 w) (7 - a) 9
  rw [show 7 - a + 9 = 16 - a by omega] at h
  rw [h]
  congr 2
  refine kx_ext 9 (fun j hj => ?_)
  unfold kx_rv kx_w9
  congr 1
  omega
theorem kx_rdSplit8 {w : Nat → Nat} {a : Nat} (ha : a < 8) : kx_val (kx_rv 16 w) (16 - (a + 1)) = kx_val (kx_rv 16 w) (7 - a) + 4294967296 ^ (7 - a) * kx_val (kx_w9 w a) 8 := by
  have h := kx_splt (kx_rv 16 w) (7 - a) 8
  rw [show 7 - a + 8 = 16 - (a + 1) by omega] at h
  rw [h]
  congr 2
  refine kx_ext 8 (fun j hj => ?_)
  unfold kx_rv kx_w9
  congr 1
  omega
theorem kx_rdT {w s : Nat → Nat} {X a : Nat} (ha : a < 8) (h : kx_rd w s X a) : kx_val (kx_w9 w a) 9 < kx_V 8 s * 4294967296 := by
  obtain ⟨-, h2⟩ := h
  rw [kx_rdSplit ha, show 8 - a = (7 - a) + 1 by omega, Nat.pow_succ, Nat.mul_comm (4294967296 ^ (7 - a)) 4294967296, ← Nat.mul_assoc, Nat.mul_comm (kx_V 8 s * 4294967296)] at h2
  refine Nat.lt_of_mul_lt_mul_left (a := 4294967296 ^ (7 - a)) ?_
  omega
theorem kx_rdStep {w z s : Nat → Nat} {X a : Nat} (ha : a < 8) (hw : ∀ j, w j < 4294967296) (hS : 0 < kx_V 8 s) (h : kx_rd w s X a) (hl : kx_val (kx_w9 z a) 8 = kx_val (kx_w9 w a) 9 % kx_V 8 s) (hk : ∀ j, (j ≤ a ∨ a + 9 ≤ j) → z j = w j) : kx_rd z s X (a + 1) := by
  obtain ⟨h1, h2⟩ := h
  have e0 : kx_val (kx_rv 16 z) (7 - a) = kx_val (kx_rv 16 w) (7 - a) := kx_ext _ (fun j hj => hk _ (Or.inr (by omega)))
  have hL := kx_lt (kx_rv_lt hw 16) (7 - a)
  unfold kx_rd
  rw [kx_rdSplit8 ha, e0, hl, show 8 - (a + 1) = 7 - a by omega]
  rw [kx_rdSplit ha] at h1
  generalize kx_val (kx_rv 16 w) (7 - a) = L at h1 hL
  generalize 4294967296 ^ (7 - a) = P at h1 hL
  generalize kx_val (kx_w9 w a) 9 = T at h1
  generalize kx_V 8 s = S at h1 hS
  have h3 := Nat.div_add_mod T S
  constructor
  · rw [← h1]
    have e : L + P * T = L + P * (T % S) + S * (P * (T / S)) := by
      have e2 : P * T = P * (S * (T / S)) + P * (T % S) := by rw [← Nat.mul_add, h3]
      rw [e2, Nat.mul_left_comm P S]
      omega
    rw [e, Nat.add_mul_mod_self_left]
  · have h4 : T % S + 1 ≤ S := Nat.mod_lt _ hS
    have h5 : P * (T % S + 1) ≤ P * S := Nat.mul_le_mul_left _ h4
    rw [Nat.mul_add, Nat.mul_one, Nat.mul_comm P S] at h5
    omega
/-- a guess of 0: the nine words are the rest already -/
theorem kx_gs0 {w s : Nat → Nat} {a : Nat} (hs : ∀ j, s j < 4294967296) (h : kx_gs (kx_val (kx_w9 w a) 9) (kx_V 8 s) 0) : kx_val (kx_w9 w a) 8 = kx_val (kx_w9 w a) 9 % kx_V 8 s := by
  obtain ⟨h1, -, -, h4⟩ := h
  have h5 : kx_val (kx_w9 w a) 9 < kx_V 8 s := by
    rcases Nat.lt_or_ge (kx_val (kx_w9 w a) 9) (kx_V 8 s) with h | h
    · exact h
    · have h6 := Nat.div_pos h h4
      omega
  rw [Nat.mod_eq_of_lt h5]
  have h6 := kx_V_lt hs 8
  rw [kx_w9T] at h5 ⊢
  rcases Nat.eq_zero_or_pos (w a) with h7 | h7
  · rw [h7, Nat.zero_mul, Nat.add_zero]
  · have h8 : 1 * 4294967296 ^ 8 ≤ w a * 4294967296 ^ 8 := Nat.mul_le_mul_right _ h7
    generalize (4294967296 : Nat) ^ 8 = P at h5 h6 h8
    omega
theorem kx_rdEnd {w s : Nat → Nat} {X : Nat} (h : kx_rd w s X 8) : kx_val (kx_rv 16 w) 8 = X % kx_V 8 s := by
  obtain ⟨h1, h2⟩ := h
  have h3 : kx_val (kx_rv 16 w) 8 < kx_V 8 s * 4294967296 ^ 0 := h2
  rw [Nat.pow_zero, Nat.mul_one] at h3
  have h4 : kx_val (kx_rv 16 w) 8 % kx_V 8 s = X % kx_V 8 s := h1
  rw [← h4, Nat.mod_eq_of_lt h3]
/-- the eight low words of sixteen, copied -/
theorem kx_cpLow (w e : Nat → Nat) : kx_V 8 (kx_cp w e 8 0 8) = kx_val (kx_rv 16 w) 8 := by
  refine kx_ext 8 (fun j hj => ?_)
  unfold kx_rv kx_cp
  rw [if_pos (by omega)]
  congr 1
  omega
theorem kx_cpAll (d e : Nat → Nat) : kx_V 8 (kx_cp d e 0 0 8) = kx_V 8 d := by
  refine kx_V_ext (fun j hj => ?_)
  unfold kx_cp
  rw [if_pos (by omega), Nat.zero_add, Nat.sub_zero]
theorem kx_fac {s b : Nat → Nat} {f : Nat → Nat} {sh : Nat} (hM : kx_isM s sh) (hs : ∀ j, s j < 4294967296) (hb : ∀ j, b j < 4294967296) (hle : kx_V 8 b ≤ kx_md s sh) (hf : ∀ i, i < 8 → f i = kx_shl b (sh / 32) (sh % 32) i) : kx_V 8 f = kx_V 8 b * 2 ^ sh ∧ kx_V 8 b * 2 ^ sh ≤ kx_V 8 s := by
  obtain ⟨h1, h2, -⟩ := hM
  have h3 : kx_V 8 b * 2 ^ sh ≤ kx_V 8 s := by
    rw [h2]
    exact Nat.mul_le_mul_right _ hle
  have h4 := kx_V_lt hs 8
  refine ⟨?_, h3⟩
  rw [kx_p2 sh] at h3 ⊢
  exact kx_shlV hb (by omega) (by omega) hf (Nat.lt_of_le_of_lt h3 h4)
theorem kx_wideLt {a f s w : Nat → Nat} (ha : ∀ j, a j < 4294967296) (hS : 0 < kx_V 8 s) (hw : kx_V 16 w = kx_V 8 a * kx_V 8 f) (hf : kx_V 8 f ≤ kx_V 8 s) : kx_V 16 w < kx_V 8 s * 4294967296 ^ 8 := by
  rw [hw, Nat.mul_comm (kx_V 8 s)]
  have h := kx_V_lt ha 8
  have h1 : kx_V 8 a * kx_V 8 f ≤ kx_V 8 a * kx_V 8 s := Nat.mul_le_mul_left _ hf
  have h2 : kx_V 8 a * kx_V 8 s < 4294967296 ^ 8 * kx_V 8 s := Nat.mul_lt_mul_of_pos_right h hS
  exact Nat.lt_of_le_of_lt h1 h2
theorem kx_VsPos {s : Nat → Nat} {sh : Nat} (hM : kx_isM s sh) : 0 < kx_V 8 s := by
  have h := kx_mdPos hM
  rw [hM.2.1]
  exact Nat.mul_pos h (Nat.two_pow_pos sh)
theorem kx_mulEnd {a b f s w0 w l l0 o : Nat → Nat} {sh : Nat} (hM : kx_isM s sh) (hl : ∀ j, l j < 4294967296) (hf : kx_V 8 f = kx_V 8 b * 2 ^ sh) (hw0 : kx_V 16 w0 = kx_V 8 a * kx_V 8 f) (hw : kx_val (kx_rv 16 w) 8 = kx_V 16 w0 % kx_V 8 s) (hc : l = kx_cp w l0 8 0 8) (ho : ∀ i, i < 8 → o i = kx_shr l (sh / 32) (sh % 32) i) : kx_V 8 o = kx_V 8 a * kx_V 8 b % kx_md s sh := by
  refine kx_shrV hl (w := sh / 32) (b := sh % 32) (by have := hM.1; omega) (by omega) ho ?_
  rw [← kx_p2, hc, kx_cpLow, hw, hw0, hf, hM.2.1, ← Nat.mul_assoc, Nat.mul_mod_mul_right]
/-! powers -/
theorem kx_powBit {V k : Nat} (hk : k < 256) : V / 2 ^ (256 - (k + 1)) = V / 2 ^ (256 - k) + V / 2 ^ (256 - k) + V / 2 ^ (255 - k) % 2 := by
  rw [show 256 - (k + 1) = 255 - k by omega, show 256 - k = 255 - k + 1 by omega, Nat.pow_succ, ← Nat.div_div_eq_div_mul]
  generalize V / 2 ^ (255 - k) = x
  omega
theorem kx_pow0 {g E k M r s q : Nat} (hk : k < 256) (hr : r = g ^ (E / 2 ^ (256 - k)) % M) (hs : s = r * r % M) (hb : E / 2 ^ (255 - k) % 2 = 0) : s = g ^ (E / 2 ^ (256 - (k + 1))) % M := by
  rw [kx_powBit hk, hb, Nat.add_zero, Nat.pow_add, hs, hr, ← Nat.mul_mod]
theorem kx_pow1 {g E k M r s t : Nat} (hk : k < 256) (hr : r = g ^ (E / 2 ^ (256 - k)) % M) (hs : s = r * r % M) (ht : t = s * g % M) (hb : E / 2 ^ (255 - k) % 2 = 1) : t = g ^ (E / 2 ^ (256 - (k + 1))) % M := by
  rw [kx_powBit hk, hb, Nat.pow_succ, Nat.pow_add, ht, hs, hr, ← Nat.mul_mod, Nat.mod_mul_mod]
theorem kx_powEnd {g E M r : Nat} (hr : r = g ^ (E / 2 ^ (256 - 256)) % M) : r = g ^ E % M := by
  rw [Nat.sub_self, Nat.pow_zero, Nat.div_one] at hr
  exact hr
theorem kx_powStart {g E k M r one : Nat} (h1 : one = 1) (hk : kx_lz E k) (hr : r = one * one % M) : r = g ^ (E / 2 ^ (256 - k)) % M := by
  rw [hk.2.1, Nat.pow_zero, hr, h1]
theorem kx_modLe {x M : Nat} (h : 0 < M) : x % M ≤ M := Nat.le_of_lt (Nat.mod_lt _ h)
/-- two rows of words with one number are one -/
theorem kx_V_inj {d e : Nat → Nat} (hd : ∀ j, d j < 4294967296) (he : ∀ j, e j < 4294967296) (h : kx_V 8 d = kx_V 8 e) : ∀ j, j < 8 → d j = e j := by
  intro j hj
  rw [← kx_word hd hj, ← kx_word he hj, h]
theorem kz_and1 (n : Nat) : nI n &&& nI 1 = nI (n % 2) := by
  apply Int32.toBitVec_inj.mp
  apply BitVec.eq_of_toNat_eq
  show (BitVec.ofNat 32 n &&& 1#32).toNat = (BitVec.ofNat 32 (n % 2)).toNat
  have h : (1#32).toNat = 2 ^ 1 - 1 := rfl
  rw [BitVec.toNat_and, h, Nat.and_two_pow_sub_one_eq_mod, BitVec.toNat_ofNat, BitVec.toNat_ofNat]
  omega
theorem kz_xorN (a b : Nat) : nI a ^^^ nI b = nI (a ^^^ b) := by
  apply Int32.toBitVec_inj.1
  show BitVec.ofNat 32 a ^^^ BitVec.ofNat 32 b = BitVec.ofNat 32 (a ^^^ b)
  apply BitVec.eq_of_getLsbD_eq
  intro i hi
  simp [hi]
theorem kx_xor_lt {a b : Nat} (ha : a < 4294967296) (hb : b < 4294967296) : a ^^^ b < 4294967296 := Nat.xor_lt_two_pow (n := 32) ha hb
