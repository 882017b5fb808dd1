/-! LONGS: words in longs -/
theorem kz_lz_c4294967295 : (4294967295 : Int64) = kz_lz 4294967295 := by decide
theorem kz_lz_and32 (z : Int) : kz_lz z &&& kz_lz 4294967295 = kz_lz (z % 4294967296) := by
  rw [← kz_lz_c4294967295]
  apply Int64.toBitVec_inj.mp
  show BitVec.ofInt 64 z &&& 4294967295#64 = BitVec.ofInt 64 (z % 4294967296)
  apply BitVec.eq_of_toNat_eq
  rw [BitVec.toNat_and, BitVec.toNat_ofInt, BitVec.toNat_ofInt]
  have h : (4294967295#64).toNat = 2 ^ 32 - 1 := rfl
  rw [h, Nat.and_two_pow_sub_one_eq_mod]
  omega
theorem kz_lz_i32 (z : Int) : (kz_lz z).toInt32 = nI (z % 4294967296).toNat := by
  show (Int64.ofInt z).toInt32 = Int32.ofNat _
  rw [Int64.toInt32_ofInt]
  apply Int32.toBitVec_inj.mp
  apply BitVec.eq_of_toNat_eq
  show (BitVec.ofInt 32 z).toNat = (BitVec.ofNat 32 _).toNat
  rw [BitVec.toNat_ofInt, BitVec.toNat_ofNat]
  omega
theorem kz_toI64 {n : Nat} (h : n < 4294967296) : ∃ z : Int, (nI n).toInt64 = kz_lz z ∧ z % 4294967296 = (n : Int) := by
  refine ⟨(nI n).toInt, ?_, ?_⟩
  · apply Int64.toInt_inj.mp
    have h1 : -2 ^ 31 ≤ (nI n).toInt := Int32.le_toInt _
    have h2 : (nI n).toInt < 2 ^ 31 := Int32.toInt_lt _
    rw [kz_lz_int (by omega) (by omega), Int32.toInt_toInt64]
  · show (BitVec.ofNat 32 n).toInt % 4294967296 = (n : Int)
    rw [BitVec.toInt_eq_toNat_bmod, BitVec.toNat_ofNat]
    have e : n % 2 ^ 32 = n := by omega
    rw [e, Int.bmod_def]
    split <;> omega
theorem kz_maskS {n : Nat} (h : n < 4294967296) : (nI n).toInt64 &&& kz_lz 4294967295 = kz_lz ((n : Nat) : Int) := by
  obtain ⟨z, h1, h2⟩ := kz_toI64 h
  rw [h1, kz_lz_and32, h2]
theorem kz_lz_ushr32 {z : Int} (h1 : 0 ≤ z) (h2 : z < 18446744073709551616) : ((kz_lz z).toUInt64 >>> ((nI 32).toInt64.toUInt64 &&& Int64.toUInt64 63)).toInt64 = kz_lz (z / 4294967296) := by
  apply Int64.toBitVec_inj.mp
  apply BitVec.eq_of_toNat_eq
  have e : ((kz_lz z).toUInt64 >>> ((nI 32).toInt64.toUInt64 &&& Int64.toUInt64 63)).toInt64.toBitVec = (kz_lz z).toBitVec >>> 32 := rfl
  rw [e, BitVec.toNat_ushiftRight, Nat.shiftRight_eq_div_pow]
  show (BitVec.ofInt 64 z).toNat / 2 ^ 32 = (BitVec.ofInt 64 (z / 4294967296)).toNat
  rw [BitVec.toNat_ofInt, BitVec.toNat_ofInt]
  omega
theorem kz_lz_shl32 (z : Int) : kz_lz z <<< ((nI 32).toInt64 &&& 63) = kz_lz (z * 4294967296) := by
  apply Int64.toBitVec_inj.mp
  apply BitVec.eq_of_toNat_eq
  have e : (kz_lz z <<< ((nI 32).toInt64 &&& 63)).toBitVec = (kz_lz z).toBitVec <<< 32 := rfl
  rw [e, BitVec.toNat_shiftLeft, Nat.shiftLeft_eq]
  show (BitVec.ofInt 64 z).toNat * 2 ^ 32 % 2 ^ 64 = (BitVec.ofInt 64 (z * 4294967296)).toNat
  rw [BitVec.toNat_ofInt, BitVec.toNat_ofInt]
  omega
theorem kz_lz_or32 {a b : Int} (h0 : 0 ≤ a) (h1 : a < 2147483648) (b0 : 0 ≤ b) (b1 : b < 4294967296) : kz_lz (a * 4294967296) ||| kz_lz b = kz_lz (a * 4294967296 + b) := by
  obtain ⟨n, rfl⟩ : ∃ n : Nat, a = (n : Int) := ⟨a.toNat, by omega⟩
  obtain ⟨k, rfl⟩ : ∃ n : Nat, b = (n : Int) := ⟨b.toNat, by omega⟩
  apply Int64.toBitVec_inj.mp
  apply BitVec.eq_of_toNat_eq
  show (BitVec.ofInt 64 ((n : Int) * 4294967296) ||| BitVec.ofInt 64 (k : Int)).toNat = (BitVec.ofInt 64 ((n : Int) * 4294967296 + (k : Int))).toNat
  rw [BitVec.toNat_or, BitVec.toNat_ofInt, BitVec.toNat_ofInt, BitVec.toNat_ofInt]
  have e1 : ((n : Int) * 4294967296 % ((2 ^ 64 : Nat) : Int)).toNat = 2 ^ 32 * n := by omega
  have e2 : ((k : Int) % ((2 ^ 64 : Nat) : Int)).toNat = k := by omega
  have e3 : (((n : Int) * 4294967296 + (k : Int)) % ((2 ^ 64 : Nat) : Int)).toNat = 2 ^ 32 * n + k := by omega
  rw [e1, e2, e3]
  exact (Nat.two_pow_add_eq_or_of_lt (i := 32) (by omega) n).symm
theorem kz_toN {e : Int} {y : Int64} (h9 : y = kz_lz e) (h0 : 0 ≤ e) : ∃ n : Nat, ((n : Nat) : Int) = e ∧ y = kz_lz ((n : Nat) : Int) := by
  obtain ⟨n, rfl⟩ : ∃ n : Nat, e = (n : Int) := ⟨e.toNat, by omega⟩
  exact ⟨n, rfl, h9⟩
theorem kz_ofI (g : Nat → Int32) : ∃ d : Nat → Nat, (∀ j, d j < 4294967296) ∧ g = kz_dg d := ⟨fun j => (g j).toUInt32.toNat, fun j => kz_ult (g j), funext fun j => kz_u (g j)⟩
theorem kx_mm {a b : Nat} (ha : a < 4294967296) (hb : b < 4294967296) : a * b ≤ 18446744065119617025 := Nat.le_trans (Nat.mul_le_mul (show a ≤ 4294967295 by omega) (show b ≤ 4294967295 by omega)) (by decide)
/-! WORDS: rows of words to the base 2^32 (the highest first), and what the class's arithmetic needs -/
def kx_val (d : Nat → Nat) : Nat → Nat
  | 0 => 0
  | n + 1 => kx_val d n + d n * 4294967296 ^ n
theorem kx_val_s (d : Nat → Nat) (n : Nat) : kx_val d (n + 1) = kx_val d n + d n * 4294967296 ^ n := rfl
theorem kx_lt {d : Nat → Nat} (hd : ∀ j, d j < 4294967296) : ∀ n : Nat, kx_val d n < 4294967296 ^ n
  | 0 => Nat.one_pos
  | n + 1 => by
    have h := kx_lt hd n
    have h2 : (d n + 1) * 4294967296 ^ n ≤ 4294967296 * 4294967296 ^ n := Nat.mul_le_mul_right _ (hd n)
    rw [Nat.add_mul, Nat.one_mul] at h2
    rw [kx_val_s, Nat.pow_succ, Nat.mul_comm (4294967296 ^ n) 4294967296]
    omega
theorem kx_ext {r z : Nat → Nat} : ∀ n : Nat, (∀ j, j < n → r j = z j) → kx_val r n = kx_val z n
  | 0, _ => rfl
  | n + 1, h => by
    rw [kx_val_s, kx_val_s, kx_ext n (fun j hj => h j (by omega)), h n (by omega)]
theorem kx_mono (d : Nat → Nat) (n : Nat) : ∀ k : Nat, kx_val d n ≤ kx_val d (n + k)
  | 0 => Nat.le_refl _
  | k + 1 => by
    have h := kx_mono d n k
    have e : kx_val d (n + (k + 1)) = kx_val d (n + k) + d (n + k) * 4294967296 ^ (n + k) := rfl
    omega
theorem kx_trunc (d : Nat → Nat) (k : Nat) : ∀ n : Nat, (∀ j, k ≤ j → j < k + n → d j = 0) → kx_val d (k + n) = kx_val d k
  | 0, _ => rfl
  | n + 1, h => by
    have e : kx_val d (k + (n + 1)) = kx_val d (k + n) + d (k + n) * 4294967296 ^ (k + n) := rfl
    rw [e, kx_trunc d k n (fun j a b => h j a (by omega)), h (k + n) (by omega) (by omega), Nat.zero_mul, Nat.add_zero]
theorem kx_at (d : Nat → Nat) (k n : Nat) (hn : k < n) : d k * 4294967296 ^ k ≤ kx_val d n := by
  have h1 := kx_mono d (k + 1) (n - (k + 1))
  have e : k + 1 + (n - (k + 1)) = n := by omega
  rw [e, kx_val_s] at h1
  omega
theorem kx_up_lt {d : Nat → Nat} (hd : ∀ j, d j < 4294967296) {k v : Nat} (hv : v < 4294967296) : ∀ j, kv_up d k v j < 4294967296 := by
  intro j
  unfold kv_up
  split
  · exact hv
  · exact hd j
theorem kx_up_below (d : Nat → Nat) (k v n : Nat) (h : n ≤ k) : kx_val (kv_up d k v) n = kx_val d n := kx_ext n (fun j hj => kv_up_ne d v (by omega))
theorem kx_up_val (d : Nat → Nat) (k v : Nat) : ∀ n : Nat, k < n → kx_val (kv_up d k v) n + d k * 4294967296 ^ k = kx_val d n + v * 4294967296 ^ k
  | 0, h => absurd h (by omega)
  | n + 1, h => by
    rw [kx_val_s, kx_val_s]
    by_cases hkn : k = n
    · subst hkn
      rw [kv_up_eq, kx_up_below d k v k (Nat.le_refl k)]
      omega
    · rw [kv_up_ne d v (show n ≠ k by omega)]
      have h1 := kx_up_val d k v n (by omega)
      omega
/-- a product's row, a word further -/
theorem kx_mulStep {g b : Nat → Nat} {c V ai i j N : Nat} (hij : i + j < N) (hI : kx_val g N + c * 4294967296 ^ (i + j) = V + ai * 4294967296 ^ i * kx_val b j) :
    kx_val (kv_up g (i + j) ((c + g (i + j) + ai * b j) % 4294967296)) N + (c + g (i + j) + ai * b j) / 4294967296 * 4294967296 ^ (i + (j + 1)) = V + ai * 4294967296 ^ i * kx_val b (j + 1) := by
  have h1 := kx_up_val g (i + j) ((c + g (i + j) + ai * b j) % 4294967296) N hij
  generalize ht : c + g (i + j) + ai * b j = t at h1 ⊢
  have e1 : 4294967296 ^ (i + (j + 1)) = 4294967296 * 4294967296 ^ (i + j) := by rw [show i + (j + 1) = (i + j) + 1 by omega, Nat.pow_succ, Nat.mul_comm]
  have e2 : t / 4294967296 * 4294967296 ^ (i + (j + 1)) + t % 4294967296 * 4294967296 ^ (i + j) = t * 4294967296 ^ (i + j) := by
    rw [e1, ← Nat.mul_assoc, ← Nat.add_mul]
    have h9 : t / 4294967296 * 4294967296 + t % 4294967296 = t := by omega
    rw [h9]
  have e3 : t * 4294967296 ^ (i + j) = c * 4294967296 ^ (i + j) + g (i + j) * 4294967296 ^ (i + j) + ai * b j * 4294967296 ^ (i + j) := by rw [← ht, Nat.add_mul, Nat.add_mul]
  have e4 : ai * b j * 4294967296 ^ (i + j) = ai * 4294967296 ^ i * (b j * 4294967296 ^ j) := by
    rw [Nat.pow_add]
    simp only [Nat.mul_assoc, Nat.mul_comm, Nat.mul_left_comm]
  rw [kx_val_s b j, Nat.mul_add]
  omega
/-- the words of a row, the lowest first -/
def kx_rv (N : Nat) (d : Nat → Nat) : Nat → Nat := fun j => d (N - 1 - j)
theorem kx_rv_lt {d : Nat → Nat} (hd : ∀ j, d j < 4294967296) (N : Nat) : ∀ j, kx_rv N d j < 4294967296 := fun j => hd _
theorem kx_rv_up {N p : Nat} (d : Nat → Nat) (v : Nat) (hp : p < N) (n : Nat) (hn : n ≤ N) : kx_val (kx_rv N (kv_up d p v)) n = kx_val (kv_up (kx_rv N d) (N - 1 - p) v) n :=
  kx_ext n (fun j hj => by
    unfold kx_rv kv_up
    by_cases h : j = N - 1 - p
    · rw [if_pos (by omega), if_pos h]
    · rw [if_neg (by omega), if_neg h])
/-- a row's number -/
def kx_V (N : Nat) (d : Nat → Nat) : Nat := kx_val (kx_rv N d) N
theorem kx_V_lt {d : Nat → Nat} (hd : ∀ j, d j < 4294967296) (N : Nat) : kx_V N d < 4294967296 ^ N := kx_lt (kx_rv_lt hd N) N
theorem kx_V_ext {N : Nat} {d e : Nat → Nat} (h : ∀ j, j < N → d j = e j) : kx_V N d = kx_V N e := kx_ext N (fun j hj => by unfold kx_rv; exact h _ (by omega))
/-- one row times a word, added to a wide row: a word further -/
theorem kx_amStep {w b : Nat → Nat} {c V t a k s : Nat} (ha : a < 8) (hk : k < 8) (hs : s = c + w (a + 1 + k) + t * b k)
    (hI : kx_val (kx_rv 16 w) 16 + c * 4294967296 ^ ((7 - a) + (8 - (k + 1))) = V + t * 4294967296 ^ (7 - a) * kx_val (kx_rv 8 b) (8 - (k + 1))) :
    kx_val (kx_rv 16 (kv_up w (a + 1 + k) (s % 4294967296))) 16 + s / 4294967296 * 4294967296 ^ ((7 - a) + (8 - k)) = V + t * 4294967296 ^ (7 - a) * kx_val (kx_rv 8 b) (8 - k) := by
  have e1 : 8 - k = (7 - k) + 1 := by omega
  have e2 : 8 - (k + 1) = 7 - k := by omega
  rw [e2] at hI
  rw [e1, kx_rv_up _ _ (by omega) 16 (Nat.le_refl _)]
  have e3 : 16 - 1 - (a + 1 + k) = (7 - a) + (7 - k) := by omega
  rw [e3]
  have e4 : kx_rv 16 w ((7 - a) + (7 - k)) = w (a + 1 + k) := by unfold kx_rv; congr 1; omega
  have e5 : kx_rv 8 b (7 - k) = b k := by unfold kx_rv; congr 1; omega
  have h := kx_mulStep (g := kx_rv 16 w) (b := kx_rv 8 b) (ai := t) (c := c) (V := V) (i := 7 - a) (j := 7 - k) (N := 16) (by omega) hI
  rw [e4, e5, ← hs] at h
  exact h
/-- a product's row, its end -/
theorem kx_mlRow {w a b : Nat → Nat} {c k : Nat} (hk : k < 8) (hw : w k = 0) (hI : kx_val (kx_rv 16 w) 16 + c * 4294967296 ^ ((7 - k) + 8) = kx_val (kx_rv 8 a) (8 - (k + 1)) * kx_val (kx_rv 8 b) 8 + a k * 4294967296 ^ (7 - k) * kx_val (kx_rv 8 b) 8) :
    kx_val (kx_rv 16 (kv_up w k c)) 16 = kx_val (kx_rv 8 a) (8 - k) * kx_val (kx_rv 8 b) 8 := by
  have e1 : 8 - k = (7 - k) + 1 := by omega
  have e2 : 8 - (k + 1) = 7 - k := by omega
  rw [e2] at hI
  rw [e1, kx_rv_up _ _ (by omega) 16 (Nat.le_refl _)]
  have e3 : 16 - 1 - k = (7 - k) + 8 := by omega
  rw [e3]
  have e4 : kx_rv 16 w ((7 - k) + 8) = 0 := by rw [← hw]; unfold kx_rv; congr 1; omega
  have e5 : kx_rv 8 a (7 - k) = a k := by unfold kx_rv; congr 1; omega
  have h1 := kx_up_val (kx_rv 16 w) ((7 - k) + 8) c 16 (by omega)
  rw [e4, Nat.zero_mul] at h1
  rw [kx_val_s (kx_rv 8 a), e5, Nat.add_mul]
  omega
theorem kx_mlZero {a : Nat → Nat} {k : Nat} (hk : k < 8) (ha : a k = 0) : kx_val (kx_rv 8 a) (8 - k) = kx_val (kx_rv 8 a) (8 - (k + 1)) := by
  have e1 : 8 - k = (8 - (k + 1)) + 1 := by omega
  have e5 : kx_rv 8 a (8 - (k + 1)) = a k := by unfold kx_rv; congr 1; omega
  rw [e1, kx_val_s, e5, ha, Nat.zero_mul, Nat.add_zero]
/-- one word of a row, where words behind it are done: a step of a loop from the lowest word on -/
theorem kx_downStep {o : Nat → Nat} {k v : Nat} (hk : k < 8) : kx_val (kx_rv 8 (kv_up o k v)) (8 - k) = kx_val (kx_rv 8 o) (8 - (k + 1)) + v * 4294967296 ^ (8 - (k + 1)) := by
  have e1 : 8 - k = (8 - (k + 1)) + 1 := by omega
  have e3 : 8 - 1 - k = 8 - (k + 1) := by omega
  rw [kx_rv_up _ _ (by omega) _ (by omega), e3, e1, kx_val_s, kv_up_eq, kx_up_below _ _ _ _ (Nat.le_refl _)]
theorem kx_downAt {g : Nat → Nat} {k : Nat} (hk : k < 8) : kx_val (kx_rv 8 g) (8 - k) = kx_val (kx_rv 8 g) (8 - (k + 1)) + g k * 4294967296 ^ (8 - (k + 1)) := by
  have e1 : 8 - k = (8 - (k + 1)) + 1 := by omega
  have e5 : kx_rv 8 g (8 - (k + 1)) = g k := by unfold kx_rv; congr 1; omega
  rw [e1, kx_val_s, e5]
theorem kx_pw (k : Nat) (hk : k < 8) : 4294967296 ^ (8 - k) = 4294967296 * 4294967296 ^ (8 - (k + 1)) := by
  have e1 : 8 - k = (8 - (k + 1)) + 1 := by omega
  rw [e1, Nat.pow_succ, Nat.mul_comm]
/-- one is taken away: the borrow c is due at the place -/
theorem kx_sub1 {o g : Nat → Nat} {k c c' v : Nat} (hk : k < 8) (hv : v + c = g k + c' * 4294967296) (hI : kx_val (kx_rv 8 o) (8 - (k + 1)) + 1 = kx_val (kx_rv 8 g) (8 - (k + 1)) + c * 4294967296 ^ (8 - (k + 1))) :
    kx_val (kx_rv 8 (kv_up o k v)) (8 - k) + 1 = kx_val (kx_rv 8 g) (8 - k) + c' * 4294967296 ^ (8 - k) := by
  rw [kx_downStep hk, kx_downAt hk, kx_pw k hk]
  generalize 4294967296 ^ (8 - (k + 1)) = P at hI ⊢
  have h1 : (v + c) * P = (g k + c' * 4294967296) * P := by rw [hv]
  rw [Nat.add_mul, Nat.add_mul, Nat.mul_assoc] at h1
  omega
/-- k times a row, and one -/
theorem kx_mul1 {o g : Nat → Nat} {k c q s : Nat} (hk : k < 8) (hs : s = q * g k + c) (hI : kx_val (kx_rv 8 o) (8 - (k + 1)) + c * 4294967296 ^ (8 - (k + 1)) = q * kx_val (kx_rv 8 g) (8 - (k + 1)) + 1) :
    kx_val (kx_rv 8 (kv_up o k (s % 4294967296))) (8 - k) + s / 4294967296 * 4294967296 ^ (8 - k) = q * kx_val (kx_rv 8 g) (8 - k) + 1 := by
  rw [kx_downStep hk, kx_downAt hk, kx_pw k hk]
  generalize 4294967296 ^ (8 - (k + 1)) = P at hI ⊢
  have h1 : (s / 4294967296 * 4294967296 + s % 4294967296) * P = (q * g k + c) * P := by rw [← hs]; congr 1; omega
  rw [Nat.add_mul, Nat.add_mul, Nat.mul_assoc, Nat.mul_assoc] at h1
  rw [Nat.mul_add]
  omega
/-- a row's number, the highest words first -/
def kx_pre (d : Nat → Nat) : Nat → Nat
  | 0 => 0
  | n + 1 => kx_pre d n * 4294967296 + d n
theorem kx_pre_s (d : Nat → Nat) (n : Nat) : kx_pre d (n + 1) = kx_pre d n * 4294967296 + d n := rfl
theorem kx_low (f : Nat → Nat) : ∀ n : Nat, kx_val f (n + 1) = f 0 + 4294967296 * kx_val (fun j => f (j + 1)) n
  | 0 => by
    rw [kx_val_s]
    show 0 + f 0 * 4294967296 ^ 0 = f 0 + 4294967296 * 0
    omega
  | n + 1 => by
    rw [kx_val_s, kx_low f n, kx_val_s, Nat.mul_add, Nat.pow_succ, Nat.mul_comm (4294967296 ^ n) 4294967296, Nat.mul_left_comm]
    omega
theorem kx_pre_rv (d : Nat → Nat) : ∀ n : Nat, kx_pre d n = kx_val (kx_rv n d) n
  | 0 => rfl
  | n + 1 => by
    rw [kx_pre_s, kx_low, kx_pre_rv d n]
    have e1 : kx_rv (n + 1) d 0 = d n := by unfold kx_rv; congr 1
    have e2 : kx_val (fun j => kx_rv (n + 1) d (j + 1)) n = kx_val (kx_rv n d) n := kx_ext n (fun j hj => by unfold kx_rv; congr 1; omega)
    rw [e1, e2, Nat.mul_comm]
    omega
theorem kx_pre_V (d : Nat → Nat) (N : Nat) : kx_pre d N = kx_V N d := kx_pre_rv d N
theorem kx_pre_ext {d e : Nat → Nat} : ∀ n : Nat, (∀ j, j < n → d j = e j) → kx_pre d n = kx_pre e n
  | 0, _ => rfl
  | n + 1, h => by rw [kx_pre_s, kx_pre_s, kx_pre_ext n (fun j hj => h j (by omega)), h n (by omega)]
/-- a rest by 65537, a word further -/
theorem kx_modStep {d : Nat → Nat} {k r : Nat} (h : r = kx_pre d k % 65537) : (r * 4294967296 + d k) % 65537 = kx_pre d (k + 1) % 65537 := by
  rw [kx_pre_s, h, Nat.add_mod, Nat.mul_mod, Nat.mod_mod, ← Nat.mul_mod, ← Nat.add_mod]
/-- a row by 65537, a word further -/
theorem kx_divStep {o g : Nat → Nat} {k r r0 s : Nat} (hs : s = r * 4294967296 + g k) (hI : r0 * 4294967296 ^ k + kx_pre g k = 65537 * kx_pre o k + r) :
    r0 * 4294967296 ^ (k + 1) + kx_pre g (k + 1) = 65537 * kx_pre (kv_up o k (s / 65537)) (k + 1) + s % 65537 := by
  have e1 : kx_pre (kv_up o k (s / 65537)) (k + 1) = kx_pre o k * 4294967296 + s / 65537 := by
    rw [kx_pre_s, kv_up_eq, kx_pre_ext k (fun j hj => kv_up_ne o (s / 65537) (by omega))]
  have e2 : r0 * 4294967296 ^ (k + 1) = r0 * 4294967296 ^ k * 4294967296 := by rw [Nat.pow_succ, Nat.mul_assoc]
  rw [e1, e2, kx_pre_s]
  generalize r0 * 4294967296 ^ k = A at hI ⊢
  omega
/-- the inverse of a small number, as the class reckons it -/
def kx_iv (a : Nat) : Nat → Nat
  | 0 => 1
  | n + 1 => kx_iv a n * kx_iv a n % 65537 * a % 65537
theorem kx_iv_lt (a : Nat) : ∀ n : Nat, kx_iv a n < 65537
  | 0 => by show 1 < 65537; omega
  | n + 1 => Nat.mod_lt _ (by omega)
theorem kx_iv_pow (a : Nat) : ∀ n : Nat, kx_iv a n = a ^ (2 ^ n - 1) % 65537
  | 0 => rfl
  | n + 1 => by
    show kx_iv a n * kx_iv a n % 65537 * a % 65537 = _
    rw [kx_iv_pow a n]
    have e : 2 ^ (n + 1) - 1 = (2 ^ n - 1) + (2 ^ n - 1) + 1 := by
      have h := Nat.one_le_two_pow (n := n)
      rw [Nat.pow_succ]
      omega
    rw [e, Nat.pow_succ, Nat.pow_add, Nat.mul_mod (a ^ (2 ^ n - 1) * a ^ (2 ^ n - 1)) a, Nat.mul_mod (a ^ (2 ^ n - 1)) (a ^ (2 ^ n - 1))]
    rw [Nat.mul_mod (a ^ (2 ^ n - 1) % 65537 * (a ^ (2 ^ n - 1) % 65537) % 65537) a, Nat.mod_mod]
def kx_ck (lo : Nat) : Nat → Bool
  | 0 => Nat.beq lo 0 || Nat.beq ((lo ^ 255 % 65537) ^ 257 % 65537 * lo % 65537) 1
  | n + 1 => kx_ck lo n && kx_ck (lo + 2 ^ n) n
theorem kx_ck_at : ∀ (n lo a : Nat), kx_ck lo n = true → lo ≤ a → a < lo + 2 ^ n → a = 0 ∨ (a ^ 255 % 65537) ^ 257 % 65537 * a % 65537 = 1
  | 0, lo, a, h, h1, h2 => by
    have e : a = lo := by
      rw [Nat.pow_zero] at h2
      omega
    subst e
    unfold kx_ck at h
    rw [Bool.or_eq_true] at h
    exact h.imp Nat.eq_of_beq_eq_true Nat.eq_of_beq_eq_true
  | n + 1, lo, a, h, h1, h2 => by
    unfold kx_ck at h
    rw [Bool.and_eq_true] at h
    rw [Nat.pow_succ] at h2
    by_cases hb : a < lo + 2 ^ n
    · exact kx_ck_at n lo a h.1 h1 hb
    · exact kx_ck_at n (lo + 2 ^ n) a h.2 (by omega) (by omega)
theorem kx_ck_all : kx_ck 0 16 = true := by decide +kernel
theorem kx_iv_ok {a : Nat} (h0 : 0 < a) (h1 : a < 65537) : kx_iv a 16 * a % 65537 = 1 := by
  have e : kx_iv a 16 = (a ^ 255 % 65537) ^ 257 % 65537 := by
    rw [kx_iv_pow, ← Nat.pow_mod, ← Nat.pow_mul]
  rw [e]
  by_cases h : a = 65536
  · subst h
    decide +kernel
  · rcases kx_ck_at 16 0 a kx_ck_all (Nat.zero_le _) (by omega) with h2 | h2
    · omega
    · exact h2
theorem kx_nIeq {a b : Nat} (ha : a < 4294967296) (hb : b < 4294967296) : nI a = nI b ↔ a = b := by
  constructor
  · intro h
    have h2 : (nI a).toUInt32.toNat = (nI b).toUInt32.toNat := by rw [h]
    rw [kz_un ha, kz_un hb] at h2
    exact h2
  · intro h
    rw [h]
theorem kx_big {d : Nat → Nat} {k : Nat} (hk : k < 7) (hd : ¬ d k = 0) : 3 ≤ kx_V 8 d := by
  have h := kx_at (kx_rv 8 d) (7 - k) 8 (by omega)
  have e : kx_rv 8 d (7 - k) = d k := by unfold kx_rv; congr 1; omega
  rw [e] at h
  have h2 : 4294967296 ^ 1 ≤ 4294967296 ^ (7 - k) := Nat.pow_le_pow_right (by omega) (by omega)
  have h3 : 1 * 4294967296 ^ (7 - k) ≤ d k * 4294967296 ^ (7 - k) := Nat.mul_le_mul_right _ (by omega)
  show 3 ≤ kx_val (kx_rv 8 d) 8
  rw [Nat.pow_one] at h2
  omega
theorem kx_small {d : Nat → Nat} (h : ∀ j, j < 7 → d j = 0) : kx_V 8 d = d 7 := by
  have h1 := kx_trunc (kx_rv 8 d) 1 7 (fun j a b => by unfold kx_rv; exact h _ (by omega))
  have e1 : kx_val (kx_rv 8 d) 1 = d 7 := by
    rw [kx_val_s]
    show 0 + d 7 * 4294967296 ^ 0 = d 7
    omega
  exact h1.trans e1
theorem kx_subEnd {o g : Nat → Nat} {b : Int} (hd : ∀ j, o j < 4294967296) (h1 : 1 ≤ kx_V 8 g) (hb : b ≤ 1) (hI : kx_val (kx_rv 8 o) (8 - 0) + 1 = kx_val (kx_rv 8 g) (8 - 0) + b.toNat * 4294967296 ^ (8 - 0)) : kx_V 8 o + 1 = kx_V 8 g := by
  have h2 := kx_V_lt hd 8
  unfold kx_V at h1 h2 ⊢
  rw [Nat.sub_zero] at hI
  generalize (4294967296 : Nat) ^ 8 = P at h2 hI
  generalize kx_val (kx_rv 8 o) 8 = x at h2 hI ⊢
  generalize kx_val (kx_rv 8 g) 8 = y at h1 hI ⊢
  rcases (by omega : b.toNat = 0 ∨ b.toNat = 1) with h | h
  · rw [h] at hI
    omega
  · rw [h] at hI
    omega
def kx_cp (d e : Nat → Nat) (sp dp n : Nat) : Nat → Nat := fun k => if dp ≤ k ∧ k < dp + n then d (sp + (k - dp)) else e k
theorem kx_cpd (d e : Nat → Nat) (sp dp n : Nat) : va_cpy (kz_dg d) (kz_dg e) sp dp n = kz_dg (kx_cp d e sp dp n) := by
  funext j
  unfold va_cpy kz_dg kx_cp
  by_cases h : dp ≤ j ∧ j < dp + n
  · rw [if_pos h, if_pos h]
  · rw [if_neg h, if_neg h]
theorem kx_cp_lt {d e : Nat → Nat} (hd : ∀ j, d j < 4294967296) (he : ∀ j, e j < 4294967296) {sp dp n : Nat} : ∀ j, kx_cp d e sp dp n j < 4294967296 := by
  intro j
  unfold kx_cp
  split
  · exact hd _
  · exact he _
theorem kx_top0 {d : Nat → Nat} {N m : Nat} (h : kx_val d N < 4294967296 ^ m) : ∀ j, m ≤ j → j < N → d j = 0 := by
  intro j h1 h2
  have h3 := kx_at d j N h2
  have h4 : 4294967296 ^ m ≤ 4294967296 ^ j := Nat.pow_le_pow_right (by omega) h1
  rcases Nat.eq_zero_or_pos (d j) with h5 | h5
  · exact h5
  · have h6 : 1 * 4294967296 ^ j ≤ d j * 4294967296 ^ j := Nat.mul_le_mul_right _ h5
    omega
theorem kx_B8 : (4294967296 : Nat) ^ 8 = 115792089237316195423570985008687907853269984665640564039457584007913129639936 := by decide +kernel
theorem kx_B4 : (4294967296 : Nat) ^ 4 = 340282366920938463463374607431768211456 := by decide +kernel
theorem kx_cpV {w e : Nat → Nat} (hd : ∀ j, w j < 4294967296) (h : kx_V 16 w < 115792089237316195423570985008687907853269984665640564039457584007913129639936) : kx_V 8 (kx_cp w e 8 0 8) = kx_V 16 w := by
  rw [← kx_B8] at h
  have h1 := kx_trunc (kx_rv 16 w) 8 8 (fun j a b => kx_top0 (d := kx_rv 16 w) (N := 16) h j a (by omega))
  have h2 : kx_V 16 w = kx_val (kx_rv 16 w) 8 := h1
  rw [h2]
  refine kx_ext 8 (fun j hj => ?_)
  unfold kx_rv kx_cp
  rw [if_pos (by omega)]
  congr 1
  omega
theorem kx_P256 {a b : Nat} (ha : a < 340282366920938463463374607431768211456) (hb : b < 340282366920938463463374607431768211456) : a * b < 115792089237316195423570985008687907853269984665640564039457584007913129639936 :=
  Nat.lt_of_lt_of_eq (Nat.mul_lt_mul_of_lt_of_lt ha hb) (by decide +kernel)
theorem kx_divEnd {o g : Nat → Nat} {r r0 : Nat} (hr : r < 65537) (hI : r0 * 4294967296 ^ 8 + kx_pre g 8 = 65537 * kx_pre o 8 + r) : kx_pre o 8 = (r0 * 115792089237316195423570985008687907853269984665640564039457584007913129639936 + kx_pre g 8) / 65537 := by
  rw [← kx_B8, hI]
  clear hI
  omega
theorem kx_invEnd {M b q V c R : Nat} (hb : b < 65537) (hi : b * (M % 65537) % 65537 = 1) (hq : q + b = 65537) (hI : V + c * 4294967296 ^ 8 = q * M + 1) (hR : R = (c * 115792089237316195423570985008687907853269984665640564039457584007913129639936 + V) / 65537) :
    ∃ q : Nat, q < 65537 ∧ (1 + q * M) % 65537 = 0 ∧ R = (1 + q * M) / 65537 := by
  have b0 : b ≠ 0 := by
    intro h
    rw [h, Nat.zero_mul] at hi
    omega
  refine ⟨q, by omega, ?_, ?_⟩
  · have h1 : b * M % 65537 = 1 := by rw [Nat.mul_mod_mod] at hi; exact hi
    have h2 : q * M + b * M = 65537 * M := by rw [← Nat.add_mul, hq]
    generalize q * M = X at h2 ⊢
    generalize b * M = Y at h1 h2
    omega
  · rw [hR, ← kx_B8]
    generalize (4294967296 : Nat) ^ 8 = P at hI ⊢
    congr 1
    generalize c * P = cP at hI ⊢
    omega
/-- the four low words of a row, and their number -/
def kx_lo (d : Nat → Nat) : Nat → Nat := fun j => if j < 4 then 0 else d j
def kx_L (d : Nat → Nat) : Nat := kx_V 8 (kx_lo d)
theorem kx_L_lt {d : Nat → Nat} (hd : ∀ j, d j < 4294967296) : kx_L d < 340282366920938463463374607431768211456 := by
  have h1 := kx_trunc (kx_rv 8 (kx_lo d)) 4 4 (fun j a b => by unfold kx_rv kx_lo; rw [if_pos (by omega)])
  have h2 : kx_L d = kx_val (kx_rv 8 (kx_lo d)) 4 := h1
  rw [h2, ← kx_B4]
  refine kx_lt (fun j => ?_) 4
  unfold kx_rv kx_lo
  split
  · omega
  · exact hd _
theorem kx_hi0 {d : Nat → Nat} (h : kx_V 8 d < 340282366920938463463374607431768211456) : ∀ j, j < 4 → d j = 0 := by
  intro j hj
  rw [← kx_B4] at h
  have h1 := kx_top0 (d := kx_rv 8 d) (N := 8) h (7 - j) (by omega) (by omega)
  have e : kx_rv 8 d (7 - j) = d j := by unfold kx_rv; congr 1; omega
  rw [e] at h1
  exact h1
theorem kx_tl {o a g : Nat → Nat} (h1 : ∀ j, 4 ≤ j → j < 8 → o j = a j) (h2 : ∀ j, j < 4 → o j = g j) (hz : ∀ j, j < 4 → g j = 0) : kx_V 8 o = kx_L a := by
  refine kx_V_ext (fun j hj => ?_)
  unfold kx_lo
  by_cases h : j < 4
  · rw [if_pos h, h2 j h]; exact hz j h
  · rw [if_neg h]; exact h1 j (by omega) hj
/-- what the host's numbers are to be: p and q from 3 on, (p - 1) (q - 1) no multiple of 65537 -/
def kx_fit (P Q : Nat) : Prop := 3 ≤ P ∧ 3 ≤ Q ∧ (P - 1) * (Q - 1) % 65537 ≠ 0
/-- D is the number that D stands for -/
def kx_isD (P Q D : Nat) : Prop := ∃ q : Nat, q < 65537 ∧ (1 + q * ((P - 1) * (Q - 1))) % 65537 = 0 ∧ D = (1 + q * ((P - 1) * (Q - 1))) / 65537
theorem kx_takeEnd {r : Int32} {P Q p q p1 q1 M D : Nat} (hp : p = P) (hq : q = Q) (h3 : 3 ≤ p) (h4 : 3 ≤ q) (s1 : p1 + 1 = p) (s2 : q1 + 1 = q) (hM : M = p1 * q1)
    (h : (r = 0 ∧ M % 65537 = 0) ∨ (r = 1 ∧ M % 65537 ≠ 0 ∧ ∃ q : Nat, q < 65537 ∧ (1 + q * M) % 65537 = 0 ∧ D = (1 + q * M) / 65537)) : (r = 0 ∧ ¬ kx_fit P Q) ∨ (r = 1 ∧ kx_fit P Q ∧ kx_isD P Q D) := by
  have e : (P - 1) * (Q - 1) = M := by
    rw [hM]
    congr 1 <;> omega
  unfold kx_fit kx_isD
  rw [e]
  rcases h with ⟨h1, h2⟩ | ⟨h1, h2, h5⟩
  · exact Or.inl ⟨h1, fun h9 => h9.2.2 h2⟩
  · exact Or.inr ⟨h1, ⟨by omega, by omega, h2⟩, h5⟩
