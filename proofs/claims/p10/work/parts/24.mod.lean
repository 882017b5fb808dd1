/-! shifts of rows, their bits, a digit's guess -/
def kx_wz (d : Nat → Nat) (e : Nat) : Nat := if e < 8 then d e else 0
theorem kx_wz_lt {d : Nat → Nat} (hd : ∀ j, d j < 4294967296) (e : Nat) : kx_wz d e < 4294967296 := by
  unfold kx_wz
  split
  · exact hd _
  · omega
theorem kx_two32 {b : Nat} (hb : b ≤ 32) : (4294967296 : Nat) = 2 ^ (32 - b) * 2 ^ b := by
  rw [← Nat.pow_add, show 32 - b + b = 32 by omega]
theorem kx_modAdd {x y p : Nat} (h1 : y < p) (h2 : x % 4294967296 + p ≤ 4294967296) : (x + y) % 4294967296 = x % 4294967296 + y := by omega
theorem kx_shl_one {hi lo b : Nat} (hlo : lo < 4294967296) (hb : b ≤ 31) : (hi * 4294967296 + lo) * 2 ^ b % 18446744073709551616 / 4294967296 = hi * 2 ^ b % 4294967296 + lo * 2 ^ b / 4294967296 := by
  have e0 : (18446744073709551616 : Nat) = 4294967296 * 4294967296 := by decide
  rw [e0, Nat.mod_mul_right_div_self, Nat.add_mul]
  have e1 : hi * 4294967296 * 2 ^ b = 4294967296 * (hi * 2 ^ b) := by
    rw [Nat.mul_comm hi 4294967296, Nat.mul_assoc]
  rw [e1, Nat.mul_add_div (by decide)]
  refine kx_modAdd (p := 2 ^ b) ?_ ?_
  · refine (Nat.div_lt_iff_lt_mul (by decide)).mpr ?_
    rw [Nat.mul_comm (2 ^ b) 4294967296]
    exact Nat.mul_lt_mul_of_pos_right hlo (Nat.two_pow_pos b)
  · have e2 := kx_two32 (b := b) (by omega)
    have h1 : hi * 2 ^ b % (2 ^ (32 - b) * 2 ^ b) = hi % 2 ^ (32 - b) * 2 ^ b := Nat.mul_mod_mul_right _ _ _
    rw [← e2] at h1
    rw [h1]
    have h3 : hi % 2 ^ (32 - b) + 1 ≤ 2 ^ (32 - b) := Nat.mod_lt _ (Nat.two_pow_pos _)
    have h4 := Nat.mul_le_mul_right (2 ^ b) h3
    rw [← e2, Nat.add_mul, Nat.one_mul] at h4
    exact h4
def kx_shl (d : Nat → Nat) (w b i : Nat) : Nat := (kx_wz d (i + w) * 4294967296 + kx_wz d (i + w + 1)) * 2 ^ b % 18446744073709551616 / 4294967296
/-- digits moved up by w words -/
def kx_sw (a : Nat → Nat) (w j : Nat) : Nat := if w ≤ j then a (j - w) else 0
theorem kx_sw_val (a : Nat → Nat) (w : Nat) : ∀ n : Nat, kx_val (kx_sw a w) (w + n) = kx_val a n * 4294967296 ^ w
  | 0 => by
    have h := kx_trunc (kx_sw a w) 0 w (fun j _ hj => by unfold kx_sw; rw [if_neg (by omega)])
    rw [Nat.zero_add] at h
    rw [Nat.add_zero, h]
    show 0 = 0 * _
    rw [Nat.zero_mul]
  | n + 1 => by
    rw [← Nat.add_assoc, kx_val_s, kx_sw_val a w n, kx_val_s, Nat.add_mul]
    have e : kx_sw a w (w + n) = a n := by
      unfold kx_sw
      rw [if_pos (by omega), Nat.add_sub_cancel_left]
    rw [e, Nat.mul_assoc (a n), ← Nat.pow_add, Nat.add_comm n w]
def kx_shlD (a : Nat → Nat) (b : Nat) : Nat → Nat
  | 0 => a 0 * 2 ^ b % 4294967296
  | j + 1 => a (j + 1) * 2 ^ b % 4294967296 + a j * 2 ^ b / 4294967296
theorem kx_shl_sum (a : Nat → Nat) (b : Nat) : ∀ n : Nat, kx_val (kx_shlD a b) (n + 1) + a n * 2 ^ b / 4294967296 * 4294967296 ^ (n + 1) = 2 ^ b * kx_val a (n + 1)
  | 0 => by
    rw [kx_val_s, kx_val_s]
    show 0 + a 0 * 2 ^ b % 4294967296 * 4294967296 ^ 0 + a 0 * 2 ^ b / 4294967296 * 4294967296 ^ (0 + 1) = 2 ^ b * (0 + a 0 * 4294967296 ^ 0)
    simp only [Nat.zero_add, Nat.pow_one, Nat.pow_zero, Nat.mul_one]
    rw [Nat.mul_comm (2 ^ b)]
    exact Nat.mod_add_div' _ _
  | n + 1 => by
    have ih := kx_shl_sum a b n
    rw [kx_val_s, kx_val_s a (n + 1), Nat.mul_add, ← ih]
    have e : kx_shlD a b (n + 1) = a (n + 1) * 2 ^ b % 4294967296 + a n * 2 ^ b / 4294967296 := rfl
    rw [e]
    have e2 : 2 ^ b * (a (n + 1) * 4294967296 ^ (n + 1)) = a (n + 1) * 2 ^ b * 4294967296 ^ (n + 1) := by
      rw [← Nat.mul_assoc, Nat.mul_comm (2 ^ b)]
    have e3 := Nat.mod_add_div' (a (n + 1) * 2 ^ b) 4294967296
    have e4 : a (n + 1) * 2 ^ b * 4294967296 ^ (n + 1) = a (n + 1) * 2 ^ b % 4294967296 * 4294967296 ^ (n + 1) + a (n + 1) * 2 ^ b / 4294967296 * 4294967296 ^ (n + 1 + 1) := by
      rw [Nat.pow_succ 4294967296 (n + 1), Nat.mul_comm (4294967296 ^ (n + 1)) 4294967296, ← Nat.mul_assoc, ← Nat.add_mul, e3]
    rw [e2, e4, Nat.add_mul]
    omega
theorem kx_shlV {d o : Nat → Nat} {w b : Nat} (hd : ∀ j, d j < 4294967296) (hw : w ≤ 8) (hb : b ≤ 31) (ho : ∀ i, i < 8 → o i = kx_shl d w b i) (hV : kx_V 8 d * (4294967296 ^ w * 2 ^ b) < 4294967296 ^ 8) : kx_V 8 o = kx_V 8 d * (4294967296 ^ w * 2 ^ b) := by
  have h1 : kx_V 8 o = kx_val (kx_shlD (kx_sw (kx_rv 8 d) w) b) 8 := by
    refine kx_ext 8 (fun j hj => ?_)
    have e : kx_rv 8 o j = kx_shl d w b (7 - j) := ho (8 - 1 - j) (by omega)
    rw [e]
    unfold kx_shl
    rw [kx_shl_one (kx_wz_lt hd _) hb]
    have a1 : kx_wz d (7 - j + w) = kx_sw (kx_rv 8 d) w j := by
      unfold kx_wz kx_sw kx_rv
      by_cases h : w ≤ j
      · rw [if_pos (by omega), if_pos h]; congr 1; omega
      · rw [if_neg (by omega), if_neg h]
    match j, hj with
    | 0, _ =>
      have a2 : kx_wz d (7 - 0 + w + 1) = 0 := by unfold kx_wz; rw [if_neg (by omega)]
      rw [a1, a2, Nat.zero_mul, Nat.zero_div]
      rfl
    | j + 1, hj =>
      have a2 : kx_wz d (7 - (j + 1) + w + 1) = kx_sw (kx_rv 8 d) w j := by
        unfold kx_wz kx_sw kx_rv
        by_cases h : w ≤ j
        · rw [if_pos (by omega), if_pos h]; congr 1; omega
        · rw [if_neg (by omega), if_neg h]
      rw [a1, a2]
      rfl
  have h2 := kx_shl_sum (kx_sw (kx_rv 8 d) w) b 7
  have h3 : kx_val (kx_sw (kx_rv 8 d) w) (w + (8 - w)) = kx_val (kx_rv 8 d) (8 - w) * 4294967296 ^ w := kx_sw_val _ w (8 - w)
  rw [show w + (8 - w) = 8 by omega] at h3
  have h4 : kx_V 8 d < 4294967296 ^ (8 - w) := by
    refine Nat.lt_of_mul_lt_mul_right (a := 4294967296 ^ w) ?_
    rw [← Nat.pow_add, show 8 - w + w = 8 by omega]
    refine Nat.lt_of_le_of_lt (Nat.mul_le_mul_left _ ?_) hV
    exact Nat.le_mul_of_pos_right _ (Nat.two_pow_pos b)
  have h5 := kx_trunc (kx_rv 8 d) (8 - w) w (fun j a c => kx_top0 (d := kx_rv 8 d) (N := 8) h4 j a (by omega))
  rw [show 8 - w + w = 8 by omega] at h5
  have h6 : kx_val (kx_rv 8 d) (8 - w) = kx_V 8 d := h5.symm
  rw [show 7 + 1 = 8 from rfl, ← h1, h3, h6] at h2
  have e7 : 2 ^ b * (kx_V 8 d * 4294967296 ^ w) = kx_V 8 d * (4294967296 ^ w * 2 ^ b) := by rw [Nat.mul_comm, Nat.mul_assoc]
  rw [e7] at h2
  rw [← h2] at hV
  rw [← h2]
  generalize kx_sw (kx_rv 8 d) w 7 * 2 ^ b / 4294967296 = c at hV
  rcases Nat.eq_zero_or_pos c with h | h
  · rw [h, Nat.zero_mul, Nat.add_zero]
  · exact absurd hV (Nat.not_lt.mpr (Nat.le_trans (Nat.le_mul_of_pos_left _ h) (Nat.le_add_left _ _)))
def kx_wn (d : Nat → Nat) (i e : Nat) : Nat := if e ≤ i then d (i - e) else 0
theorem kx_wn_lt {d : Nat → Nat} (hd : ∀ j, d j < 4294967296) (i e : Nat) : kx_wn d i e < 4294967296 := by
  unfold kx_wn
  split
  · exact hd _
  · omega
def kx_shr (d : Nat → Nat) (w b i : Nat) : Nat := (kx_wn d i (w + 1) * 4294967296 + kx_wn d i w) / 2 ^ b % 4294967296
theorem kx_shr_one {hi lo b : Nat} (hlo : lo < 4294967296) (hb : b ≤ 31) : (hi * 4294967296 + lo) / 2 ^ b % 4294967296 * 2 ^ b + lo % 2 ^ b = hi % 2 ^ b * 4294967296 + lo := by
  have e2 := kx_two32 (b := b) (by omega)
  have hp := Nat.two_pow_pos b
  have e3 : hi * 4294967296 + lo = lo + hi * 2 ^ (32 - b) * 2 ^ b := by
    rw [Nat.mul_assoc, ← e2, Nat.add_comm]
  have e4 : (hi * 4294967296 + lo) / 2 ^ b = hi * 2 ^ (32 - b) + lo / 2 ^ b := by
    rw [e3, Nat.add_mul_div_right _ _ hp, Nat.add_comm]
  have h1 : hi * 2 ^ (32 - b) % (2 ^ b * 2 ^ (32 - b)) = hi % 2 ^ b * 2 ^ (32 - b) := Nat.mul_mod_mul_right _ _ _
  rw [Nat.mul_comm (2 ^ b) (2 ^ (32 - b)), ← e2] at h1
  have h3 : hi % 2 ^ b + 1 ≤ 2 ^ b := Nat.mod_lt _ hp
  have h4 := Nat.mul_le_mul_right (2 ^ (32 - b)) h3
  rw [Nat.mul_comm (2 ^ b) (2 ^ (32 - b)), ← e2, Nat.add_mul, Nat.one_mul] at h4
  have h5 : lo / 2 ^ b < 2 ^ (32 - b) := by
    refine (Nat.div_lt_iff_lt_mul hp).mpr ?_
    rw [← e2]
    exact hlo
  rw [e4, kx_modAdd (p := 2 ^ (32 - b)) h5 (by rw [h1]; exact h4), h1, Nat.add_mul, Nat.mul_assoc (hi % 2 ^ b), ← e2, Nat.add_assoc]
  congr 1
  rw [Nat.mul_comm, Nat.add_comm]
  exact Nat.mod_add_div _ _
theorem kx_shr_sum {a o : Nat → Nat} {b : Nat} (h : ∀ j, o j * 2 ^ b + a j % 2 ^ b = a (j + 1) % 2 ^ b * 4294967296 + a j) : ∀ n : Nat, kx_val o n * 2 ^ b + a 0 % 2 ^ b = kx_val a n + a n % 2 ^ b * 4294967296 ^ n
  | 0 => by
    show 0 * 2 ^ b + a 0 % 2 ^ b = 0 + a 0 % 2 ^ b * 1
    rw [Nat.zero_mul, Nat.mul_one]
  | n + 1 => by
    have ih := kx_shr_sum h n
    have hn := h n
    rw [kx_val_s, kx_val_s, Nat.add_mul]
    have e1 : o n * 4294967296 ^ n * 2 ^ b = o n * 2 ^ b * 4294967296 ^ n := by rw [Nat.mul_assoc, Nat.mul_comm (4294967296 ^ n), ← Nat.mul_assoc]
    have e2 : (o n * 2 ^ b + a n % 2 ^ b) * 4294967296 ^ n = (a (n + 1) % 2 ^ b * 4294967296 + a n) * 4294967296 ^ n := by rw [hn]
    rw [Nat.add_mul, Nat.add_mul] at e2
    have e3 : a (n + 1) % 2 ^ b * 4294967296 * 4294967296 ^ n = a (n + 1) % 2 ^ b * 4294967296 ^ (n + 1) := by rw [Nat.pow_succ, Nat.mul_assoc, Nat.mul_comm 4294967296 (4294967296 ^ n)]
    rw [e1]
    omega
theorem kx_splt (a : Nat → Nat) (w : Nat) : ∀ n : Nat, kx_val a (w + n) = kx_val a w + 4294967296 ^ w * kx_val (fun j => a (j + w)) n
  | 0 => by
    rw [Nat.add_zero]
    show _ = _ + _ * 0
    rw [Nat.mul_zero, Nat.add_zero]
  | n + 1 => by
    rw [← Nat.add_assoc, kx_val_s, kx_splt a w n, kx_val_s, Nat.mul_add, Nat.add_assoc]
    congr 2
    show a (w + n) * _ = 4294967296 ^ w * (a (n + w) * 4294967296 ^ n)
    rw [Nat.pow_add, Nat.add_comm n w, Nat.mul_left_comm]
theorem kx_divLow {l m T : Nat} (h : l < m) : (l + m * T) / m = T := by
  rw [Nat.add_mul_div_left _ _ (by omega), Nat.div_eq_of_lt h, Nat.zero_add]
theorem kx_shrV {d o : Nat → Nat} {w b R : Nat} (hd : ∀ j, d j < 4294967296) (hw : w ≤ 8) (hb : b ≤ 31) (ho : ∀ i, i < 8 → o i = kx_shr d w b i) (hV : kx_V 8 d = R * (4294967296 ^ w * 2 ^ b)) : kx_V 8 o = R := by
  have hp := Nat.two_pow_pos b
  obtain ⟨a, ha⟩ : ∃ a : Nat → Nat, a = fun j => if j + w < 8 then kx_rv 8 d (j + w) else 0 := ⟨_, rfl⟩
  have hal : ∀ j, a j < 4294967296 := fun j => by rw [ha]; dsimp only; split; exact hd _; omega
  have h1 : kx_V 8 o = kx_val (fun j => (a (j + 1) * 4294967296 + a j) / 2 ^ b % 4294967296) 8 := by
    refine kx_ext 8 (fun j hj => ?_)
    have e : kx_rv 8 o j = kx_shr d w b (7 - j) := ho (8 - 1 - j) (by omega)
    rw [e]
    unfold kx_shr
    have a1 : kx_wn d (7 - j) w = a j := by
      rw [ha]
      unfold kx_wn kx_rv
      dsimp only
      by_cases h : j + w < 8
      · rw [if_pos (by omega), if_pos h]; congr 1; omega
      · rw [if_neg (by omega), if_neg h]
    have a2 : kx_wn d (7 - j) (w + 1) = a (j + 1) := by
      rw [ha]
      unfold kx_wn kx_rv
      dsimp only
      by_cases h : j + 1 + w < 8
      · rw [if_pos (by omega), if_pos h]; congr 1; omega
      · rw [if_neg (by omega), if_neg h]
    rw [a1, a2]
  have h2 := kx_shr_sum (a := a) (o := fun j => (a (j + 1) * 4294967296 + a j) / 2 ^ b % 4294967296) (b := b) (fun j => kx_shr_one (hal j) hb) 8
  have h8 : a 8 = 0 := by rw [ha]; dsimp only; rw [if_neg (by omega)]
  rw [← h1, h8, Nat.zero_mod, Nat.zero_mul, Nat.add_zero] at h2
  have h3 := kx_trunc a (8 - w) w (fun j x y => by rw [ha]; dsimp only; rw [if_neg (by omega)])
  rw [show 8 - w + w = 8 by omega] at h3
  have h4 : kx_val a (8 - w) = kx_val (fun j => kx_rv 8 d (j + w)) (8 - w) := kx_ext _ (fun j hj => by rw [ha]; dsimp only; rw [if_pos (by omega)])
  have h5 := kx_splt (kx_rv 8 d) w (8 - w)
  rw [show w + (8 - w) = 8 by omega, ← h4, ← h3] at h5
  have h6 : kx_V 8 d / 4294967296 ^ w = kx_val a 8 := by
    have e : kx_V 8 d = kx_val (kx_rv 8 d) w + 4294967296 ^ w * kx_val a 8 := h5
    rw [e]
    exact kx_divLow (kx_lt (kx_rv_lt hd 8) w)
  have h7 : kx_val a 8 = R * 2 ^ b := by
    rw [← h6, hV, Nat.mul_comm (4294967296 ^ w) (2 ^ b), ← Nat.mul_assoc]
    exact Nat.mul_div_cancel _ (Nat.pow_pos (by decide))
  rw [h7, Nat.mul_comm] at h2
  have h9 : (a 0 % 2 ^ b + 2 ^ b * kx_V 8 o) / 2 ^ b = kx_V 8 o := kx_divLow (Nat.mod_lt _ hp)
  rw [← h9, Nat.add_comm, h2]
  exact Nat.mul_div_cancel _ hp
theorem kx_bitLow {y m : Nat} (hm : m ≤ 31) : y % 4294967296 / 2 ^ m % 2 = y / 2 ^ m % 2 := by
  have hp := Nat.two_pow_pos m
  have e : y = y % 4294967296 + y / 4294967296 * 2 ^ (31 - m) * 2 * 2 ^ m := by
    have e2 : 2 ^ (31 - m) * 2 * 2 ^ m = (4294967296 : Nat) := by
      rw [← Nat.pow_succ, ← Nat.pow_add, show 31 - m + 1 + m = 32 by omega]
    have e3 := Nat.mod_add_div' y 4294967296
    rw [Nat.mul_assoc, Nat.mul_assoc, ← Nat.mul_assoc (2 ^ (31 - m)), e2]
    exact e3.symm
  have h : y / 2 ^ m = y % 4294967296 / 2 ^ m + y / 4294967296 * 2 ^ (31 - m) * 2 := by
    have h1 : y / 2 ^ m = (y % 4294967296 + y / 4294967296 * 2 ^ (31 - m) * 2 * 2 ^ m) / 2 ^ m := congrArg (· / 2 ^ m) e
    rw [h1, Nat.add_mul_div_right _ _ hp]
  rw [h, Nat.add_mul_mod_self_right]
theorem kx_bit {d : Nat → Nat} (hd : ∀ j, d j < 4294967296) {t : Nat} (ht : t < 256) : kx_V 8 d / 2 ^ (255 - t) % 2 = d (t / 32) / 2 ^ (31 - t % 32) % 2 := by
  have e : 2 ^ (255 - t) = (4294967296 : Nat) ^ (7 - t / 32) * 2 ^ (31 - t % 32) := by
    rw [show (4294967296 : Nat) = 2 ^ 32 by decide, ← Nat.pow_mul, ← Nat.pow_add]
    congr 1
    omega
  rw [e, ← Nat.div_div_eq_div_mul, ← kx_bitLow (by omega), kx_word hd (by omega)]
theorem kx_lzStep {V t : Nat} (ht : t < 256) (h : V / 2 ^ (256 - t) = 0) (hb : V / 2 ^ (255 - t) % 2 = 0) : V / 2 ^ (256 - (t + 1)) = 0 := by
  rw [show 256 - (t + 1) = 255 - t by omega]
  rw [show 256 - t = 255 - t + 1 by omega, Nat.pow_succ, ← Nat.div_div_eq_div_mul] at h
  omega
theorem kx_guess {x0 x1 r s0 s1 p X S h : Nat} (hX : X = (x0 * 4294967296 + x1) * p + r) (hr : r < p) (hS : S = s0 * p + s1) (hs1 : s1 < p) (h31 : 2147483648 ≤ s0) (hq : X < S * 4294967296) (hh : h ≤ 4294967295)
    (h1 : h * s0 ≤ x0 * 4294967296 + x1) (h2 : h = 4294967295 ∨ x0 * 4294967296 + x1 < (h + 1) * s0) : X / S ≤ h ∧ h ≤ X / S + 2 := by
  have hSp : 0 < S := by
    rw [hS]
    exact Nat.lt_of_lt_of_le (Nat.mul_pos (by omega) (by omega)) (Nat.le_add_right _ _)
  constructor
  · rcases h2 with h2 | h2
    · have h3 : X / S < 4294967296 := Nat.div_lt_of_lt_mul hq
      omega
    · have h3 : X < S * (h + 1) := by
        have a1 : X < (x0 * 4294967296 + x1 + 1) * p := by rw [hX, Nat.add_mul _ 1, Nat.one_mul]; omega
        have a2 : (x0 * 4294967296 + x1 + 1) * p ≤ (h + 1) * s0 * p := Nat.mul_le_mul_right p h2
        have a3 : (h + 1) * s0 * p ≤ S * (h + 1) := by
          rw [hS, Nat.mul_assoc, Nat.mul_comm (h + 1)]
          exact Nat.mul_le_mul_right _ (Nat.le_add_right _ _)
        omega
      exact Nat.le_of_lt_succ (Nat.div_lt_of_lt_mul h3)
  · refine Nat.le_of_not_lt (fun h9 => ?_)
    have a1 : X < S * (X / S + 1) := Nat.lt_mul_div_succ X hSp
    generalize X / S = q at *
    have a2 : h * s0 * p ≤ X := by
      rw [hX]
      exact Nat.le_trans (Nat.mul_le_mul_right p h1) (Nat.le_add_right _ _)
    have a3 : S * (q + 1) ≤ (s0 + 1) * (q + 1) * p := by
      rw [Nat.mul_assoc, Nat.mul_comm (q + 1) p, ← Nat.mul_assoc]
      refine Nat.mul_le_mul_right _ ?_
      rw [hS, Nat.add_mul, Nat.one_mul]
      omega
    have a4 : h * s0 < (s0 + 1) * (q + 1) := Nat.lt_of_mul_lt_mul_right (a := p) (by omega)
    have a5 : (q + 3) * s0 ≤ h * s0 := Nat.mul_le_mul_right s0 (by omega)
    rw [Nat.add_mul] at a5
    rw [Nat.add_mul, Nat.one_mul, Nat.mul_add, Nat.mul_one, Nat.mul_comm s0 q] at a4
    omega
