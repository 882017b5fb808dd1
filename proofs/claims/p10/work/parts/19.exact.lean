/-! EXACT: figures in an array, longs by an integer -/
def kz_dg (d : Nat → Nat) : Nat → Int32 := fun j => nI (d j)
theorem kz_dgl (d : Nat → Nat) {k : Nat} (h : k < 2 ^ 31) : kz_dg d (nI k).toNatClampNeg = nI (d k) := by rw [nI_clamp h]; rfl
theorem kz_dgu (d : Nat → Nat) {k : Nat} (v : Nat) (h : k < 2 ^ 31) : upd (kz_dg d) (nI k).toNatClampNeg (nI v) = kz_dg (kv_up d k v) := by
  rw [nI_clamp h]
  funext j
  unfold upd kz_dg kv_up
  split <;> rfl
def kz_lz (z : Int) : Int64 := Int64.ofInt z
theorem kz_lz_add (a b : Int) : kz_lz a + kz_lz b = kz_lz (a + b) := (Int64.ofInt_add a b).symm
theorem kz_lz_sub (a b : Int) : kz_lz a - kz_lz b = kz_lz (a - b) := (Int64.ofInt_sub a b).symm
theorem kz_lz_mul (a b : Int) : kz_lz a * kz_lz b = kz_lz (a * b) := (Int64.ofInt_mul a b).symm
theorem kz_lz_n (n : Nat) : lN n = kz_lz (n : Int) := Int64.ofInt_eq_ofNat.symm
theorem kz_lz_i {n : Nat} (h : n < 2 ^ 31) : (nI n).toInt64 = kz_lz (n : Int) := (nI_l h).trans (kz_lz_n n)
theorem kz_lz_int {z : Int} (h1 : -2 ^ 63 ≤ z) (h2 : z < 2 ^ 63) : (kz_lz z).toInt = z := Int64.toInt_ofInt_of_le h1 h2
theorem kz_lz_lt {a b : Int} (a1 : -2 ^ 63 ≤ a) (a2 : a < 2 ^ 63) (b1 : -2 ^ 63 ≤ b) (b2 : b < 2 ^ 63) : kz_lz a < kz_lz b ↔ a < b := by
  rw [Int64.lt_iff_toInt_lt, kz_lz_int a1 a2, kz_lz_int b1 b2]
theorem kz_lz_eq {a b : Int} (a1 : -2 ^ 63 ≤ a) (a2 : a < 2 ^ 63) (b1 : -2 ^ 63 ≤ b) (b2 : b < 2 ^ 63) : kz_lz a = kz_lz b ↔ a = b := by
  rw [← Int64.toInt_inj, kz_lz_int a1 a2, kz_lz_int b1 b2]
theorem kz_lz_and (z : Int) : kz_lz z &&& 65535 = kz_lz (z % 65536) := by
  apply Int64.toBitVec_inj.mp
  show BitVec.ofInt 64 z &&& 65535#64 = BitVec.ofInt 64 (z % 65536)
  apply BitVec.eq_of_toNat_eq
  rw [BitVec.toNat_and, BitVec.toNat_ofInt, BitVec.toNat_ofInt]
  have h : (65535#64).toNat = 2 ^ 16 - 1 := rfl
  rw [h, Nat.and_two_pow_sub_one_eq_mod]
  omega
theorem kz_lz_and2 (z : Int) : ∃ n : Nat, n < 65536 ∧ (n : Int) = z % 65536 ∧ (kz_lz z &&& 65535).toInt32 = nI n := by
  refine ⟨(z % 65536).toNat, by omega, by omega, ?_⟩
  rw [kz_lz_and]
  show (Int64.ofInt (z % 65536)).toInt32 = Int32.ofNat _
  rw [Int64.toInt32_ofInt, ← Int32.ofInt_eq_ofNat]
  congr 1
  omega
theorem kz_lz_shr {z : Int} (h1 : -2 ^ 63 ≤ z) (h2 : z < 2 ^ 63) : kz_lz z >>> ((nI 16).toInt64 &&& 63) = kz_lz (z / 65536) := by
  apply Int64.toInt_inj.mp
  rw [kz_lz_int (z := z / 65536) (by omega) (by omega)]
  have e : kz_lz z >>> ((nI 16).toInt64 &&& 63) = Int64.ofBitVec ((kz_lz z).toBitVec.sshiftRight 16) := rfl
  rw [e]
  show ((kz_lz z).toBitVec.sshiftRight 16).toInt = _
  rw [BitVec.toInt_sshiftRight]
  have h3 : (kz_lz z).toBitVec.toInt = z := kz_lz_int h1 h2
  rw [h3, Int.shiftRight_eq_div_pow]
  rfl
theorem kz_lz_div {a b : Nat} (ha : a < 2 ^ 63) (h0 : 0 < b) (hb : b < 2 ^ 63) : kz_lz (a : Int) / kz_lz (b : Int) = kz_lz ((a / b : Nat) : Int) := by
  rw [← kz_lz_n, ← kz_lz_n, ← kz_lz_n]
  exact pk_lDiv ha h0 hb
theorem kz_lz_rem {a b : Nat} (ha : a < 2 ^ 63) (h0 : 0 < b) (hb : b < 2 ^ 63) : kz_lz (a : Int) - kz_lz (a : Int) / kz_lz (b : Int) * kz_lz (b : Int) = kz_lz ((a % b : Nat) : Int) := by
  rw [← kz_lz_n, ← kz_lz_n, ← kz_lz_n]
  exact pk_lRem ha h0 hb
/-! words of 32 bits and their two figures -/
theorem kz_u (x : Int32) : x = nI x.toUInt32.toNat := by
  apply Int32.toBitVec_inj.mp
  apply BitVec.eq_of_toNat_eq
  show x.toBitVec.toNat = (BitVec.ofNat 32 x.toUInt32.toNat).toNat
  rw [BitVec.toNat_ofNat]
  have h := x.toBitVec.isLt
  show x.toBitVec.toNat = x.toBitVec.toNat % 2 ^ 32
  omega
theorem kz_ult (x : Int32) : x.toUInt32.toNat < 4294967296 := x.toUInt32.toNat_lt
theorem kz_un {n : Nat} (h : n < 4294967296) : (nI n).toUInt32.toNat = n := by
  show (BitVec.ofNat 32 n).toNat = n
  rw [BitVec.toNat_ofNat]
  omega
theorem kz_and16i (x : Int32) : x &&& 65535 = nI (x.toUInt32.toNat % 65536) := by
  apply Int32.toBitVec_inj.mp
  apply BitVec.eq_of_toNat_eq
  show (x.toBitVec &&& 65535#32).toNat = (BitVec.ofNat 32 (x.toBitVec.toNat % 65536)).toNat
  have h : (65535#32).toNat = 2 ^ 16 - 1 := rfl
  rw [BitVec.toNat_and, h, Nat.and_two_pow_sub_one_eq_mod, BitVec.toNat_ofNat]
  omega
theorem kz_ushr16i (x : Int32) : (x.toUInt32 >>> ((nI 16).toUInt32 &&& Int32.toUInt32 31)).toInt32 = nI (x.toUInt32.toNat / 65536) := by
  apply Int32.toBitVec_inj.mp
  apply BitVec.eq_of_toNat_eq
  have e : (x.toUInt32 >>> ((nI 16).toUInt32 &&& Int32.toUInt32 31)).toInt32.toBitVec = x.toBitVec >>> 16 := rfl
  rw [e, BitVec.toNat_ushiftRight, Nat.shiftRight_eq_div_pow]
  show x.toBitVec.toNat / 2 ^ 16 = (BitVec.ofNat 32 (x.toBitVec.toNat / 65536)).toNat
  rw [BitVec.toNat_ofNat]
  have h := x.toBitVec.isLt
  omega
/-- the figure j of the eight words from fr on -/
def kv_fig (w : Nat → Int32) (fr j : Nat) : Nat := if j % 2 = 0 then (w (fr + 7 - j / 2)).toUInt32.toNat % 65536 else (w (fr + 7 - j / 2)).toUInt32.toNat / 65536
theorem kv_fig_lt (w : Nat → Int32) (fr j : Nat) : kv_fig w fr j < 65536 := by
  unfold kv_fig
  have h := kz_ult (w (fr + 7 - j / 2))
  split <;> omega
theorem kv_fill {d F : Nat → Nat} {k v : Nat} (h : ∀ j, j < k → d j = F j) (hv : v = F k) : ∀ j, j < k + 1 → kv_up d k v j = F j := by
  intro j hj
  by_cases e : j = k
  · subst e; rw [kv_up_eq]; exact hv
  · rw [kv_up_ne d v e]; exact h j (by omega)
theorem kz_lz_c0 : (0 : Int64) = kz_lz 0 := by decide
theorem kz_lz_c1 : (1 : Int64) = kz_lz 1 := by decide
theorem kz_lz_c65535 : (65535 : Int64) = kz_lz 65535 := by decide
theorem kz_lz_c65536 : (65536 : Int64) = kz_lz 65536 := by decide
theorem kz_lz_c65537 : (65537 : Int64) = kz_lz 65537 := by decide
theorem kz_lz_andz (z : Int) : kz_lz z &&& kz_lz 65535 = kz_lz (z % 65536) := by rw [← kz_lz_c65535]; exact kz_lz_and z
theorem kz_lz_in {z : Int} (h : 0 ≤ z) : (kz_lz z).toInt32 = nI z.toNat := by
  show (Int64.ofInt z).toInt32 = Int32.ofNat _
  rw [Int64.toInt32_ofInt, ← Int32.ofInt_eq_ofNat]
  congr 1
  omega
theorem kz_lz_i16 (z : Int) : (kz_lz (z % 65536)).toInt32 = nI (z % 65536).toNat := kz_lz_in (by omega)
theorem kz_lz_ne0 {b : Int} (h0 : 0 < b) (hb : b < 2 ^ 63) : ¬ kz_lz b = 0 := by
  rw [kz_lz_c0, kz_lz_eq (by omega) hb (by omega) (by omega)]
  omega
theorem kz_lz_divz {a b : Int} (h1 : 0 ≤ a) (h2 : a < 2 ^ 63) (h3 : 0 < b) (h4 : b < 2 ^ 63) : kz_lz a / kz_lz b = kz_lz (a / b) := by
  obtain ⟨n, rfl⟩ : ∃ n : Nat, a = (n : Int) := ⟨a.toNat, by omega⟩
  obtain ⟨k, rfl⟩ : ∃ n : Nat, b = (n : Int) := ⟨b.toNat, by omega⟩
  rw [kz_lz_div (by omega) (by omega) (by omega), Int.natCast_ediv]
theorem kz_lz_remz {a b : Int} (h1 : 0 ≤ a) (h2 : a < 2 ^ 63) (h3 : 0 < b) (h4 : b < 2 ^ 63) : kz_lz a - kz_lz a / kz_lz b * kz_lz b = kz_lz (a % b) := by
  obtain ⟨n, rfl⟩ : ∃ n : Nat, a = (n : Int) := ⟨a.toNat, by omega⟩
  obtain ⟨k, rfl⟩ : ∃ n : Nat, b = (n : Int) := ⟨b.toNat, by omega⟩
  rw [kz_lz_rem (by omega) (by omega) (by omega), Int.natCast_emod]
theorem kz_shl16 (a : Nat) : nI a <<< nI 16 = nI (a * 65536) := by
  apply Int32.toBitVec_inj.mp
  apply BitVec.eq_of_toNat_eq
  have e : (nI a <<< nI 16).toBitVec = (nI a).toBitVec <<< 16 := rfl
  rw [e, BitVec.toNat_shiftLeft, Nat.shiftLeft_eq]
  show ((BitVec.ofNat 32 a).toNat * 2 ^ 16) % 2 ^ 32 = (BitVec.ofNat 32 (a * 65536)).toNat
  rw [BitVec.toNat_ofNat, BitVec.toNat_ofNat]
  omega
theorem kz_or16 {a b : Nat} (hb : b < 65536) : nI (a * 65536) ||| nI b = nI (a * 65536 + b) := by
  apply Int32.toBitVec_inj.mp
  apply BitVec.eq_of_toNat_eq
  show (BitVec.ofNat 32 (a * 65536) ||| BitVec.ofNat 32 b).toNat = (BitVec.ofNat 32 (a * 65536 + b)).toNat
  rw [BitVec.toNat_or, BitVec.toNat_ofNat, BitVec.toNat_ofNat, BitVec.toNat_ofNat]
  have h32 : (2 : Nat) ^ 32 = 4294967296 := by decide
  rw [h32]
  have e1 : a * 65536 % 4294967296 = 65536 * (a % 65536) := by omega
  have e2 : b % 4294967296 = b := by omega
  have e3 : (a * 65536 + b) % 4294967296 = 65536 * (a % 65536) + b := by
    have h1 := Nat.mod_lt a (show 65536 > 0 by omega)
    rw [Nat.add_mod, e1, e2]
    exact Nat.mod_eq_of_lt (by omega)
  rw [e1, e2, e3]
  exact (Nat.two_pow_add_eq_or_of_lt (i := 16) hb (a % 65536)).symm
theorem kz_fillw {f : Nat → Int32} {F : Nat → Int32} {a k : Nat} {v : Int32} (h : ∀ i, i < k → f (a + i) = F i) (hv : v = F k) : ∀ i, i < k + 1 → upd f (a + k) v (a + i) = F i := by
  intro i hi
  unfold upd
  by_cases e : i = k
  · subst e; rw [if_pos rfl]; exact hv
  · rw [if_neg (by omega)]; exact h i (by omega)
theorem kz_keepw {f g : Nat → Int32} {a k : Nat} {v : Int32} (hk : k < 8) (h : ∀ j, (j < a ∨ a + 8 ≤ j) → f j = g j) : ∀ j, (j < a ∨ a + 8 ≤ j) → upd f (a + k) v j = g j := by
  intro j hj
  unfold upd
  rw [if_neg (by omega)]
  exact h j hj
theorem kz_nle {x y : Int32} (h : x < y) (h2 : y ≤ x) : False := by
  rw [Int32.lt_iff_toInt_lt] at h
  rw [Int32.le_iff_toInt_le] at h2
  omega
/-- m's sixteen figures as eighteen -/
def kv_m18 (d : Nat → Nat) : Nat → Nat := fun j => if j < 16 then d j else 0
theorem kv_m18_lt {d : Nat → Nat} (hd : ∀ j, d j < 65536) : ∀ j, kv_m18 d j < 65536 := by
  intro j
  unfold kv_m18
  have h := hd j
  split <;> omega
theorem kv_m18_val (d : Nat → Nat) : kv_val (kv_m18 d) 18 = kv_val d 16 := by
  have h := kv_trunc (kv_m18 d) 16 2 (fun j a b => by unfold kv_m18; rw [if_neg (by omega)])
  exact h.trans (kv_ext 16 (fun j hj => by unfold kv_m18; rw [if_pos hj]))
/-- a figure that is not 0, from a on below n (a word of its own, so that omega leaves it alone) -/
def kv_some (d : Nat → Nat) (a n : Nat) : Prop := ∃ j, a ≤ j ∧ j < n ∧ 0 < d j
/-- a flag that is down, or P -/
def kv_flag (c : Nat) (P : Prop) : Prop := c = 0 ∨ P
theorem kv_some_val {d : Nat → Nat} {n : Nat} (h : kv_some d 0 n) : 0 < kv_val d n := by
  obtain ⟨j, -, h1, h2⟩ := h
  exact kv_pos h2 n h1
theorem kv_some_ext {d e : Nat → Nat} {a n : Nat} (h : ∀ j, j < n → e j = d j) (hs : kv_some d a n) : kv_some e a n := by
  obtain ⟨j, h1, h2, h3⟩ := hs
  exact ⟨j, h1, h2, by rw [h j h2]; exact h3⟩
theorem kv_some_of {d : Nat → Nat} {n : Nat} (h : 0 < kv_val d n) : kv_some d 0 n := by
  obtain ⟨k, h1, h2⟩ := kv_nz n h
  exact ⟨k, Nat.zero_le k, h1, h2⟩
theorem kv_flag_of {c : Nat} {P : Prop} (h : kv_flag c P) (hc : c ≠ 0) : P := h.elim (fun q => absurd q hc) id
