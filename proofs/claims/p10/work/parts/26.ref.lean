/-! REFERENCE: bits of a row of figures, rests, powers -/
theorem kv_split (f : Nat → Nat) (k : Nat) : ∀ m : Nat, kv_val f (k + m) = kv_val f k + 65536 ^ k * kv_val (fun j => f (k + j)) m
  | 0 => rfl
  | m + 1 => by
    have e : kv_val f (k + (m + 1)) = kv_val f (k + m) + f (k + m) * 65536 ^ (k + m) := rfl
    rw [e, kv_split f k m, kv_val_s, Nat.mul_add, Nat.pow_add, Nat.mul_left_comm (65536 ^ k) (f (k + m))]
    omega
theorem kv_digAt {f : Nat → Nat} (hf : ∀ j, f j < 65536) {k n : Nat} (hk : k < n) : kv_val f n / 65536 ^ k % 65536 = f k := by
  obtain ⟨m, rfl⟩ : ∃ m, n = k + (m + 1) := ⟨n - k - 1, by omega⟩
  have h1 := kv_lt hf k
  have h0 : 0 < 65536 ^ k := Nat.pow_pos (by omega)
  rw [kv_split, Nat.add_mul_div_left _ _ h0, Nat.div_eq_of_lt h1, Nat.zero_add, kv_low]
  have h2 := hf (k + 0)
  show (f (k + 0) + 65536 * kv_val (fun j => f (k + (j + 1))) m) % 65536 = f k
  rw [Nat.add_zero] at h2 ⊢
  omega
theorem kv_bitLow {y m : Nat} (hm : m ≤ 15) : y % 65536 / 2 ^ m % 2 = y / 2 ^ m % 2 := by
  have hp := Nat.two_pow_pos m
  have e : y = y % 65536 + y / 65536 * 2 ^ (15 - m) * 2 * 2 ^ m := by
    have e2 : 2 ^ (15 - m) * 2 * 2 ^ m = (65536 : Nat) := by
      rw [← Nat.pow_succ, ← Nat.pow_add, show 15 - m + 1 + m = 16 by omega]
    have e3 := Nat.mod_add_div' y 65536
    rw [Nat.mul_assoc, Nat.mul_assoc, ← Nat.mul_assoc (2 ^ (15 - m)), e2]
    exact e3.symm
  have h : y / 2 ^ m = y % 65536 / 2 ^ m + y / 65536 * 2 ^ (15 - m) * 2 := by
    have h1 : y / 2 ^ m = (y % 65536 + y / 65536 * 2 ^ (15 - m) * 2 * 2 ^ m) / 2 ^ m := congrArg (· / 2 ^ m) e
    rw [h1, Nat.add_mul_div_right _ _ hp]
  rw [h, Nat.add_mul_mod_self_right]
theorem kv_bit {d : Nat → Nat} (hd : ∀ j, d j < 65536) {t : Nat} (ht : t < 256) : kv_val d 16 / 2 ^ t % 2 = d (t / 16) / 2 ^ (t % 16) % 2 := by
  have e : 2 ^ t = (65536 : Nat) ^ (t / 16) * 2 ^ (t % 16) := by
    rw [show (65536 : Nat) = 2 ^ 16 by decide, ← Nat.pow_mul, ← Nat.pow_add]
    congr 1
    omega
  rw [e, ← Nat.div_div_eq_div_mul, ← kv_bitLow (by omega), kv_digAt hd (by omega)]
theorem kv_powBit {V k : Nat} : V / 2 ^ k = V / 2 ^ (k + 1) + V / 2 ^ (k + 1) + V / 2 ^ k % 2 := by
  rw [Nat.pow_succ, ← Nat.div_div_eq_div_mul]
  generalize V / 2 ^ k = x
  omega
theorem kv_pow0 {g E k M r s : Nat} (hr : r = g ^ (E / 2 ^ (k + 1)) % M) (hs : s = r * r % M) (hb : E / 2 ^ k % 2 = 0) : s = g ^ (E / 2 ^ k) % M := by
  have h := kv_powBit (V := E) (k := k)
  rw [hb, Nat.add_zero] at h
  rw [h, Nat.pow_add, hs, hr, ← Nat.mul_mod]
theorem kv_pow1 {g E k M r s t : Nat} (hr : r = g ^ (E / 2 ^ (k + 1)) % M) (hs : s = r * r % M) (ht : t = s * g % M) (hb : E / 2 ^ k % 2 = 1) : t = g ^ (E / 2 ^ k) % M := by
  have h := kv_powBit (V := E) (k := k)
  rw [hb] at h
  rw [h, Nat.pow_succ, Nat.pow_add, ht, hs, hr, ← Nat.mul_mod, Nat.mod_mul_mod]
theorem kv_powTop {d : Nat → Nat} (hd : ∀ j, d j < 65536) : kv_val d 16 / 2 ^ 256 = 0 := by
  refine Nat.div_eq_of_lt ?_
  have h := kv_lt hd 16
  have e : (65536 : Nat) ^ 16 = 2 ^ 256 := by rw [show (65536 : Nat) = 2 ^ 16 by decide, ← Nat.pow_mul]
  rw [e] at h
  exact h
theorem kv_powStart {g E r M one : Nat} {d : Nat → Nat} (hd : ∀ j, d j < 65536) (hE : E = kv_val d 16) (h1 : one = 1) (hr : r = one % M) : r = g ^ (E / 2 ^ 256) % M := by
  rw [hE, kv_powTop hd, Nat.pow_zero, hr, h1]
theorem kv_powEnd {g E r M : Nat} (hr : r = g ^ (E / 2 ^ 0) % M) : r = g ^ E % M := by
  rw [Nat.pow_zero, Nat.div_one] at hr
  exact hr
theorem kv_oneV {x : Nat → Nat} (h0 : x 0 = 1) (h : ∀ j, 0 < j → j < 32 → x j = 0) : kv_val x 32 = 1 := by
  have h1 := kv_trunc x 1 31 (fun j a b => h j a (by omega))
  have e1 : kv_val x 1 = x 0 := by
    rw [kv_val_s]
    show 0 + x 0 * 65536 ^ 0 = x 0
    omega
  exact (h1.trans e1).trans h0
/-! remain -/
theorem kv_subExact {g r z : Nat → Nat} {c : Int} {q : Nat} (hg : ∀ j, g j < 65536) (hr : ∀ j, r j < 65536) (hle : q * kv_val z 18 ≤ kv_val r 18)
    (hI : (kv_val g 18 : Int) + c * (65536 : Int) ^ 18 = (kv_val r 18 : Int) - (q : Int) * (kv_val z 18 : Int)) : kv_val g 18 + q * kv_val z 18 = kv_val r 18 := by
  have h1 := kv_lt hg 18
  have h2 := kv_lt hr 18
  have h4 : (q : Int) * (kv_val z 18 : Int) = ((q * kv_val z 18 : Nat) : Int) := (Int.natCast_mul _ _).symm
  rw [h4] at hI
  generalize q * kv_val z 18 = M at hle hI ⊢
  generalize kv_val g 18 = a at h1 hI ⊢
  generalize kv_val r 18 = b at h2 hle hI ⊢
  omega
theorem kv_rest0 {e : Nat → Nat} {X M : Nat} (hX : X = 0) (h : ∀ j, j < 18 → e j = 0) : kv_val e 18 = X % M := by
  have h1 := kv_trunc e 0 18 (fun j _ b => h j (by omega))
  rw [hX, Nat.zero_mod]
  exact h1
theorem kv_shift {e z x : Nat → Nat} {k M v : Nat} (hk : k < 32) (hv : v = x k) (hz : kv_val z 18 = kv_hiN 32 x (k + 1) % M) (hM : 0 < M) (hMl : M < 65536 ^ 16) (h1 : ∀ j, 0 < j → j < 18 → e j = z (j - 1)) : kv_val (kv_up e 0 v) 18 % M = kv_hiN 32 x k % M := by
  have h2 : kv_val z 18 < 65536 ^ 16 := by
    rw [hz]
    exact Nat.lt_trans (Nat.mod_lt _ hM) hMl
  have h3 := kv_top0 (d := z) (N := 18) h2 17 (by omega) (by omega)
  have e1 : kv_val (kv_up e 0 v) 18 = v + 65536 * kv_val (fun j => kv_up e 0 v (j + 1)) 17 := by
    rw [kv_low, kv_up_eq]
  have e2 : kv_val (fun j => kv_up e 0 v (j + 1)) 17 = kv_val z 17 := kv_ext 17 (fun j hj => by
    rw [kv_up_ne e v (by omega), h1 (j + 1) (by omega) (by omega)]
    congr 1)
  have e3 : kv_val z 18 = kv_val z 17 := by
    rw [kv_val_s, h3, Nat.zero_mul, Nat.add_zero]
  rw [e1, e2, ← e3, hz, hv, kv_hiN_s x hk, Nat.add_mod, Nat.mul_mod, Nat.mod_mod, ← Nat.mul_mod, ← Nat.add_mod]
theorem kv_lessMod {X h M : Nat} (hl : X < M) (hm : X % M = h % M) : X = h % M := by
  rw [← hm, Nat.mod_eq_of_lt hl]
theorem kv_takeMod {X Y q M h : Nat} (he : X + q * M = Y) (hm : Y % M = h % M) : X % M = h % M := by
  rw [← hm, ← he, Nat.add_mul_mod_self_right]
theorem kv_remEnd {t e x : Nat → Nat} {M : Nat} (hM : 0 < M) (hMl : M < 65536 ^ 16) (hR : kv_val e 18 = kv_hiN 32 x 0 % M) (ht : ∀ j, j < 16 → t j = e j) : kv_val t 16 = kv_val x 32 % M := by
  have h2 : kv_val e 18 < 65536 ^ 16 := by
    rw [hR]
    exact Nat.lt_trans (Nat.mod_lt _ hM) hMl
  have h3 := kv_trunc e 16 2 (fun j a b => kv_top0 (d := e) (N := 18) h2 j a (by omega))
  rw [kv_hiN_0] at hR
  rw [kv_ext 16 ht, ← h3]
  exact hR
/-! D, as it is copied -/
theorem kx_isD_lt {P Q D : Nat} (hf : kx_fit P Q) (h : kx_isD P Q D) : D ≤ (P - 1) * (Q - 1) := by
  obtain ⟨q, h1, -, h3⟩ := h
  obtain ⟨f1, f2, -⟩ := hf
  have h4 : 1 ≤ (P - 1) * (Q - 1) := Nat.mul_pos (by omega) (by omega)
  have h5 : q * ((P - 1) * (Q - 1)) ≤ 65536 * ((P - 1) * (Q - 1)) := Nat.mul_le_mul_right _ (by omega)
  generalize (P - 1) * (Q - 1) = M at h3 h4 h5 ⊢
  generalize q * M = X at h3 h5
  omega
theorem kv_copyD {s w : Nat → Nat} {P Q : Nat} (hf : kx_fit P Q) (hD : kx_isD P Q (kv_val s 18)) (hP : P < 65536 ^ 8) (hQ : Q < 65536 ^ 8) (hc : ∀ j, j < 16 → w j = s j) : kv_val w 16 = kv_val s 18 := by
  have h1 := kx_isD_lt hf hD
  have h2 : (P - 1) * (Q - 1) < 65536 ^ 8 * 65536 ^ 8 := Nat.mul_lt_mul_of_lt_of_lt (by omega) (by omega)
  rw [← Nat.pow_add] at h2
  have h3 : kv_val s 18 < 65536 ^ 16 := Nat.lt_of_le_of_lt h1 h2
  have h4 := kv_trunc s 16 2 (fun j a b => kv_top0 (d := s) (N := 18) h3 j a (by omega))
  rw [kv_ext 16 hc]
  exact h4.symm
theorem kv_ofWords {d : Nat → Nat} {w : Nat → Int32} {a : Nat} (hd : ∀ j, d j < 65536) (h : ∀ i, i < 8 → w (a + i) = nI (d (15 - 2 * i) * 65536 + d (14 - 2 * i))) : kv_val (kv_fig w a) 16 = kv_val d 16 := kv_ext 16 (kv_fig_words hd h)
theorem kv_figKeep {w v : Nat → Int32} {a b : Nat} (hb : b + 8 ≤ a ∨ a + 8 ≤ b) (h : ∀ j, (j < a ∨ a + 8 ≤ j) → w j = v j) : kv_val (kv_fig w b) 16 = kv_val (kv_fig v b) 16 := kv_ext 16 (fun j hj => by
  unfold kv_fig
  rw [h (b + 7 - j / 2) (by omega)])
theorem kv_figSame {w v : Nat → Int32} {b : Nat} (h : ∀ j, w j = v j) : kv_val (kv_fig w b) 16 = kv_val (kv_fig v b) 16 := kv_ext 16 (fun j hj => by
  unfold kv_fig
  rw [h])
/-! what answer and accept say -/
def kx_ans (st : Int32) (ok : Prop) (X P : Nat) (r st' : Int32) : Prop :=
  (¬ st = 1 ∧ r = -11 ∧ st' = st) ∨ (st = 1 ∧ ¬ ok ∧ r = -10 ∧ st' = 1) ∨ (st = 1 ∧ ok ∧ ¬ (2 ≤ X ∧ X + 2 ≤ P) ∧ r = -1 ∧ st' = -1) ∨ (st = 1 ∧ ok ∧ (2 ≤ X ∧ X + 2 ≤ P) ∧ r = 1 ∧ st' = 2)
/-- Y, K, N, S as answer makes them -/
def kx_anB (P G y X p q Y K N S H : Nat) : Prop := Y = G ^ y % P ∧ K = X ^ y % P ∧ N = p * q ∧ ∃ D : Nat, kx_isD p q D ∧ S = (H % N) ^ D % N
def kx_sg (S N H : Nat) : Prop := S < N ∧ S ^ 65537 % N = H % N
def kx_acc (st : Int32) (ok : Prop) (N T Y P S H : Nat) (r st' : Int32) : Prop :=
  (¬ st = 2 ∧ r = -11 ∧ st' = st) ∨ (st = 2 ∧ ¬ ok ∧ r = -10 ∧ st' = 2) ∨ (st = 2 ∧ ok ∧ ¬ N = T ∧ r = -2 ∧ st' = -2) ∨ (st = 2 ∧ ok ∧ N = T ∧ ¬ (2 ≤ Y ∧ Y + 2 ≤ P) ∧ r = -1 ∧ st' = -1) ∨
  (st = 2 ∧ ok ∧ N = T ∧ (2 ≤ Y ∧ Y + 2 ≤ P) ∧ ¬ kx_sg S N H ∧ r = -3 ∧ st' = -3) ∨ (st = 2 ∧ ok ∧ N = T ∧ (2 ≤ Y ∧ Y + 2 ≤ P) ∧ kx_sg S N H ∧ r = 1 ∧ st' = 3)
theorem kv_prodN {x : Nat → Nat} {p q P Q : Nat} (mu : kv_val x 32 = p * q) (h1 : p = P) (h2 : q = Q) (hP : P < 65536 ^ 8) (hQ : Q < 65536 ^ 8) : kv_val x 16 = P * Q := by
  have h3 : P * Q < 65536 ^ 8 * 65536 ^ 8 := Nat.mul_lt_mul_of_lt_of_lt hP hQ
  rw [← Nat.pow_add] at h3
  rw [h1, h2] at mu
  rw [← mu] at h3 ⊢
  exact (kv_trunc x 16 16 (fun j a b => kv_top0 (N := 32) h3 j a (by omega))).symm
theorem kv_exp {w : Nat → Nat} (h0 : w 0 = 1) (h1 : w 1 = 1) (h : ∀ j, 2 ≤ j → j < 16 → w j = 0) : kv_val w 16 = 65537 := by
  rw [kv_two h, h0, h1]
theorem kv_pq0 {P Q : Nat} (h : kx_fit P Q) : 0 < P * Q := Nat.mul_pos (by have := h.1; omega) (by have := h.2.1; omega)
theorem kv_figV {w : Nat → Int32} {fr : Nat} : kv_val (kv_fig w fr) 16 = kx_V 8 (fun j => (w (fr + j)).toUInt32.toNat) := kx_V_figs (fun _ => kz_ult _) (fun j _ => kz_u (w (fr + j)))
theorem kv_trust {w t : Nat → Int32} {a b : Nat} : kv_val (kv_fig w a) 16 = kv_val (kv_fig t b) 16 ↔ ∀ j, j < 8 → w (a + j) = t (b + j) := by
  rw [kv_figV, kv_figV]
  constructor
  · intro h j hj
    have h2 := kx_V_inj (fun _ => kz_ult _) (fun _ => kz_ult _) h j hj
    rw [kz_u (w (a + j)), kz_u (t (b + j)), h2]
  · intro h
    exact kx_V_ext (fun j hj => by rw [h j hj])
theorem kv_hrest {x b : Nat → Nat} {w : Nat → Int32} {a : Nat} (h1 : ∀ j, j < 16 → x j = b j) (h2 : ∀ j, 16 ≤ j → j < 32 → x j = 0) (h3 : ∀ j, j < 16 → b j = kv_fig w a j) : kv_val x 32 = kv_val (kv_fig w a) 16 :=
  (kv_trunc x 16 16 (fun j p q => h2 j p (by omega))).trans (kv_ext 16 (fun j hj => (h1 j hj).trans (h3 j hj)))
theorem kv_cmpLt {r : Int32} {A B : Nat} (h : (r = 0 ∧ A = B) ∨ (r = 1 ∧ B < A) ∨ (r = -1 ∧ A < B)) (hc : r < 0) : A < B := by
  rcases h with ⟨h0, h⟩ | ⟨h0, h⟩ | ⟨-, h⟩
  · rw [h0] at hc
    exact absurd hc (by decide)
  · rw [h0] at hc
    exact absurd hc (by decide)
  · exact h
theorem kv_cmpGe {r : Int32} {A B : Nat} (h : (r = 0 ∧ A = B) ∨ (r = 1 ∧ B < A) ∨ (r = -1 ∧ A < B)) (hc : ¬ r < 0) : B ≤ A := by
  rcases h with ⟨-, h⟩ | ⟨-, h⟩ | ⟨h0, h⟩
  · omega
  · omega
  · rw [h0] at hc
    exact absurd (by decide) hc
theorem kv_cmpEq {r : Int32} {A B : Nat} (h : (r = 0 ∧ A = B) ∨ (r = 1 ∧ B < A) ∨ (r = -1 ∧ A < B)) (hc : r = 0) : A = B := by
  rcases h with ⟨-, h⟩ | ⟨h0, h⟩ | ⟨h0, h⟩
  · exact h
  · rw [h0] at hc
    exact absurd hc (by decide)
  · rw [h0] at hc
    exact absurd hc (by decide)
theorem kv_cmpNe {r : Int32} {A B : Nat} (h : (r = 0 ∧ A = B) ∨ (r = 1 ∧ B < A) ∨ (r = -1 ∧ A < B)) (hc : ¬ r = 0) : ¬ A = B := by
  rcases h with ⟨h0, -⟩ | ⟨-, h⟩ | ⟨-, h⟩
  · exact absurd h0 hc
  · omega
  · omega
theorem kz_fillI {f g : Nat → Int32} {k : Nat} {v : Int32} (h : ∀ j, j < k → f j = g j) (hv : v = g k) : ∀ j, j < k + 1 → upd f k v j = g j := by
  intro j hj
  unfold upd
  by_cases e : j = k
  · subst e; rw [if_pos rfl]; exact hv
  · rw [if_neg e]; exact h j (by omega)
/-- where a part is on the way -/
def kx_alt (st : Int32) (w : Nat) : Prop := (w = 0 ∧ st = 1) ∨ (w ≠ 0 ∧ st = 2)
theorem kx_altT {st : Int32} {w : Nat} (hw : w = 0) (h : st = nI 1) : kx_alt st w := Or.inl ⟨hw, h⟩
theorem kx_altU {st : Int32} {w : Nat} (hw : w ≠ 0) (h : st = nI 2) : kx_alt st w := Or.inr ⟨hw, h⟩
theorem kx_altT1 {st : Int32} {w : Nat} (hw : w = 0) (h : kx_alt st w) : st = nI 1 := h.elim (fun q => q.2) (fun q => absurd hw q.1)
theorem kx_altU1 {st : Int32} {w : Nat} (hw : w ≠ 0) (h : kx_alt st w) : st = nI 2 := h.elim (fun q => absurd q.1 hw) (fun q => q.2)
