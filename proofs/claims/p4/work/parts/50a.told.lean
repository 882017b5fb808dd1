/-! what is told: the class's seven rows, the reference's one -/
def kw_t7 (a b c d e f g : Nat → Nat) : Nat → Nat → Nat := fun k => match k with
  | 0 => a
  | 1 => b
  | 2 => c
  | 3 => d
  | 4 => e
  | 5 => f
  | _ => g
def kw_T (g : Nat → Int32) (τ : Nat → Nat → Nat) : Prop := ∀ k, k < 7 → ∀ j, j < 8 → g (8 * k + j) = nI (τ k j)
theorem kw_num1 {g : Nat → Int32} {a b : Nat → Nat} {w i v c j : Nat} (hi : i < 8) (hj : j < 8) (h : g (8 * c + j) = nI (a j)) (q : b j = if w = c then kv_up a i v j else a j) : upd g (8 * w + i) (nI v) (8 * c + j) = nI (b j) := by
  rw [q]
  unfold upd kv_up
  by_cases hw : w = c
  · rw [if_pos hw]
    by_cases hji : j = i
    · rw [if_pos (by omega), if_pos hji]
    · rw [if_neg (by omega), if_neg hji]; exact h
  · rw [if_neg hw, if_neg (by omega)]; exact h
theorem kw_sm1 {g g' : Nat → Int32} {a b : Nat → Nat} {w v c j : Nat} (hj : j < 8) (h : g (8 * c + j) = nI (a j)) (m1 : ∀ j, j < 8 → g' (8 * w + j) = nI (kx_smallrow v j)) (m2 : ∀ j, (j < 8 * w ∨ 8 * w + 8 ≤ j) → g' j = g j) (q : b j = if w = c then kx_smallrow v j else a j) : g' (8 * c + j) = nI (b j) := by
  rw [q]
  by_cases hw : w = c
  · rw [if_pos hw, ← hw]; exact m1 j hj
  · rw [if_neg hw, m2 _ (by omega)]; exact h
theorem kw_numT {g g' : Nat → Int32} {τ : Nat → Nat → Nat} {a0 a1 a2 a3 a4 a5 a6 b0 b1 b2 b3 b4 b5 b6 : Nat → Nat} {w i v : Nat} (hi : i < 8) (hτ : τ = kw_t7 a0 a1 a2 a3 a4 a5 a6) (hT : kw_T g τ) (hg : g' = upd g (8 * w + i) (nI v))
    (q0 : ∀ j, j < 8 → b0 j = if w = 0 then kv_up a0 i v j else a0 j) (q1 : ∀ j, j < 8 → b1 j = if w = 1 then kv_up a1 i v j else a1 j) (q2 : ∀ j, j < 8 → b2 j = if w = 2 then kv_up a2 i v j else a2 j) (q3 : ∀ j, j < 8 → b3 j = if w = 3 then kv_up a3 i v j else a3 j)
    (q4 : ∀ j, j < 8 → b4 j = if w = 4 then kv_up a4 i v j else a4 j) (q5 : ∀ j, j < 8 → b5 j = if w = 5 then kv_up a5 i v j else a5 j) (q6 : ∀ j, j < 8 → b6 j = if w = 6 then kv_up a6 i v j else a6 j) : kw_T g' (kw_t7 b0 b1 b2 b3 b4 b5 b6) := by
  intro k hk j hj
  have h := hT k hk j hj
  rw [hτ] at h
  rw [hg]
  rcases (by omega : k = 0 ∨ k = 1 ∨ k = 2 ∨ k = 3 ∨ k = 4 ∨ k = 5 ∨ k = 6) with rfl | rfl | rfl | rfl | rfl | rfl | rfl
  · exact kw_num1 hi hj h (q0 j hj)
  · exact kw_num1 hi hj h (q1 j hj)
  · exact kw_num1 hi hj h (q2 j hj)
  · exact kw_num1 hi hj h (q3 j hj)
  · exact kw_num1 hi hj h (q4 j hj)
  · exact kw_num1 hi hj h (q5 j hj)
  · exact kw_num1 hi hj h (q6 j hj)
theorem kw_smT {g g' : Nat → Int32} {τ : Nat → Nat → Nat} {a0 a1 a2 a3 a4 a5 a6 b0 b1 b2 b3 b4 b5 b6 : Nat → Nat} {w v : Nat} (hτ : τ = kw_t7 a0 a1 a2 a3 a4 a5 a6) (hT : kw_T g τ) (m1 : ∀ j, j < 8 → g' (8 * w + j) = nI (kx_smallrow v j)) (m2 : ∀ j, (j < 8 * w ∨ 8 * w + 8 ≤ j) → g' j = g j)
    (q0 : ∀ j, j < 8 → b0 j = if w = 0 then kx_smallrow v j else a0 j) (q1 : ∀ j, j < 8 → b1 j = if w = 1 then kx_smallrow v j else a1 j) (q2 : ∀ j, j < 8 → b2 j = if w = 2 then kx_smallrow v j else a2 j) (q3 : ∀ j, j < 8 → b3 j = if w = 3 then kx_smallrow v j else a3 j)
    (q4 : ∀ j, j < 8 → b4 j = if w = 4 then kx_smallrow v j else a4 j) (q5 : ∀ j, j < 8 → b5 j = if w = 5 then kx_smallrow v j else a5 j) (q6 : ∀ j, j < 8 → b6 j = if w = 6 then kx_smallrow v j else a6 j) : kw_T g' (kw_t7 b0 b1 b2 b3 b4 b5 b6) := by
  intro k hk j hj
  have h := hT k hk j hj
  rw [hτ] at h
  rcases (by omega : k = 0 ∨ k = 1 ∨ k = 2 ∨ k = 3 ∨ k = 4 ∨ k = 5 ∨ k = 6) with rfl | rfl | rfl | rfl | rfl | rfl | rfl
  · exact kw_sm1 hj h m1 m2 (q0 j hj)
  · exact kw_sm1 hj h m1 m2 (q1 j hj)
  · exact kw_sm1 hj h m1 m2 (q2 j hj)
  · exact kw_sm1 hj h m1 m2 (q3 j hj)
  · exact kw_sm1 hj h m1 m2 (q4 j hj)
  · exact kw_sm1 hj h m1 m2 (q5 j hj)
  · exact kw_sm1 hj h m1 m2 (q6 j hj)
theorem kw_T0 {g : Nat → Int32} {a0 a1 a2 a3 a4 a5 a6 : Nat → Nat} (hg : g = fun _ => 0) (h0 : a0 = fun _ => 0) (h1 : a1 = fun _ => 0) (h2 : a2 = fun _ => 0) (h3 : a3 = fun _ => 0) (h4 : a4 = fun _ => 0) (h5 : a5 = fun _ => 0) (h6 : a6 = fun _ => 0) : kw_T g (kw_t7 a0 a1 a2 a3 a4 a5 a6) := by
  subst hg h0 h1 h2 h3 h4 h5 h6
  intro k hk j hj
  rcases (by omega : k = 0 ∨ k = 1 ∨ k = 2 ∨ k = 3 ∨ k = 4 ∨ k = 5 ∨ k = 6) with rfl | rfl | rfl | rfl | rfl | rfl | rfl <;> rfl
/-- secret's two answers are one -/
theorem kw_secOne {g : Nat → Int32} {τ : Nat → Nat → Nat} {i : Nat} {r z : Int32} (hT : kw_T g τ) (b2 : ∀ j, τ 2 j < 4294967296) (b3 : ∀ j, τ 3 j < 4294967296) (h1 : kx_sec (kx_L (τ 2)) (kx_L (τ 3)) i z) (h2 : kx_sec (kv_val (kv_fig g 16) 8) (kv_val (kv_fig g 24) 8) i r) : z = r := by
  rw [kx_L_figs b2 (fun j hj => hT 2 (by omega) j hj), kx_L_figs b3 (fun j hj => hT 3 (by omega) j hj)] at h2
  exact kx_sec_one h1 h2
theorem kz_posl {x : Int64} (h : ¬ x < 0) : ∃ n : Nat, n < 9223372036854775808 ∧ x = kz_lz ((n : Nat) : Int) := by
  have h0 : 0 ≤ x.toInt := by
    rw [Int64.lt_iff_toInt_lt, Int64.toInt_zero] at h
    omega
  have h1 := Int64.toInt_lt x
  refine ⟨x.toInt.toNat, by omega, ?_⟩
  have e : ((x.toInt.toNat : Nat) : Int) = x.toInt := by omega
  rw [e]
  exact (Int64.ofInt_toInt x).symm
/-! a told row's words and its figures: one number; what offer wants is one in both -/
theorem kx_V_figs {w : Nat → Int32} {d : Nat → Nat} {fr : Nat} (hd : ∀ j, d j < 4294967296) (h : ∀ j, j < 8 → w (fr + j) = nI (d j)) : kv_val (kv_fig w fr) 16 = kx_V 8 d := by
  have h1 := kv_figs w fr 8 (Nat.le_refl _)
  have h2 : kv_val (kv_fig w fr) 16 = kx_val (fun j => (w (fr + 7 - j)).toUInt32.toNat) 8 := h1
  rw [h2]
  refine kx_ext 8 (fun j hj => ?_)
  rw [show fr + 7 - j = fr + (7 - j) by omega, h (7 - j) (by omega), kz_un (hd _)]
  rfl
theorem kw_okOne {g : Nat → Int32} {τ : Nat → Nat → Nat} {a0 a1 a2 a3 a4 a5 a6 : Nat → Nat} (hτ : τ = kw_t7 a0 a1 a2 a3 a4 a5 a6) (hT : kw_T g τ) (b0 : ∀ j, a0 j < 4294967296) (b1 : ∀ j, a1 j < 4294967296) (b2 : ∀ j, a2 j < 4294967296) (b3 : ∀ j, a3 j < 4294967296) :
    kx_ok (kx_V 8 a0) (kx_V 8 a1) (kx_L a2) (kx_L a3) ↔ kx_ok (kv_val (kv_fig g 0) 16) (kv_val (kv_fig g 8) 16) (kv_val (kv_fig g 16) 8) (kv_val (kv_fig g 24) 8) := by
  rw [hτ] at hT
  rw [kx_V_figs b0 (fun j hj => hT 0 (by omega) j hj), kx_V_figs b1 (fun j hj => hT 1 (by omega) j hj), kx_L_figs b2 (fun j hj => hT 2 (by omega) j hj), kx_L_figs b3 (fun j hj => hT 3 (by omega) j hj)]
