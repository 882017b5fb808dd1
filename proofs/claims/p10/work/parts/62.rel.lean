/-! what the two sides have alike: common rows -/
def kw_k2 (a b : Nat → Int32) : Nat → Nat → Int32 := fun k => match k with
  | 0 => a
  | _ => b
theorem kw_rowEq {n : Nat → Int32} {d : Nat → Nat} {a : Nat} (hd : ∀ j, d j < 4294967296) (h : kv_val (kv_fig n a) 16 = kx_V 8 d) : ∀ j, j < 8 → n (a + j) = nI (d j) := by
  rw [kv_figV] at h
  intro j hj
  have h2 := kx_V_inj (fun _ => kz_ult _) hd h j hj
  rw [kz_u (n (a + j)), h2]
theorem kw_row0 {n : Nat → Int32} {d : Nat → Nat} (hd : ∀ j, d j < 4294967296) (h : kv_val (kv_fig n 0) 16 = kx_V 8 d) : ∀ j, j < 8 → n j = nI (d j) := by
  intro j hj
  have h2 := kw_rowEq hd h j hj
  rw [Nat.zero_add] at h2
  exact h2
theorem kw_rowV0 {n : Nat → Int32} {d : Nat → Nat} (hd : ∀ j, d j < 4294967296) (h : ∀ j, j < 8 → n j = nI (d j)) : kv_val (kv_fig n 0) 16 = kx_V 8 d := kx_V_figs hd (fun j hj => by rw [Nat.zero_add]; exact h j hj)
theorem kw_tauV {g : Nat → Int32} {τ : Nat → Nat → Nat} {a0 a1 a2 a3 a4 a5 a6 : Nat → Nat} (hτ : τ = kw_t7 a0 a1 a2 a3 a4 a5 a6) (hT : kw_T g τ) (b0 : ∀ j, a0 j < 4294967296) (b1 : ∀ j, a1 j < 4294967296) (b2 : ∀ j, a2 j < 4294967296) (b3 : ∀ j, a3 j < 4294967296) (b4 : ∀ j, a4 j < 4294967296) (b5 : ∀ j, a5 j < 4294967296) (b6 : ∀ j, a6 j < 4294967296) :
    kv_val (kv_fig g 0) 16 = kx_V 8 a0 ∧ kv_val (kv_fig g 8) 16 = kx_V 8 a1 ∧ kv_val (kv_fig g 32) 16 = kx_V 8 a4 ∧ kv_val (kv_fig g 40) 16 = kx_V 8 a5 ∧ kv_val (kv_fig g 48) 16 = kx_V 8 a6 ∧ kv_val (kv_fig g 16) 8 = kx_L a2 ∧ kv_val (kv_fig g 24) 8 = kx_L a3 := by
  rw [hτ] at hT
  exact ⟨kx_V_figs b0 (fun j hj => hT 0 (by omega) j hj), kx_V_figs b1 (fun j hj => hT 1 (by omega) j hj), kx_V_figs b4 (fun j hj => hT 4 (by omega) j hj), kx_V_figs b5 (fun j hj => hT 5 (by omega) j hj), kx_V_figs b6 (fun j hj => hT 6 (by omega) j hj), kx_L_figs b2 (fun j hj => hT 2 (by omega) j hj), kx_L_figs b3 (fun j hj => hT 3 (by omega) j hj)⟩
theorem kx_ans_one {a b a' b' r q : Int32} {k1 k2 : Prop} {X X' P : Nat} (hz : a = 1 ↔ b = 1) (hk : k1 ↔ k2) (hX : a = 1 → X = X') (p : kx_ans a k1 X P r a') (m : kx_ans b k2 X' P q b') :
    r = q ∧ ((¬ a = 1 ∧ a' = a ∧ b' = b ∧ ¬ r = 1) ∨ (a = 1 ∧ a' = 1 ∧ b' = 1 ∧ ¬ r = 1) ∨ (a = 1 ∧ a' = -1 ∧ b' = -1 ∧ ¬ r = 1) ∨ (a = 1 ∧ k1 ∧ a' = 2 ∧ b' = 2 ∧ r = 1)) := by
  rcases p with ⟨p1, p2, p3⟩ | ⟨p1, p2, p3, p4⟩ | ⟨p1, p2, p3, p4, p5⟩ | ⟨p1, p2, p3, p4, p5⟩ <;> rcases m with ⟨m1, m2, m3⟩ | ⟨m1, m2, m3, m4⟩ | ⟨m1, m2, m3, m4, m5⟩ | ⟨m1, m2, m3, m4, m5⟩
  · exact ⟨p2.trans m2.symm, Or.inl ⟨p1, p3, m3, by rw [p2]; decide⟩⟩
  · exact absurd (hz.mpr m1) p1
  · exact absurd (hz.mpr m1) p1
  · exact absurd (hz.mpr m1) p1
  · exact absurd (hz.mp p1) m1
  · exact ⟨p3.trans m3.symm, Or.inr (Or.inl ⟨p1, p4, m4, by rw [p3]; decide⟩)⟩
  · exact absurd (hk.mpr m2) p2
  · exact absurd (hk.mpr m2) p2
  · exact absurd (hz.mp p1) m1
  · exact absurd (hk.mp p2) m2
  · exact ⟨p4.trans m4.symm, Or.inr (Or.inr (Or.inl ⟨p1, p5, m5, by rw [p4]; decide⟩))⟩
  · rw [← hX p1] at m3
    exact absurd m3 p3
  · exact absurd (hz.mp p1) m1
  · exact absurd (hk.mp p2) m2
  · rw [← hX p1] at m3
    exact absurd p3 m3
  · exact ⟨p4.trans m4.symm, Or.inr (Or.inr (Or.inr ⟨p1, p2, p5, m5, p4⟩))⟩
theorem kw_altOne {a b : Int32} {w : Nat} (h1 : a = 1 ↔ b = 1) (h2 : a = 2 ↔ b = 2) : kx_alt a w ↔ kx_alt b w := by
  unfold kx_alt
  rw [h1, h2]
/-- a word altered, in both -/
theorem kw_altRow {n n' : Nat → Int32} {y y' : Nat → Nat} {w i v c : Nat} (hi : i < 8) (hn : n' = upd n (8 * w + i) (n (8 * w + i) ^^^ nI v)) (hy : y' = if w = c then kv_up y i (y i ^^^ v) else y) (h : ∀ j, j < 8 → n (8 * c + j) = nI (y j)) : ∀ j, j < 8 → n' (8 * c + j) = nI (y' j) := by
  intro j hj
  rw [hn, hy]
  by_cases hw : w = c
  · rw [if_pos hw, hw]
    unfold upd kv_up
    by_cases hji : j = i
    · rw [if_pos (by omega), if_pos hji, h i hi, kz_xorN]
    · rw [if_neg (by omega), if_neg hji]
      exact h j hj
  · rw [if_neg hw]
    unfold upd
    rw [if_neg (by omega)]
    exact h j hj
theorem kw_altKeep {n n' : Nat → Int32} {w i v c : Nat} (hi : i < 8) (hw : w ≠ c) (hn : n' = upd n (8 * w + i) (n (8 * w + i) ^^^ nI v)) : ∀ j, j < 8 → n' (8 * c + j) = n (8 * c + j) := by
  intro j hj
  rw [hn]
  unfold upd
  rw [if_neg (by omega)]
/-! what the two sides have alike (set 6) -/
def kw_RM (ρs : Int32) (ρw : Nat → Nat → Nat) (ρk : Nat → Nat → Int32) (sta : Int32) (n l c h k : Nat → Int32) : Prop :=
  sta = ρs ∧ ((ρs = 1 ∨ ρs = 2) → ∀ j, j < 8 → n (0 + j) = nI (ρw 0 j) ∧ l (0 + j) = nI (ρw 4 j)) ∧
  (ρs = 2 → ∀ j, j < 8 → n (8 + j) = nI (ρw 1 j) ∧ n (16 + j) = nI (ρw 2 j) ∧ n (24 + j) = nI (ρw 3 j) ∧ c (8 + j) = nI (ρw 5 j) ∧ h (8 + j) = nI (ρw 6 j)) ∧
  (ρs = 3 → ∀ j, j < 16 → k (16 * 0 + j) = ρk 0 j ∧ k (16 * 1 + j) = ρk 1 j)
def kw_CN (r s R S : Nat → Int32) : Prop := (∀ j, j < 64 → R j = r j) ∧ (∀ j, j < 8 → S j = s j)
theorem kw_RM0 {ρs sta : Int32} {ρw : Nat → Nat → Nat} {ρk : Nat → Nat → Int32} {n l c h k : Nat → Int32} (h1 : ρs = 0) (h2 : sta = 0) : kw_RM ρs ρw ρk sta n l c h k := by
  rw [h1, h2]
  exact ⟨rfl, fun q => absurd q (by decide), fun q => absurd q (by decide), fun q => absurd q (by decide)⟩
theorem kw_RMx {s : Int32} {ρw : Nat → Nat → Nat} {ρk : Nat → Nat → Int32} {n l c h k : Nat → Int32} (h1 : ¬ (s = 1 ∨ s = 2)) (h3 : ¬ s = 3) : kw_RM s ρw ρk s n l c h k :=
  ⟨rfl, fun q => absurd q h1, fun q => absurd (Or.inr q) h1, fun q => absurd q h3⟩
theorem kw_offR {ρs stg stg' sta sta' r q : Int32} {ρw : Nat → Nat → Nat} {ρk : Nat → Nat → Int32} {y0 y0' y1 y2 y3 off off' c1 h1 : Nat → Nat} {n n' l l' cc hh kk : Nat → Int32} {ok1 ok2 : Prop} {X X' : Nat} (hR : kw_RM ρs ρw ρk sta n l cc hh kk) (e1 : ρs = stg) (e2 : ρw = kw_t7 y0 y1 y2 y3 off c1 h1) (hk : ok1 ↔ ok2) (hX : X' = X) (hy : ∀ j, y0' j < 4294967296)
    (p1 : kx_off (stg = 0) ok1 r (stg' = 0)) (p2 : r = 1 → stg' = nI 1) (p3 : r = 1 → kx_V 8 y0' = X) (p4 : r = 1 → ∀ j, j < 8 → off' j = y0' j) (p5 : ¬ r = 1 → y0' = y0 ∧ off' = off) (p6 : ¬ r = 1 → stg' = stg)
    (m1 : kx_off (sta = 0) ok2 q (sta' = 0)) (m2 : q = 1 → sta' = nI 1) (m3 : q = 1 → kv_val (kv_fig n' 0) 16 = X') (m4 : q = 1 → ∀ j, j < 8 → l' j = n' j) (m5 : ¬ q = 1 → n' = n ∧ l' = l) (m6 : ¬ q = 1 → sta' = sta) : r = q ∧ kw_RM stg' (kw_t7 y0' y1 y2 y3 off' c1 h1) ρk sta' n' l' cc hh kk := by
  rw [e1, e2] at hR
  have hs := hR.1
  have hrq := (kx_off_one (by rw [hs]) hk p1 m1).1
  refine ⟨hrq, ?_⟩
  by_cases h : r = 1
  · have hq : q = 1 := hrq.symm.trans h
    rw [p2 h, m2 hq]
    refine ⟨rfl, fun _ j hj => ?_, fun a => absurd a (by decide), fun a => absurd a (by decide)⟩
    have h9 := kw_rowEq hy ((m3 hq).trans (hX.trans (p3 h).symm)) j hj
    refine ⟨h9, ?_⟩
    show l' (0 + j) = nI (off' j)
    rw [Nat.zero_add, m4 hq j hj, p4 h j hj]
    rw [Nat.zero_add] at h9
    exact h9
  · have hq : ¬ q = 1 := fun h9 => h (hrq.trans h9)
    rw [p6 h, m6 hq, (m5 hq).1, (m5 hq).2, (p5 h).1, (p5 h).2]
    exact hR
theorem kw_altR {ρs stg sta z q : Int32} {ρw : Nat → Nat → Nat} {ρk : Nat → Nat → Int32} {y0 y0' y1 y1' y2 y2' y3 y3' off c1 h1 : Nat → Nat} {n n' l cc hh kk : Nat → Int32} {w i v : Nat} (hR : kw_RM ρs ρw ρk sta n l cc hh kk) (e1 : ρs = stg) (e2 : ρw = kw_t7 y0 y1 y2 y3 off c1 h1) (hi : i < 8)
    (p : (kx_alt stg w ∧ z = 1 ∧ (y0' = if w = 0 then kv_up y0 i (y0 i ^^^ v) else y0) ∧ (y1' = if w = 1 then kv_up y1 i (y1 i ^^^ v) else y1) ∧ (y2' = if w = 2 then kv_up y2 i (y2 i ^^^ v) else y2) ∧ (y3' = if w = 3 then kv_up y3 i (y3 i ^^^ v) else y3)) ∨ (¬ kx_alt stg w ∧ z = 0 ∧ y0' = y0 ∧ y1' = y1 ∧ y2' = y2 ∧ y3' = y3))
    (m : (kx_alt sta w ∧ q = 1 ∧ n' = upd n (8 * w + i) (n (8 * w + i) ^^^ nI v)) ∨ (¬ kx_alt sta w ∧ q = 0 ∧ n' = n)) : z = q ∧ kw_RM stg (kw_t7 y0' y1' y2' y3' off c1 h1) ρk sta n' l cc hh kk := by
  rw [e1, e2] at hR
  obtain ⟨hs, r1, r2, r3⟩ := hR
  subst hs
  rcases p with ⟨p1, p2, p3, p4, p5, p6⟩ | ⟨p1, p2, p3, p4, p5, p6⟩ <;> rcases m with ⟨m1, m2, m3⟩ | ⟨m1, m2, m3⟩
  · refine ⟨p2.trans m2.symm, rfl, fun a j hj => ⟨?_, (r1 a j hj).2⟩, fun a j hj => ⟨?_, ?_, ?_, (r2 a j hj).2.2.2⟩, fun a => ?_⟩
    · exact kw_altRow (c := 0) hi m3 p3 (fun j hj => (r1 a j hj).1) j hj
    · exact kw_altRow (c := 1) hi m3 p4 (fun j hj => (r2 a j hj).1) j hj
    · exact kw_altRow (c := 2) hi m3 p5 (fun j hj => (r2 a j hj).2.1) j hj
    · exact kw_altRow (c := 3) hi m3 p6 (fun j hj => (r2 a j hj).2.2.1) j hj
    · exact r3 a
  · exact absurd p1 m1
  · exact absurd m1 p1
  · rw [m3, p3, p4, p5, p6]
    exact ⟨p2.trans m2.symm, rfl, r1, r2, r3⟩
/-- the words of told rows, one by one -/
theorem kw_tw {g : Nat → Int32} {τ : Nat → Nat → Nat} {a0 a1 a2 a3 a4 a5 a6 : Nat → Nat} (hτ : τ = kw_t7 a0 a1 a2 a3 a4 a5 a6) (hT : kw_T g τ) : (∀ i, i < 8 → g (0 + i) = kz_dg a0 i) ∧ (∀ i, i < 8 → g (8 + i) = kz_dg a1 i) := by
  rw [hτ] at hT
  exact ⟨fun i hi => hT 0 (by omega) i hi, fun i hi => hT 1 (by omega) i hi⟩
theorem kw_ansR {ρs stg stg' sta sta' r q : Int32} {ρw : Nat → Nat → Nat} {ρk : Nat → Nat → Int32} {t0 t1 y0 y1 y1' y2 y2' y3 y3' off c1 c1' h1 h1' : Nat → Nat} {g n n' l cc cc' hh hh' kk kr ks R S : Nat → Int32} {ok1 ok2 : Prop} {P P' G G' y y' a a' b b' : Nat} (hR : kw_RM ρs ρw ρk sta n l cc hh kk) (e1 : ρs = stg) (e2 : ρw = kw_t7 y0 y1 y2 y3 off c1 h1) (hC : kw_CN kr ks R S) (hk : ok1 ↔ ok2) (hP : P' = P) (hG : G' = G) (hy' : y' = y) (ha : a' = a) (hb : b' = b) (hf : ok1 → kx_fit a b)
    (w0 : ∀ i, i < 8 → g (0 + i) = kz_dg t0 i) (w1 : ∀ i, i < 8 → g (8 + i) = kz_dg t1 i) (hy : ∀ j, y0 j < 4294967296) (d1 : ∀ j, y1' j < 4294967296) (d2 : ∀ j, y2' j < 4294967296) (d3 : ∀ j, y3' j < 4294967296) (d4 : ∀ j, c1' j < 4294967296) (d5 : ∀ j, h1' j < 4294967296)
    (p1 : kx_ans stg ok1 (kx_V 8 y0) P r stg') (p2 : r = 1 → kx_anB P G y (kx_V 8 y0) a b (kx_V 8 y2') (kx_V 8 c1') (kx_V 8 y1') (kx_V 8 y3') (kx_V 8 h1')) (p3 : ¬ r = 1 → y1' = y1 ∧ y2' = y2 ∧ y3' = y3 ∧ c1' = c1 ∧ h1' = h1) (p4 : r = 1 → ∀ j, j < 8 → kz_dg h1' j = kd_H kr ks (kd_hx (kz_dg t0) (kz_dg t1) (kz_dg y1') (kz_dg y0) (kz_dg y2') (kz_dg c1') kd_wh) 4 j)
    (m1 : kx_ans sta ok2 (kv_val (kv_fig n 0) 16) P' q sta') (m2 : q = 1 → kx_anB P' G' y' (kv_val (kv_fig n 0) 16) a' b' (kv_val (kv_fig n' 16) 16) (kv_val (kv_fig cc' 8) 16) (kv_val (kv_fig n' 8) 16) (kv_val (kv_fig n' 24) 16) (kv_val (kv_fig hh' 8) 16)) (m3 : q = 1 → ∀ j, j < 8 → n' j = n j) (m4 : ¬ q = 1 → n' = n ∧ cc' = cc ∧ hh' = hh)
    (m5 : q = 1 → ∀ j, j < 8 → hh' (8 * 1 + j) = kd_H R S (kd_hx (fun i => g (0 + i)) (fun i => g (8 + i)) (fun i => n' (8 + i)) (fun i => n (0 + i)) (fun i => n' (16 + i)) (fun i => cc' (8 * 1 + i)) kd_wh) 4 j) : r = q ∧ kw_RM stg' (kw_t7 y0 y1' y2' y3' off c1' h1') ρk sta' n' l cc' hh' kk := by
  rw [e1, e2] at hR
  obtain ⟨hs, r1, r2, r3⟩ := hR
  have hX : stg = 1 → kx_V 8 y0 = kv_val (kv_fig n 0) 16 := fun h => (kx_V_figs hy (fun j hj => (r1 (Or.inl h) j hj).1)).symm
  rw [hP] at m1 m2
  obtain ⟨hrq, h⟩ := kx_ans_one (by rw [hs]) hk hX p1 m1
  refine ⟨hrq, ?_⟩
  rcases h with ⟨s1, s2, s3, s4⟩ | ⟨s1, s2, s3, s4⟩ | ⟨s1, s2, s3, s4⟩ | ⟨s1, k1, s2, s3, s4⟩
  · have hq : ¬ q = 1 := fun h9 => s4 (hrq.trans h9)
    obtain ⟨u1, u2, u3, u4, u5⟩ := p3 s4
    obtain ⟨v1, v2, v3⟩ := m4 hq
    rw [s2, s3, u1, u2, u3, u4, u5, v1, v2, v3]
    exact ⟨hs, r1, r2, r3⟩
  · have hq : ¬ q = 1 := fun h9 => s4 (hrq.trans h9)
    obtain ⟨v1, v2, v3⟩ := m4 hq
    rw [s2, s3, v1]
    exact ⟨rfl, fun _ => r1 (Or.inl s1), fun z => absurd z (by decide), fun z => absurd z (by decide)⟩
  · rw [s2, s3]
    exact kw_RMx (by decide) (by decide)
  · have hq : q = 1 := hrq.symm.trans s4
    rw [s2, s3]
    obtain ⟨a1, a2, a3, D, a4, a5⟩ := p2 s4
    obtain ⟨b1, b2, b3, E, b4, b5⟩ := m2 hq
    rw [hG, hy'] at b1
    rw [hy', ← hX s1] at b2
    rw [ha, hb] at b3 b4
    have rY := kw_rowEq d2 (b1.trans a1.symm)
    have rK := kw_rowEq d4 (b2.trans a2.symm)
    have rN := kw_rowEq d1 (b3.trans a3.symm)
    have rX := fun j (hj : j < 8) => (r1 (Or.inl s1) j hj).1
    have rH : ∀ j, j < 8 → hh' (8 + j) = nI (h1' j) := by
      intro j hj
      have q1 := m5 hq j hj
      have q2 := kd_H_ext (k := R) (st := S) hC.1 hC.2 4 (kd_hx_ext (w := kd_wh) w0 w1 rN rX rY rK) j hj
      exact q1.trans (q2.trans (p4 s4 j hj).symm)
    have rV := kx_V_figs d5 rH
    have hD : E = D := kx_isD_one (hf k1) b4 a4
    have rS := kw_rowEq d3 (b5.trans (by rw [rV, b3, hD, a5, a3]))
    refine ⟨rfl, fun _ j hj => ⟨?_, (r1 (Or.inl s1) j hj).2⟩, fun _ j hj => ⟨rN j hj, rY j hj, rS j hj, rK j hj, rH j hj⟩, fun z => absurd z (by decide)⟩
    have h9 := m3 hq j hj
    have h8 := rX j hj
    rw [Nat.zero_add] at h8
    rw [Nat.zero_add, h9]
    exact h8
theorem kw_accR {ρs stg stg' sta sta' r q : Int32} {ρw : Nat → Nat → Nat} {ρk : Nat → Nat → Int32} {t0 t1 y0 y1 y2 y3 off c0 c0' c1 h0 h0' h1 : Nat → Nat} {g n l cc cc' hh hh' kk kk' kr ks R S k0 k0' k1 k1' : Nat → Int32} {ok1 ok2 : Prop} {P P' T T' x x' : Nat} (hR : kw_RM ρs ρw ρk sta n l cc hh kk) (e1 : ρs = stg) (e2 : ρw = kw_t7 y0 y1 y2 y3 off c1 h1) (e3 : ρk = kw_k2 k0 k1) (hC : kw_CN kr ks R S) (hk : ok1 ↔ ok2) (hP : P' = P) (hT : T' = T) (hx : x' = x)
    (w0 : ∀ i, i < 8 → g (0 + i) = kz_dg t0 i) (w1 : ∀ i, i < 8 → g (8 + i) = kz_dg t1 i) (d1 : ∀ j, y1 j < 4294967296) (d2 : ∀ j, y2 j < 4294967296) (d3 : ∀ j, y3 j < 4294967296) (d4 : ∀ j, c0' j < 4294967296) (d5 : ∀ j, h0' j < 4294967296)
    (p1 : kx_acc stg ok1 (kx_V 8 y1) T (kx_V 8 y2) P (kx_V 8 y3) (kx_V 8 h0') r stg') (p2 : r = -11 ∨ r = -10 → c0' = c0 ∧ h0' = h0 ∧ k0' = k0 ∧ k1' = k1) (p3 : r = 1 ∨ r = -3 → kx_V 8 c0' = kx_V 8 y2 ^ x % P) (p4 : r = 1 ∨ r = -3 → ∀ j, j < 8 → kz_dg h0' j = kd_H kr ks (kd_hx (kz_dg t0) (kz_dg t1) (kz_dg y1) (kz_dg off) (kz_dg y2) (kz_dg c0') kd_wh) 4 j)
    (p5 : r = 1 → (∀ j, j < 16 → k0' j = kd_H kr ks (kd_kx (kz_dg c0') (kz_dg h0') (kd_wk (j / 8))) 2 (j % 8)) ∧ (∀ j, j < 16 → k1' j = kd_H kr ks (kd_kx (kz_dg c1) (kz_dg h1) (kd_wk (j / 8))) 2 (j % 8)))
    (m1 : kx_acc sta ok2 (kv_val (kv_fig n 8) 16) T' (kv_val (kv_fig n 16) 16) P' (kv_val (kv_fig n 24) 16) (kv_val (kv_fig hh' 0) 16) q sta') (m2 : q = -11 ∨ q = -10 → cc' = cc ∧ hh' = hh ∧ kk' = kk) (m3 : q = 1 ∨ q = -3 → kv_val (kv_fig cc' 0) 16 = kv_val (kv_fig n 16) 16 ^ x' % P') (m4 : q = 1 ∨ q = -3 → ∀ j, j < 8 → hh' (8 * 0 + j) = kd_H R S (kd_hx (fun i => g (0 + i)) (fun i => g (8 + i)) (fun i => n (8 + i)) (fun i => l (0 + i)) (fun i => n (16 + i)) (fun i => cc' (8 * 0 + i)) kd_wh) 4 j)
    (m5 : q = 1 → (∀ j, j < 16 → kk' (16 * 0 + j) = kd_H R S (kd_kx (fun i => cc' (8 * 0 + i)) (fun i => hh' (8 * 0 + i)) (kd_wk (j / 8))) 2 (j % 8)) ∧ (∀ j, j < 16 → kk' (16 * 1 + j) = kd_H R S (kd_kx (fun i => cc (8 * 1 + i)) (fun i => hh (8 * 1 + i)) (kd_wk (j / 8))) 2 (j % 8))) :
    r = q ∧ kw_RM stg' (kw_t7 y0 y1 y2 y3 off c1 h1) (kw_k2 k0' k1') sta' n l cc' hh' kk' := by
  rw [e1, e2, e3] at hR
  obtain ⟨hs, r1, r2, r3⟩ := hR
  rw [hs] at m1
  by_cases h2 : stg = 2
  · have rN := fun j (hj : j < 8) => (r2 h2 j hj).1
    have rY := fun j (hj : j < 8) => (r2 h2 j hj).2.1
    have rS := fun j (hj : j < 8) => (r2 h2 j hj).2.2.1
    have rC := fun j (hj : j < 8) => (r2 h2 j hj).2.2.2.1
    have rHH := fun j (hj : j < 8) => (r2 h2 j hj).2.2.2.2
    have rL := fun j (hj : j < 8) => (r1 (Or.inr h2) j hj).2
    have vN := kx_V_figs d1 rN
    have vY := kx_V_figs d2 rY
    have vS := kx_V_figs d3 rS
    rw [vN, vY, vS, hT, hP] at m1
    rw [vY, hx, hP] at m3
    have both : (r = 1 ∨ r = -3) → (q = 1 ∨ q = -3) → (∀ j, j < 8 → cc' (0 + j) = nI (c0' j)) ∧ (∀ j, j < 8 → hh' (0 + j) = nI (h0' j)) := by
      intro hr hq
      have rK := kw_rowEq d4 ((m3 hq).trans (p3 hr).symm)
      refine ⟨rK, fun j hj => ?_⟩
      have q2 := kd_H_ext (k := R) (st := S) hC.1 hC.2 4 (kd_hx_ext (w := kd_wh) w0 w1 rN rL rY rK) j hj
      exact (m4 hq j hj).trans (q2.trans (p4 hr j hj).symm)
    rcases p1 with ⟨a1, a2, a3⟩ | ⟨a1, a2, a3, a4⟩ | ⟨a1, a2, a3, a4, a5⟩ | ⟨a1, a2, a3, a4, a5, a6⟩ | ⟨a1, a2, a3, a4, a5, a6, a7⟩ | ⟨a1, a2, a3, a4, a5, a6, a7⟩ <;> rcases m1 with ⟨b1, b2, b3⟩ | ⟨b1, b2, b3, b4⟩ | ⟨b1, b2, b3, b4, b5⟩ | ⟨b1, b2, b3, b4, b5, b6⟩ | ⟨b1, b2, b3, b4, b5, b6, b7⟩ | ⟨b1, b2, b3, b4, b5, b6, b7⟩
    all_goals first
      | exact absurd h2 a1
      | exact absurd h2 b1
      | exact absurd (hk.mpr b2) a2
      | exact absurd (hk.mp a2) b2
      | exact absurd b3 a3
      | exact absurd a3 b3
      | exact absurd b4 a4
      | exact absurd a4 b4
      | (obtain ⟨u1, u2, u3⟩ := m2 (Or.inr b3)
         obtain ⟨v1, v2, v3, v4⟩ := p2 (Or.inr a3)
         rw [a4, b4, u1, u2, u3, v3, v4]
         refine ⟨a3.trans b3.symm, rfl, fun _ => r1 (Or.inr h2), fun _ => r2 h2, fun z => absurd z (by decide)⟩)
      | (rw [a5, b5]; exact ⟨a4.trans b4.symm, kw_RMx (by decide) (by decide)⟩)
      | (rw [a6, b6]; exact ⟨a5.trans b5.symm, kw_RMx (by decide) (by decide)⟩)
      | (have hv := kx_V_figs d5 (both (by first | exact Or.inl a6 | exact Or.inr a6) (by first | exact Or.inl b6 | exact Or.inr b6)).2
         rw [hv] at b5
         first
           | exact absurd b5 a5
           | exact absurd a5 b5
           | (rw [a7, b7]; exact ⟨a6.trans b6.symm, kw_RMx (by decide) (by decide)⟩)
           | (obtain ⟨g1, g2⟩ := both (Or.inl a6) (Or.inl b6)
              obtain ⟨f1, f2⟩ := p5 a6
              obtain ⟨f3, f4⟩ := m5 b6
              rw [a7, b7]
              refine ⟨a6.trans b6.symm, rfl, fun z => absurd z (by decide), fun z => absurd z (by decide), fun _ j hj => ⟨?_, ?_⟩⟩
              · exact (f3 j hj).trans ((kd_H_ext (k := R) (st := S) hC.1 hC.2 2 (kd_kx_ext g1 g2) (j % 8) (by omega)).trans (f1 j hj).symm)
              · exact (f4 j hj).trans ((kd_H_ext (k := R) (st := S) hC.1 hC.2 2 (kd_kx_ext rC rHH) (j % 8) (by omega)).trans (f2 j hj).symm)))
  · have p9 : r = -11 ∧ stg' = stg := by
      rcases p1 with ⟨-, a, b⟩ | ⟨a, -⟩ | ⟨a, -⟩ | ⟨a, -⟩ | ⟨a, -⟩ | ⟨a, -⟩
      · exact ⟨a, b⟩
      all_goals exact absurd a h2
    have m9 : q = -11 ∧ sta' = stg := by
      rcases m1 with ⟨-, a, b⟩ | ⟨a, -⟩ | ⟨a, -⟩ | ⟨a, -⟩ | ⟨a, -⟩ | ⟨a, -⟩
      · exact ⟨a, b⟩
      all_goals exact absurd a h2
    obtain ⟨u1, u2, u3⟩ := m2 (Or.inl m9.1)
    obtain ⟨v1, v2, v3, v4⟩ := p2 (Or.inl p9.1)
    rw [p9.2, m9.2, u1, u2, u3, v3, v4]
    exact ⟨p9.1.trans m9.1.symm, rfl, r1, r2, r3⟩
theorem kw_keyOne {ρs stg sta z r : Int32} {ρw : Nat → Nat → Nat} {ρk : Nat → Nat → Int32} {n l c h k k0 k1 : Nat → Int32} {w i : Nat} (hR : kw_RM ρs ρw ρk sta n l c h k) (e1 : ρs = stg) (e3 : ρk = kw_k2 k0 k1) (hs : stg = nI 3) (hw : w < 2) (hi : i < 16) (hz : z = if w = 0 then k0 i else k1 i) (hr : r = k (16 * w + i)) : z = r := by
  rw [e1, e3] at hR
  obtain ⟨q1, q2⟩ := hR.2.2.2 hs i hi
  rw [hz, hr]
  rcases (by omega : w = 0 ∨ w = 1) with rfl | rfl
  · rw [if_pos rfl]
    exact q1.symm
  · rw [if_neg (by decide)]
    exact q2.symm
