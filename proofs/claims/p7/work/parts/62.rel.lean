/-! what the two sides have alike: common rows -/
def kw_k2 (a b : Nat → Int32) : Nat → Nat → Int32 := fun k => match k with
  | 0 => a
  | _ => b
theorem kw_rowEq {n : Nat → Int32} {d : Nat → Nat} {a : Nat} (hd : ∀ j, d j < 4294967296) (h : kv_val (kv_fig n a) 16 = kx_V 8 d) : ∀ j, j < 8 → n (a + j) = nI (d j) := by
  rw [kv_figV] at h
  intro j hj
  have h2 := kx_V_inj (fun _ => kz_ult _) hd h j hj
  rw [kz_u (n (a + j)), h2]
theorem kw_row0 {n : Nat → Int32} {d : Nat → Nat} (hd : ∀ j, d j < 4294967296) (h : kv_val (kv_fig n 0) 16 = kx_V 8 d) : ∀ j, j < 8 → n j = nI (d j) := by
  intro j hj
  have h2 := kw_rowEq hd h j hj
  rw [Nat.zero_add] at h2
  exact h2
theorem kw_rowV0 {n : Nat → Int32} {d : Nat → Nat} (hd : ∀ j, d j < 4294967296) (h : ∀ j, j < 8 → n j = nI (d j)) : kv_val (kv_fig n 0) 16 = kx_V 8 d := kx_V_figs hd (fun j hj => by rw [Nat.zero_add]; exact h j hj)
theorem kw_tauV {g : Nat → Int32} {τ : Nat → Nat → Nat} {a0 a1 a2 a3 a4 a5 a6 : Nat → Nat} (hτ : τ = kw_t7 a0 a1 a2 a3 a4 a5 a6) (hT : kw_T g τ) (b0 : ∀ j, a0 j < 4294967296) (b1 : ∀ j, a1 j < 4294967296) (b2 : ∀ j, a2 j < 4294967296) (b3 : ∀ j, a3 j < 4294967296) (b4 : ∀ j, a4 j < 4294967296) (b5 : ∀ j, a5 j < 4294967296) (b6 : ∀ j, a6 j < 4294967296) :
    kv_val (kv_fig g 0) 16 = kx_V 8 a0 ∧ kv_val (kv_fig g 8) 16 = kx_V 8 a1 ∧ kv_val (kv_fig g 32) 16 = kx_V 8 a4 ∧ kv_val (kv_fig g 40) 16 = kx_V 8 a5 ∧ kv_val (kv_fig g 48) 16 = kx_V 8 a6 ∧ kv_val (kv_fig g 16) 8 = kx_L a2 ∧ kv_val (kv_fig g 24) 8 = kx_L a3 := by
  rw [hτ] at hT
  exact ⟨kx_V_figs b0 (fun j hj => hT 0 (by omega) j hj), kx_V_figs b1 (fun j hj => hT 1 (by omega) j hj), kx_V_figs b4 (fun j hj => hT 4 (by omega) j hj), kx_V_figs b5 (fun j hj => hT 5 (by omega) j hj), kx_V_figs b6 (fun j hj => hT 6 (by omega) j hj), kx_L_figs b2 (fun j hj => hT 2 (by omega) j hj), kx_L_figs b3 (fun j hj => hT 3 (by omega) j hj)⟩
theorem kx_ans_one {a b a' b' r q : Int32} {k1 k2 : Prop} {X X' P : Nat} (hz : a = 1 ↔ b = 1) (hk : k1 ↔ k2) (hX : a = 1 → X = X') (p : kx_ans a k1 X P r a') (m : kx_ans b k2 X' P q b') :
    r = q ∧ ((¬ a = 1 ∧ a' = a ∧ b' = b ∧ ¬ r = 1) ∨ (a = 1 ∧ a' = 1 ∧ b' = 1 ∧ ¬ r = 1) ∨ (a = 1 ∧ a' = -1 ∧ b' = -1 ∧ ¬ r = 1) ∨ (a = 1 ∧ k1 ∧ a' = 2 ∧ b' = 2 ∧ r = 1)) := by
  rcases p with ⟨p1, p2, p3⟩ | ⟨p1, p2, p3, p4⟩ | ⟨p1, p2, p3, p4, p5⟩ | ⟨p1, p2, p3, p4, p5⟩ <;> rcases m with ⟨m1, m2, m3⟩ | ⟨m1, m2, m3, m4⟩ | ⟨m1, m2, m3, m4, m5⟩ | ⟨m1, m2, m3, m4, m5⟩
  · exact ⟨p2.trans m2.symm, Or.inl ⟨p1, p3, m3, by rw [p2]; decide⟩⟩
  · exact absurd (hz.mpr m1) p1
  · exact absurd (hz.mpr m1) p1
  · exact absurd (hz.mpr m1) p1
  · exact absurd (hz.mp p1) m1
  · exact ⟨p3.trans m3.symm, Or.inr (Or.inl ⟨p1, p4, m4, by rw [p3]; decide⟩)⟩
  · exact absurd (hk.mpr m2) p2
  · exact absurd (hk.mpr m2) p2
  · exact absurd (hz.mp p1) m1
  · exact absurd (hk.mp p2) m2
  · exact ⟨p4.trans m4.symm, Or.inr (Or.inr (Or.inl ⟨p1, p5, m5, by rw [p4]; decide⟩))⟩
  · rw [← hX p1] at m3
    exact absurd m3 p3
  · exact absurd (hz.mp p1) m1
  · exact absurd (hk.mp p2) m2
  · rw [← hX p1] at m3
    exact absurd p3 m3
  · exact ⟨p4.trans m4.symm, Or.inr (Or.inr (Or.inr ⟨p1, p2, p5, m5, p4⟩))⟩
theorem kw_altOne {a b : Int32} {w : Nat} (h1 : a = 1 ↔ b = 1) (h2 : a = 2 ↔ b = 2) : kx_alt a w ↔ kx_alt b w := by
  unfold kx_alt
  rw [h1, h2]
/-- a word altered, in both -/
theorem kw_altRow {n n' : Nat → Int32} {y y' : Nat → Nat} {w i v c : Nat} (hi : i < 8) (hn : n' = upd n (8 * w + i) (n (8 * w + i) ^^^ nI v)) (hy : y' = if w = c then kv_up y i (y i ^^^ v) else y) (h : ∀ j, j < 8 → n (8 * c + j) = nI (y j)) : ∀ j, j < 8 → n' (8 * c + j) = nI (y' j) := by
  intro j hj
  rw [hn, hy]
  by_cases hw : w = c
  · rw [if_pos hw, hw]
    unfold upd kv_up
    by_cases hji : j = i
    · rw [if_pos (by omega), if_pos hji, h i hi, kz_xorN]
    · rw [if_neg (by omega), if_neg hji]
      exact h j hj
  · rw [if_neg hw]
    unfold upd
    rw [if_neg (by omega)]
    exact h j hj
theorem kw_altKeep {n n' : Nat → Int32} {w i v c : Nat} (hi : i < 8) (hw : w ≠ c) (hn : n' = upd n (8 * w + i) (n (8 * w + i) ^^^ nI v)) : ∀ j, j < 8 → n' (8 * c + j) = n (8 * c + j) := by
  intro j hj
  rw [hn]
  unfold upd
  rw [if_neg (by omega)]
/-! what the two sides have alike, the digest left open (set 5) -/
def kw_RM (ρs : Int32) (ρw : Nat → Nat → Nat) (_ρk : Nat → Nat → Int32) (sta : Int32) (n _l _c _h _k : Nat → Int32) : Prop :=
  ((ρs = 0 ↔ sta = 0) ∧ (ρs = 1 ↔ sta = 1) ∧ (ρs = 2 ↔ sta = 2)) ∧ (ρs = 1 → ∀ j, j < 8 → n j = nI (ρw 0 j))
theorem kw_RM0 {ρs sta : Int32} {ρw : Nat → Nat → Nat} {ρk : Nat → Nat → Int32} {n l c h k : Nat → Int32} (h1 : ρs = 0) (h2 : sta = 0) : kw_RM ρs ρw ρk sta n l c h k := by
  rw [h1, h2]
  exact ⟨⟨Iff.rfl, Iff.rfl, Iff.rfl⟩, fun q => absurd q (by decide)⟩
theorem kw_offR {ρs stg stg' sta sta' r q : Int32} {ρw : Nat → Nat → Nat} {ρk : Nat → Nat → Int32} {y0 y0' y1 y2 y3 off off' c1 h1 : Nat → Nat} {n n' l l' cc hh kk : Nat → Int32} {ok1 ok2 : Prop} {X X' : Nat} (hR : kw_RM ρs ρw ρk sta n l cc hh kk) (e1 : ρs = stg) (e2 : ρw = kw_t7 y0 y1 y2 y3 off c1 h1) (hk : ok1 ↔ ok2) (hX : X' = X) (hy : ∀ j, y0' j < 4294967296)
    (p1 : kx_off (stg = 0) ok1 r (stg' = 0)) (p2 : r = 1 → stg' = nI 1) (p3 : r = 1 → kx_V 8 y0' = X) (_p4 : r = 1 → ∀ j, j < 8 → off' j = y0' j) (p5 : ¬ r = 1 → y0' = y0 ∧ off' = off) (p6 : ¬ r = 1 → stg' = stg)
    (m1 : kx_off (sta = 0) ok2 q (sta' = 0)) (m2 : q = 1 → sta' = nI 1) (m3 : q = 1 → kv_val (kv_fig n' 0) 16 = X') (_m4 : q = 1 → ∀ j, j < 8 → l' j = n' j) (m5 : ¬ q = 1 → n' = n ∧ l' = l) (m6 : ¬ q = 1 → sta' = sta) : r = q ∧ kw_RM stg' (kw_t7 y0' y1 y2 y3 off' c1 h1) ρk sta' n' l' cc hh kk := by
  rw [e1] at hR
  obtain ⟨⟨z0, z1, z2⟩, hx⟩ := hR
  have hrq := (kx_off_one z0 hk p1 m1).1
  refine ⟨hrq, ?_⟩
  by_cases h : r = 1
  · have hq : q = 1 := hrq.symm.trans h
    rw [p2 h, m2 hq]
    exact ⟨⟨Iff.rfl, Iff.rfl, Iff.rfl⟩, fun _ => kw_row0 hy ((m3 hq).trans (hX.trans (p3 h).symm))⟩
  · have hq : ¬ q = 1 := fun h9 => h (hrq.trans h9)
    rw [p6 h, m6 hq, (m5 hq).1, (p5 h).1]
    refine ⟨⟨z0, z1, z2⟩, fun a => ?_⟩
    have h9 := hx a
    rw [e2] at h9
    exact h9
theorem kw_ansR {ρs stg stg' sta sta' r q : Int32} {ρw : Nat → Nat → Nat} {ρk : Nat → Nat → Int32} {y0 y1 y1' y2 y2' y3 y3' off c1 c1' h1 h1' : Nat → Nat} {n n' l cc cc' hh hh' kk : Nat → Int32} {ok1 ok2 : Prop} {P P' : Nat} (hR : kw_RM ρs ρw ρk sta n l cc hh kk) (e1 : ρs = stg) (e2 : ρw = kw_t7 y0 y1 y2 y3 off c1 h1) (hk : ok1 ↔ ok2) (hP : P' = P) (hy : ∀ j, y0 j < 4294967296)
    (p1 : kx_ans stg ok1 (kx_V 8 y0) P r stg') (m1 : kx_ans sta ok2 (kv_val (kv_fig n 0) 16) P' q sta') (m4 : ¬ q = 1 → n' = n ∧ cc' = cc ∧ hh' = hh) : r = q ∧ kw_RM stg' (kw_t7 y0 y1' y2' y3' off c1' h1') ρk sta' n' l cc' hh' kk := by
  rw [e1, e2] at hR
  obtain ⟨⟨z0, z1, z2⟩, hx⟩ := hR
  rw [hP] at m1
  obtain ⟨hrq, h⟩ := kx_ans_one z1 hk (fun a => (kw_rowV0 hy (hx a)).symm) p1 m1
  refine ⟨hrq, ?_⟩
  rcases h with ⟨a1, a2, a3, a4⟩ | ⟨a1, a2, a3, a4⟩ | ⟨a1, a2, a3, a4⟩ | ⟨a1, -, a2, a3, a4⟩
  · rw [a2, a3]
    exact ⟨⟨z0, z1, z2⟩, fun a => absurd a a1⟩
  · rw [a2, a3, (m4 (fun h9 => a4 (hrq.trans h9))).1]
    exact ⟨⟨Iff.rfl, Iff.rfl, Iff.rfl⟩, fun _ => hx a1⟩
  · rw [a2, a3]
    exact ⟨⟨Iff.rfl, Iff.rfl, Iff.rfl⟩, fun a => absurd a (by decide)⟩
  · rw [a2, a3]
    exact ⟨⟨Iff.rfl, Iff.rfl, Iff.rfl⟩, fun a => absurd a (by decide)⟩
theorem kx_acc3 {st st' r : Int32} {ok : Prop} {N T Y P S H : Nat} (h : kx_acc st ok N T Y P S H r st') : (¬ st = 2 ∧ st' = st) ∨ (st = 2 ∧ ¬ ok ∧ st' = 2) ∨ (st = 2 ∧ ok ∧ ¬ st' = 0 ∧ ¬ st' = 1 ∧ ¬ st' = 2) := by
  rcases h with ⟨a, -, b⟩ | ⟨a, b, -, c⟩ | ⟨a, b, -, -, c⟩ | ⟨a, b, -, -, -, c⟩ | ⟨a, b, -, -, -, -, c⟩ | ⟨a, b, -, -, -, -, c⟩
  · exact Or.inl ⟨a, b⟩
  · exact Or.inr (Or.inl ⟨a, b, c⟩)
  all_goals exact Or.inr (Or.inr ⟨a, b, by rw [c]; decide, by rw [c]; decide, by rw [c]; decide⟩)
theorem kw_accR {ρs stg stg' sta sta' r q : Int32} {ρw : Nat → Nat → Nat} {ρk ρk' : Nat → Nat → Int32} {y0 y1 y2 y3 off c1 h1 : Nat → Nat} {n l cc cc' hh hh' kk kk' : Nat → Int32} {ok1 ok2 : Prop} {N T Y P S H N' T' Y' P' S' H' : Nat} (hR : kw_RM ρs ρw ρk sta n l cc hh kk) (e1 : ρs = stg) (e2 : ρw = kw_t7 y0 y1 y2 y3 off c1 h1) (hk : ok1 ↔ ok2)
    (p1 : kx_acc stg ok1 N T Y P S H r stg') (m1 : kx_acc sta ok2 N' T' Y' P' S' H' q sta') : kw_RM stg' (kw_t7 y0 y1 y2 y3 off c1 h1) ρk' sta' n l cc' hh' kk' := by
  rw [e1, e2] at hR
  obtain ⟨⟨z0, z1, z2⟩, hx⟩ := hR
  rcases kx_acc3 p1 with ⟨a1, a2⟩ | ⟨a1, a2, a3⟩ | ⟨a1, a2, a3, a4, a5⟩ <;> rcases kx_acc3 m1 with ⟨b1, b2⟩ | ⟨b1, b2, b3⟩ | ⟨b1, b2, b3, b4, b5⟩
  · rw [a2, b2]
    exact ⟨⟨z0, z1, z2⟩, hx⟩
  · exact absurd (z2.mpr b1) a1
  · exact absurd (z2.mpr b1) a1
  · exact absurd (z2.mp a1) b1
  · rw [a3, b3]
    exact ⟨⟨Iff.rfl, Iff.rfl, Iff.rfl⟩, fun a => absurd a (by decide)⟩
  · exact absurd (hk.mpr b2) a2
  · exact absurd (z2.mp a1) b1
  · exact absurd (hk.mp a2) b2
  · exact ⟨⟨⟨fun a => absurd a a3, fun a => absurd a b3⟩, ⟨fun a => absurd a a4, fun a => absurd a b4⟩, ⟨fun a => absurd a a5, fun a => absurd a b5⟩⟩, fun a => absurd a a4⟩
theorem kw_altR {ρs stg sta z q : Int32} {ρw : Nat → Nat → Nat} {ρk : Nat → Nat → Int32} {y0 y0' y1 y1' y2 y2' y3 y3' off c1 h1 : Nat → Nat} {n n' l cc hh kk : Nat → Int32} {w i v : Nat} (hR : kw_RM ρs ρw ρk sta n l cc hh kk) (e1 : ρs = stg) (e2 : ρw = kw_t7 y0 y1 y2 y3 off c1 h1) (hi : i < 8)
    (p : (kx_alt stg w ∧ z = 1 ∧ (y0' = if w = 0 then kv_up y0 i (y0 i ^^^ v) else y0) ∧ (y1' = if w = 1 then kv_up y1 i (y1 i ^^^ v) else y1) ∧ (y2' = if w = 2 then kv_up y2 i (y2 i ^^^ v) else y2) ∧ (y3' = if w = 3 then kv_up y3 i (y3 i ^^^ v) else y3)) ∨ (¬ kx_alt stg w ∧ z = 0 ∧ y0' = y0 ∧ y1' = y1 ∧ y2' = y2 ∧ y3' = y3))
    (m : (kx_alt sta w ∧ q = 1 ∧ n' = upd n (8 * w + i) (n (8 * w + i) ^^^ nI v)) ∨ (¬ kx_alt sta w ∧ q = 0 ∧ n' = n)) : z = q ∧ kw_RM stg (kw_t7 y0' y1' y2' y3' off c1 h1) ρk sta n' l cc hh kk := by
  rw [e1, e2] at hR
  obtain ⟨⟨z0, z1, z2⟩, hx⟩ := hR
  have ha := kw_altOne (w := w) z1 z2
  rcases p with ⟨p1, p2, p3, -, -, -⟩ | ⟨p1, p2, p3, -, -, -⟩ <;> rcases m with ⟨m1, m2, m3⟩ | ⟨m1, m2, m3⟩
  · refine ⟨p2.trans m2.symm, ⟨z0, z1, z2⟩, fun a j hj => ?_⟩
    have h9 := kw_altRow (c := 0) hi m3 p3 (fun j hj => by rw [Nat.mul_zero, Nat.zero_add]; exact hx a j hj) j hj
    rw [Nat.mul_zero, Nat.zero_add] at h9
    exact h9
  · exact absurd (ha.mp p1) m1
  · exact absurd (ha.mpr m1) p1
  · rw [m3, p3]
    exact ⟨p2.trans m2.symm, ⟨z0, z1, z2⟩, hx⟩
def kw_CN (_r _s _R _S : Nat → Int32) : Prop := True
