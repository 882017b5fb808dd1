/-! the stage and the state: 0 or not; what offer answers -/
theorem kz_st0 {a b : Int32} (ha : ¬ a = 0) (hb : ¬ b = 0) : (a = 0 ↔ b = 0) := ⟨fun h => absurd h ha, fun h => absurd h hb⟩
def kx_off (z ok : Prop) (r : Int32) (z' : Prop) : Prop := (¬ z ∧ r = -11 ∧ ¬ z') ∨ (z ∧ ¬ ok ∧ r = -10 ∧ z') ∨ (z ∧ ok ∧ r = 1 ∧ ¬ z')
theorem kx_off_one {z1 z2 k1 k2 a b : Prop} {r q : Int32} (hz : z1 ↔ z2) (hk : k1 ↔ k2) (h1 : kx_off z1 k1 r a) (h2 : kx_off z2 k2 q b) : r = q ∧ (a ↔ b) := by
  rcases h1 with ⟨a1, a2, a3⟩ | ⟨a1, a2, a3, a4⟩ | ⟨a1, a2, a3, a4⟩ <;> rcases h2 with ⟨b1, b2, b3⟩ | ⟨b1, b2, b3, b4⟩ | ⟨b1, b2, b3, b4⟩
  · exact ⟨a2.trans b2.symm, ⟨fun h => absurd h a3, fun h => absurd h b3⟩⟩
  · exact absurd (hz.mpr b1) a1
  · exact absurd (hz.mpr b1) a1
  · exact absurd (hz.mp a1) b1
  · exact ⟨a3.trans b3.symm, ⟨fun _ => b4, fun _ => a4⟩⟩
  · exact absurd (hk.mpr b2) a2
  · exact absurd (hz.mp a1) b1
  · exact absurd (hk.mp a2) b2
  · exact ⟨a3.trans b3.symm, ⟨fun h => absurd h a4, fun h => absurd h b4⟩⟩
