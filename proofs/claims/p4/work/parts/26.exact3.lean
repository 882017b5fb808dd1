/-! what the reference's find, isWithin and raiseBy need -/
theorem kz_and16L (x : Int64) : ∃ z : Nat, z < 65536 ∧ x &&& kz_lz 65535 = kz_lz (z : Int) := by
  obtain ⟨n, rfl⟩ : ∃ n : Int, x = kz_lz n := ⟨x.toInt, (Int64.ofInt_toInt x).symm⟩
  refine ⟨(n % 65536).toNat, by omega, ?_⟩
  rw [kz_lz_andz]
  congr 1
  omega
section KX3
variable {p : Program} {l : Launch} {e : Env} {R : Room} {s : State} {m : MethodId} {args : Array Value} {below : List Frame} {meth : Method} {c : Code} {H : Heap} {locs : List Loc} {cells slots : Nat} {Q : State → Prop}
variable {cc : ByteArray} {pc : Nat} {ls : Array Slot} {rest : List Value}
theorem kz_mask16 (hexec : p.tables.exec = Jvm.exec) (hb : c.code = cc) {x : Int64} (hdg : decode cc pc = .ok (.land, 1)) (k : ∀ z : Nat, z < 65536 → W p l e R s m args below meth c H locs cells slots Q (F0 m (pc + 1) ls (.long (kz_lz (z : Int)) :: rest))) : W p l e R s m args below meth c H locs cells slots Q (F0 m pc ls (.long (kz_lz 65535) :: .long x :: rest)) := by
  obtain ⟨z, hz, ez⟩ := kz_and16L x
  refine lv_land hexec hb hdg ?_
  rw [ez]
  exact k z hz
end KX3
theorem kv_kz {k : Nat} {z : Int} (hk : k < 65537) (h0 : 0 ≤ z) (h1 : z < 65537) : 0 ≤ (k : Int) * z ∧ (k : Int) * z < 4294967297 := by
  obtain ⟨n, rfl⟩ : ∃ n : Nat, z = (n : Int) := ⟨z.toNat, by omega⟩
  have h2 : k * n ≤ 65536 * 65536 := Nat.mul_le_mul (by omega) (by omega)
  have h3 : (k : Int) * (n : Int) = ((k * n : Nat) : Int) := (Int.natCast_mul _ _).symm
  rw [h3]
  omega
theorem kv_some_low {d F : Nat → Nat} (h : kv_some d 0 16) (h1 : ∀ j, j < 8 → d j = F j) (h2 : ∀ j, 8 ≤ j → j < 16 → d j = 0) : kv_some F 0 8 := by
  obtain ⟨j, a, b, c⟩ := h
  rcases Nat.lt_or_ge j 8 with h3 | h3
  · exact ⟨j, a, h3, by rw [← h1 j h3]; exact c⟩
  · exact absurd c (by rw [h2 j h3 b]; omega)
theorem kv_some_up {d F : Nat → Nat} (h : kv_some F 0 8) (h1 : ∀ j, j < 8 → d j = F j) : kv_some d 0 16 := by
  obtain ⟨j, a, b, c⟩ := h
  exact ⟨j, a, by omega, by rw [h1 j b]; exact c⟩
theorem kv_invZ {z : Int} (h0 : 0 ≤ z) (h1 : z < 65537) (h2 : ¬ z = 0) : ∃ x : Nat, x < 65537 ∧ (1 + ((x : Nat) : Int) * z) % 65537 = 0 := by
  obtain ⟨n, rfl⟩ : ∃ n : Nat, z = (n : Int) := ⟨z.toNat, by omega⟩
  obtain ⟨x, h3, h4⟩ := kv_inv (a := n) (by omega) (by omega)
  refine ⟨x, h3, ?_⟩
  rw [← Int.natCast_mul]
  omega
