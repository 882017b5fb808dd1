/-! what the law's start gives (by wip/law_start.py) -/
theorem kw_over {args : Array Value} {s : State} (h : (Cond.arrayOver (.array .int)).before args s = true) : ∃ comp c k, s.vm.findClass "[I" = some comp ∧ s.vm.classes[c]? = some k ∧ k.kind = .array comp (.array .int) ∧ s.vm.findClass "[[I" = some c := by
  have e1 : (FieldType.array .int).toString = "[I" := by decide +kernel
  have e2 : "[" ++ "[I" = "[[I" := by decide +kernel
  simp only [Cond.before, Cond.holds, Cond.value, beq_iff_eq, e1, e2] at h
  obtain ⟨comp, hc, h⟩ := Option.bind_eq_some_iff.mp h
  obtain ⟨c, hi, h⟩ := Option.bind_eq_some_iff.mp h
  obtain ⟨k, hk, h⟩ := Option.map_eq_some_iff.mp h
  obtain ⟨hlt, hp, -⟩ := Array.findIdx?_eq_some_iff_getElem.mp hi
  rw [(Array.getElem?_eq_some_iff.mp hk).2] at hp
  cases hq : k.kind with
  | array comp' ty =>
    rw [hq] at h hp
    dsimp only at h hp
    rw [Bool.and_eq_true, decide_eq_true_eq, decide_eq_true_eq] at h
    refine ⟨comp, c, k, hc, hk, ?_, h.2⟩
    rw [hq, h.1, eq_of_beq hp]
  | _ => rw [hq] at h; cases h
theorem kw_ofK {s : State} {cA comp : ClassId} {k : Class} {ty : FieldType} (h1 : s.vm.classes[cA]? = some k) (h2 : k.kind = .array comp ty) : ArrOfT s cA ty := fun _ _ => ⟨(fun _ h => by cases h), k, h1, comp, h2⟩
theorem kw_arrays {args : Array Value} {s : State} (hI : (Cond.arrayClass .int).before args s = true) (hB : (Cond.arrayClass .byte).before args s = true) (hJ : (Cond.arrayClass .long).before args s = true) (hO : (Cond.arrayOver (.array .int)).before args s = true) :
    ∃ cI cAA cB cL : ClassId, (∀ (k : Nat) (q : ClassId × FieldType), ([(cI, .int), (cAA, .array .int), (cB, .byte), (cL, .long)] : List (ClassId × FieldType))[k]? = some q → ArrOfT s q.1 q.2 ∧ va_RA s q.1 q.2) ∧ kz_GA cAA cI s ∧ ∀ ty, ArrOfT s cI ty → ty = .int := by
  obtain ⟨cI, kI, c0, a1, a2, a3⟩ := Cond.arrayClass_spec hI
  obtain ⟨cB, kB, c1, b1, b2, b3⟩ := Cond.arrayClass_spec hB
  obtain ⟨cL, kL, c2, d1, d2, d3⟩ := Cond.arrayClass_spec hJ
  obtain ⟨comp, cAA, kA, f1, f2, f3, f4⟩ := kw_over hO
  have e1 : "[" ++ FieldType.int.toString = "[I" := by decide +kernel
  have e2 : "[" ++ (FieldType.array .int).toString = "[[I" := by decide +kernel
  have hcomp : comp = cI := by
    have h9 := a1
    rw [e1, f1] at h9
    exact Option.some.inj h9
  rw [hcomp] at f3
  refine ⟨cI, cAA, cB, cL, fun k q hq => ?_, ⟨kA, kI, c0, f2, f3, a2, a3, f4⟩, fun ty hty => ?_⟩
  · match k, hq with
    | 0, hq => cases hq; exact ⟨kw_ofK a2 a3, a1⟩
    | 1, hq => cases hq; exact ⟨kw_ofK f2 f3, by show s.vm.findClass _ = some cAA; rw [e2]; exact f4⟩
    | 2, hq => cases hq; exact ⟨kw_ofK b2 b3, b1⟩
    | 3, hq => cases hq; exact ⟨kw_ofK d2 d3, d1⟩
    | k + 4, hq => simp at hq
  · obtain ⟨-, k, hk, comp', hkind⟩ := hty 0 (fun _ => .null)
    cases a2.symm.trans hk
    rw [a3] at hkind
    cases hkind
    rfl
theorem kw_static {args : Array Value} {s : State} {C n : String} {N : Nat} {A : Nat → Prop} {cI : ClassId} (hA : ∀ a : Nat, a < s.heap.size → ¬ A a) (g : Nat → Int32) (hN : N < 2 ^ 31) (hl : (Cond.laysStatic C n "[I").before args s = true) (hini : (Cond.initialized C).before args s = true) (harr : (Cond.arrayOf (.static C n "[I") .int).before args s = true) (hlen : (Cond.eq (.length (.static C n "[I")) (.int (Int32.ofNat N))).before args s = true)
    (hel : ∀ j : Nat, j < N → (Cond.eq (.elem (.static C n "[I") (.int (Int32.ofNat j))) (.int (g j))).before args s = true) (hcI : ∀ ty, ArrOfT s cI ty → ty = .int) : ∃ t : Nat, va_Z C n "[I" (.ref t) A s s.heap ∧ kz_ra s s.heap t cI N g ∧ ¬ A t := by
  obtain ⟨t, ht, cell, h1, h2, h3, h4, h5, h6, h7⟩ := va_Tof (f := fun j => .int (g j)) hN harr (va_eqt hlen) (fun j hj => va_eqt (hel j hj)) hA
  exact ⟨t, va_Zref hl hini ht hA, ⟨cell, h1, fun ty hty => by rw [hcI ty hty]; exact h2, h3, h4, h5, h6⟩, h7⟩
theorem kw_thr {args : Array Value} {s : State} (hts : ∀ w ∈ lw_tbl, w.before args s = true) (hU : (Cond.isRef (.static Bundle.tN "UNASSIGNED_STACK" Bundle.steD)).before args s = true) (hV : (Cond.isRef (.static Bundle.tN "SUPPRESSED_SENTINEL" Bundle.listD)).before args s = true) (l1 : Cond.laysStatic Bundle.tN "UNASSIGNED_STACK" Bundle.steD ∈ lw_tbl) (l2 : Cond.laysStatic Bundle.tN "SUPPRESSED_SENTINEL" Bundle.listD ∈ lw_tbl) (l3 : Cond.initialized Bundle.tN ∈ lw_tbl)
    {own : String} {ic : Nat} {E : String} {names : List String} (hall : (Bundle.ownAtoms own ic E names).all (fun w => (kz_kind w && decide (w ∈ lw_tbl)) || kz_heapW w) = true) : kz_thr own ic E names s := by
  intro a w hw
  have h := List.all_eq_true.mp hall w hw
  have hO : kz_old s s := ⟨State.WarmedH.refl s, fun _ _ => rfl⟩
  rw [Bool.or_eq_true, Bool.and_eq_true] at h
  rcases h with ⟨hk, hm⟩ | hh
  · exact kz_keepW hO hk (hts w (of_decide_eq_true hm))
  · unfold kz_heapW at hh
    rw [Bool.or_eq_true] at hh
    rcases hh with hh | hh
    · rw [of_decide_eq_true hh]; exact kz_keepR hO (hts _ l1) (hts _ l3) hU
    · rw [of_decide_eq_true hh]; exact kz_keepR hO (hts _ l2) (hts _ l3) hV
def kw_done : Nat → Nat := fun j => [0, 0, 0, 0, 0, 0, 0, 1].getD j 0
def kw_gone : Nat → Int32 := kz_dg kw_done
set_option maxRecDepth 100000 in
theorem kw_mone : ∀ j : Nat, j < 8 → Cond.eq (.elem (.static "KeyMeeting$Modulus" "ONE" "[I") (.int (Int32.ofNat j))) (.int (kw_gone j)) ∈ flatC (Cond.and given_1 narrow_1) := by decide +kernel
def kw_dexpo : Nat → Nat := fun j => [0, 0, 0, 0, 0, 0, 0, 65537].getD j 0
def kw_gexpo : Nat → Int32 := kz_dg kw_dexpo
set_option maxRecDepth 100000 in
theorem kw_mexpo : ∀ j : Nat, j < 8 → Cond.eq (.elem (.static "KeyMeeting$Host" "EXPONENT_WORDS" "[I") (.int (Int32.ofNat j))) (.int (kw_gexpo j)) ∈ flatC (Cond.and given_1 narrow_1) := by decide +kernel
def kw_lstart : List Int32 := [(1779033703), (-1150833019), (1013904242), (-1521486534), (1359893119), (-1694144372), (528734635), (1541459225)]
def kw_gstart : Nat → Int32 := fun j => kw_lstart.getD j 0
set_option maxRecDepth 100000 in
theorem kw_mstart : ∀ j : Nat, j < 8 → Cond.eq (.elem (.static "KeyMeeting$Digest" "START" "[I") (.int (Int32.ofNat j))) (.int (kw_gstart j)) ∈ flatC (Cond.and given_1 narrow_1) := by decide +kernel
def kw_lroots : List Int32 := ((1116352408) :: (1899447441) :: (-1245643825) :: (-373957723) :: (961987163) :: (1508970993) :: (-1841331548) :: (-1424204075) :: (-670586216) :: (310598401) :: (607225278) :: (1426881987) :: (1925078388) :: (-2132889090) :: (-1680079193) :: (-1046744716) :: (-459576895) :: (-272742522) :: (264347078) :: (604807628) :: (770255983) :: (1249150122) :: (1555081692) :: (1996064986) :: (-1740746414) :: (-1473132947) :: (-1341970488) :: (-1084653625) :: (-958395405) :: (-710438585) :: (113926993) :: (338241895) :: (666307205) :: (773529912) :: (1294757372) :: (1396182291) :: (1695183700) :: (1986661051) :: (-2117940946) :: (-1838011259) :: (-1564481375) :: (-1474664885) :: (-1035236496) :: (-949202525) :: (-778901479) :: (-694614492) :: (-200395387) :: (275423344) :: (430227734) :: (506948616) :: (659060556) :: (883997877) :: (958139571) :: (1322822218) :: (1537002063) :: (1747873779) :: (1955562222) :: (2024104815) :: (-2067236844) :: (-1933114872) :: (-1866530822) :: (-1538233109) :: (-1090935817) :: (-965641998) :: [])
def kw_groots : Nat → Int32 := fun j => kw_lroots.getD j 0
set_option maxRecDepth 100000 in
theorem kw_mroots : ∀ j : Nat, j < 64 → Cond.eq (.elem (.static "KeyMeeting$Digest" "ROOTS" "[I") (.int (Int32.ofNat j))) (.int (kw_groots j)) ∈ flatC (Cond.and given_1 narrow_1) := by decide +kernel
set_option maxRecDepth 100000 in
theorem kw_eroots : ∀ j : Nat, j < 64 → kw_groots j = kd_K j := by decide +kernel
set_option maxRecDepth 100000 in
theorem kw_estart : ∀ j : Nat, j < 8 → kw_gstart j = kd_I j := by decide +kernel
theorem kw_bone : ∀ j, kw_done j < 4294967296 := by
  intro j
  by_cases h : j < 8
  · have h9 : ∀ j : Nat, j < 8 → kw_done j < 4294967296 := by decide +kernel
    exact h9 j h
  · unfold kw_done
    rw [List.getD_eq_getElem?_getD, List.getElem?_eq_none (by show 8 ≤ j; omega)]
    show 0 < 4294967296
    decide
theorem kw_vone : kx_V 8 kw_done = 1 := by decide +kernel
theorem kw_bexpo : ∀ j, kw_dexpo j < 4294967296 := by
  intro j
  by_cases h : j < 8
  · have h9 : ∀ j : Nat, j < 8 → kw_dexpo j < 4294967296 := by decide +kernel
    exact h9 j h
  · unfold kw_dexpo
    rw [List.getD_eq_getElem?_getD, List.getElem?_eq_none (by show 8 ≤ j; omega)]
    show 0 < 4294967296
    decide
theorem kw_vexpo : kx_V 8 kw_dexpo = 65537 := by decide +kernel
set_option maxRecDepth 100000 in
theorem kw_atI : (Bundle.ownAtoms "KeyMeeting" 143 "java/lang/IndexOutOfBoundsException" kz_names).all (fun w => (kz_kind w && decide (w ∈ lw_tbl)) || kz_heapW w) = true := by decide +kernel
set_option maxRecDepth 100000 in
theorem kw_atA : (Bundle.ownAtoms "KeyMeeting" 72 "java/lang/IllegalArgumentException" kz_names).all (fun w => (kz_kind w && decide (w ∈ lw_tbl)) || kz_heapW w) = true := by decide +kernel
set_option maxRecDepth 100000 in
theorem kw_atS : (Bundle.ownAtoms "KeyMeeting" 132 "java/lang/IllegalStateException" kz_names).all (fun w => (kz_kind w && decide (w ∈ lw_tbl)) || kz_heapW w) = true := by decide +kernel

