/-! THROWS: the words of a throw of one's own, kept over calls and stores -/
/-- U is a later state than s: the tables warmed, the old cells as they were -/
def kz_old (s U : State) : Prop := s.WarmedH U.vm ∧ ∀ q : Nat, q < s.heap.size → U.heap[q]? = s.heap[q]?
def kz_kind (w : Cond) : Bool := goodWord w || (match w with
  | .declares _ => true
  | .castable _ _ => true
  | .laysStatic _ _ _ => true
  | _ => false)
theorem kz_keepW {s U : State} {a a' : Array Value} {w : Cond} (hO : kz_old s U) (hk : kz_kind w = true) (h : w.before a s = true) : w.before a' U = true := by
  unfold kz_kind at hk
  rw [Bool.or_eq_true] at hk
  rcases hk with hk | hk
  · exact word_at hO.1 (good_of_word hk) h
  · split at hk
    · exact va_Nw.use rfl (va_Nw.warmD hO.1 (va_Nw.of rfl h))
    · exact va_Nw.use rfl (va_Nw.warmC hO.1 (va_Nw.of rfl h))
    · obtain ⟨c, k, i, f, x, cell, h1, h2, h3, h4, h5, h6, h7, h8, h9⟩ := Cond.laysStatic_spec h
      obtain ⟨k', hi', he⟩ := State.fieldFound?_setVm hO.1.alike h2
      exact Cond.laysStatic_of (s := U) (by rw [hO.1.alike.findClass]; exact h1) hi' h3 (by rw [he]; exact h4) (by rw [hO.2 x (Array.getElem?_eq_some_iff.mp h5).1]; exact h5) h6 h7 h8 (by rw [he]; exact h9)
    · cases hk
theorem kz_keepR {s U : State} {a a' : Array Value} {C n d : String} (hO : kz_old s U) (hl : (Cond.laysStatic C n d).before a s = true) (hini : (Cond.initialized C).before a s = true) (h : (Cond.isRef (.static C n d)).before a s = true) : (Cond.isRef (.static C n d)).before a' U = true := by
  have hz := va_Zqof (A := fun q => s.heap.size ≤ q) hl hini h (fun q hq => Nat.not_le.mpr hq)
  have hz2 : va_Zq C n d (fun q => s.heap.size ≤ q) U U.heap := va_Zq.moved hO.1.alike (hz.kept (fun q h1 _ => hO.2 q h1))
  have key : ∀ v : Value, v.isRef = true → va_Z C n d v (fun q => s.heap.size ≤ q) U U.heap → (Cond.isRef (.static C n d)).before a' U = true := by
    intro v hv h
    obtain ⟨cf, kf, fi, f, x, cell, h1, h2, h3, h4, h5, h6, h7, -⟩ := h
    have he : (Term.static C n d).eval a' U none [] U = some v := by simp [Term.eval, State.fieldNamed?, h1, h2, h4, h5, h6, h7]
    simp only [Cond.before, Cond.holds, Cond.value, he]
    cases v <;> simp_all [Value.isRef]
  rcases hz2 with h | ⟨t, h⟩
  · exact key _ rfl h
  · exact key _ rfl h
def kz_thr (own : String) (ic : Nat) (E : String) (names : List String) (U : State) : Prop := ∀ (a : Array Value) (w : Cond), w ∈ Bundle.ownAtoms own ic E names → w.before a U = true
def kz_heapW (w : Cond) : Bool := decide (w = .isRef (.static Bundle.tN "UNASSIGNED_STACK" Bundle.steD)) || decide (w = .isRef (.static Bundle.tN "SUPPRESSED_SENTINEL" Bundle.listD))
theorem kz_thr.old {own : String} {ic : Nat} {E : String} {names : List String} {s U : State} (hO : kz_old s U) (hk : (Bundle.ownAtoms own ic E names).all (fun w => kz_kind w || kz_heapW w) = true) (h : kz_thr own ic E names s) : kz_thr own ic E names U := by
  intro a w hw
  have h1 := List.all_eq_true.mp hk w hw
  rw [Bool.or_eq_true] at h1
  rcases h1 with h1 | h1
  · exact kz_keepW hO h1 (h #[] w hw)
  · unfold kz_heapW at h1
    rw [Bool.or_eq_true] at h1
    rcases h1 with h1 | h1
    · cases of_decide_eq_true h1
      exact kz_keepR hO (h #[] (.laysStatic Bundle.tN "UNASSIGNED_STACK" Bundle.steD) (by simp [Bundle.ownAtoms, Bundle.throwableAtoms])) (h #[] (.initialized Bundle.tN) (by simp [Bundle.ownAtoms, Bundle.throwableAtoms])) (h #[] _ hw)
    · cases of_decide_eq_true h1
      exact kz_keepR hO (h #[] (.laysStatic Bundle.tN "SUPPRESSED_SENTINEL" Bundle.listD) (by simp [Bundle.ownAtoms, Bundle.throwableAtoms])) (h #[] (.initialized Bundle.tN) (by simp [Bundle.ownAtoms, Bundle.throwableAtoms])) (h #[] _ hw)
/-! a method that throws: nothing old is written -/
def kz_QT (E : String) (mc ms : Nat) : Array Value → State → Outcome → State → Prop := fun _ st o t => ∃ (q : Addr) (ce : Cell), o = .threw q ∧ t.heap[q]? = some ce ∧ ce.vm = .none ∧ st.vm.findClass E = some ce.cls ∧ st.WarmedH t.vm ∧ st.sameButNew ({ t with vm := st.vm } : State) [] mc ms
def kz_MetT (l : Launch) (y : MethodName) (ws : List Cond) (rm : Room) (Pc : Array Value → State → Prop) (E : String) (mc ms : Nat) : Prop := MetFree l y (headSpec ws rm) Pc (fun _ _ _ _ _ => True) (kz_QT E mc ms)
def kz_MQT (below : List Frame) (E : String) (a : Array Value) (s : State) (mc ms : Nat) : State → Prop := fun t => ∃ o, t.status = .running ∧ Ended t below o ∧ kz_QT E mc ms a s o t
theorem kz_ofT {l : Launch} {y : MethodName} {ws ws' : List Cond} {rm : Room} {Pc : Array Value → State → Prop} {E : String} {mc ms : Nat} {cc : ByteArray} {maxL : Nat} {ret : Option FieldType} (hy : plainName y.cls = true) (hw : ws = Cond.code y cc maxL ret :: ws')
    (body : ∀ p e s m args below meth c s₁, BodyLoose p l y (headSpec ws rm) cc maxL ret e s m args below meth c s₁ → c.maxLocals = maxL → (∀ x ∈ c.exceptionTable.toList, False) → Pc args s →
      W p l e (headSpec ws rm).room s m args below meth c s.heap [] 0 0 (kz_MQT below E args s mc ms) (entryFrame m args maxL)) : kz_MetT l y ws rm Pc E mc ms := by
  refine MetFree.of_bodyS (code := cc) (maxLocals := maxL) (ret := ret) hy ?_ ?_
  · intro args s m h hn
    obtain ⟨meth, c, h1, h2, h3, h4, h5, h6, -, -⟩ := Cond.code_spec hn (atoms_spec (ws := ws) h _ (by rw [hw]; exact List.mem_cons_self))
    exact ⟨meth, c, h1, h2, h3, h4, h5, h6⟩
  · intro p e s m args below meth c s₁ B hml hP _
    have hc := atoms_spec (ws := ws) B.pre (Cond.code y cc maxL ret) (by rw [hw]; exact List.mem_cons_self)
    obtain ⟨meth2, c2, h1, h2, h3, h4, h5, h6, h7, -⟩ := Cond.code_spec B.named hc
    have e1 : meth = meth2 := Option.some.inj (B.method.symm.trans h1)
    subst e1
    have e2 : c = c2 := Option.some.inj ((Stand.of_body B).code.symm.trans h2)
    subst e2
    have hem : ∀ x ∈ c.exceptionTable.toList, False := by
      intro x hx
      have h8 : c.exceptionTable = #[] := by simpa using h7
      rw [h8] at hx
      cases hx
    have hh0 : s₁.heap = s.heap := by rw [B.state]; rfl
    have K := body p e s m args below meth c s₁ B h4 hem hP
    obtain ⟨t, a1, o, b1, b2, b3⟩ := K s₁ hh0 (Stand.of_body B)
    exact ⟨t, o, a1, b1, b2, b3⟩
section KT
variable {p : Program} {l : Launch} {e : Env} {R : Room} {s : State} {m : MethodId} {args : Array Value} {below : List Frame} {meth : Method} {c : Code} {H : Heap} {locs : List Loc} {cells slots : Nat} {Q : State → Prop}
variable {cc : ByteArray} {pc : Nat} {ls : Array Slot} {rest : List Value} {A : Nat → Prop} {mc ms : Nat}
/-- 'throw new E("text")': new, dup, ldc, invokespecial, athrow; nothing old was written before -/
theorem kz_throwS (hexec : p.tables.exec = Jvm.exec) (hb : c.code = cc) (hl : l.stackTraces = false) {own E text : String} {names : List String} {ik is ic sa : Nat} (hown : s.vm.findClass own = some m.cls) (hE : Bundle.fit E = true) (hnames : ∀ n ∈ names, Bundle.fit n = true)
    (hk : (Cond.classLink own ik E).before args s = true) (hini : (Cond.initialized E).before args s = true) (hstr : vk_R own is text sa s) (hthr : kz_thr own ic E names s) (hS : va_S A s.heap H locs) (hAn : ∀ q, A q → s.heap.size ≤ q) (hsize : ls.size = c.maxLocals)
    (d0 : decode cc pc = .ok (.new ik, 3)) (d3 : decode cc (pc + 3) = .ok (.dup, 1)) (d4 : decode cc (pc + 4) = .ok (.ldc is, 2)) (d6 : decode cc (pc + 6) = .ok (.invokespecial ic, 3)) (d9 : decode cc (pc + 9) = .ok (.athrow, 1)) (hem : ∀ x ∈ c.exceptionTable.toList, False) (hlocks : meth.locks = false)
    (hRf : names.length + 3 < R.frames) (hRl : (rest.map fun v => v.category).sum + (13 * (names.length + 1) + 43) ≤ R.locals) (hRc : cells + 1 ≤ R.cells) (hRs : slots + 6 ≤ R.slots) (hc : cells + 1 ≤ mc) (hs : slots + 6 ≤ ms) :
    W p l e R s m args below meth c H locs cells slots (kz_MQT below E args s mc ms) (F0 m pc ls rest) := by
  intro T hT X
  have htr : e.platform.stackTraces = false := (show e.platform.stackTraces = l.stackTraces by rw [X.admits.platform]).trans hl
  have hins : (Cond.instantiable E 6).before args s = true := hthr args _ (by simp [Bundle.ownAtoms])
  have hat : ∀ w ∈ Bundle.ownAtoms own ic E names, w.before args s = true := fun w hw => hthr args w hw
  have hold : ∀ x ∈ locs, s.heap.size ≤ x.base := fun x hx => hAn _ (hS.2.2 x hx)
  obtain ⟨vm1, cX, kX, hfX, hkX, -, -, X1, st1⟩ := X.newCold hexec (own := own) (C := E) (index := ik) (n := 6) hown hk hins hini (g := F0 m pc ls rest) rfl (by rw [hb]; exact d0) hRc hRs
  generalize hT1 : (T.setVm vm1).pushCell { cls := cX, slots := kX.instanceTypes.map defaultValue, vm := .none } = T1 at X1 st1
  have hcellA : T1.heap[T.heap.size]? = some (freshCell cX kX) := by rw [← hT1]; exact State.heap_pushCell_size _ _
  have hcat : (Value.ref T.heap.size).category = 1 := rfl
  have hnew : s.heap.size ≤ T.heap.size := X.heapGrown
  obtain ⟨U, hsteps, hrun, hend, hW, hsame, ce, hce, hO⟩ := X1.ctorThrowS hexec htr (own := own) (cls := E) (names := names) (ic := ic) hown hE hnames hat (fun x hx cell hcell => absurd (Array.getElem?_eq_some_iff.mp hcell).1 (Nat.not_lt.mpr (hold x hx))) hfX hkX hcellA hnew (msg := .ref sa) rfl
    (g := { method := m, pc := pc + 6, locals := ls, stack := .ref sa :: .ref T.heap.size :: .ref T.heap.size :: rest, locked := none }) rfl hsize rfl rfl (rest := rest) rfl (by rw [hb]; exact d6) (by rw [hb]; exact d9) (fun x hx => (hem x hx).elim) hRf (by simp only [List.map_cons, List.sum_cons, hcat]; show 2 * 0 + _ + _ ≤ _; omega) hlocks
  have hsame2 : s.sameButNew ({ U with vm := s.vm } : State) [] mc ms := by
    have h2 : s.sameButNew ({ U with vm := s.vm } : State) ([] ++ locs) (cells + 1) (slots + 6) := by rw [List.nil_append]; exact hsame
    exact (h2.drop_fresh (by intro x hx; exact hold x hx)).mono hc hs
  refine ⟨U, ?_, .threw T.heap.size, hrun, hend, T.heap.size, ce, rfl, hce, hO.vm, hO.cls, hW, hsame2⟩
  refine st1 _ ?_
  show Steps p.tables e below (T1.setTop { method := m, pc := pc + 3, locals := ls, stack := .ref T.heap.size :: rest, locked := none }) _
  have d3' : decode c.code (pc + 3) = .ok (.dup, 1) := by rw [hb]; exact d3
  have d4' : decode c.code (pc + 4) = .ok (.ldc is, 2) := by rw [hb]; exact d4
  jvm_step X1.here [X1.here.top, hexec, d3', Value.category]
  exact X1.ldcString hexec (own := own) (text := text) (index := is) (a := sa) hown hstr.1 hstr.2 (g := { method := m, pc := pc + 4, locals := ls, stack := .ref T.heap.size :: .ref T.heap.size :: rest, locked := none }) rfl d4' _ hsteps
end KT
