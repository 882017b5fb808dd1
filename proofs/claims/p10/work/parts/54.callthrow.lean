/-! CALLS of methods that throw -/
section KCT
variable {p : Program} {l : Launch} {e : Env} {R : Room} {s : State} {m : MethodId} {args : Array Value} {below : List Frame} {meth : Method} {c : Code} {T : State} {H : Heap} {locs : List Loc} {cells slots : Nat} {Q : State → Prop}
variable {cc bytes : ByteArray} {pc nL n index maxL mc ms mc2 ms2 : Nat} {ls : Array Slot} {rest As : List Value} {A : Nat → Prop} {y : MethodName} {ws Ts : List Cond} {rm : Room} {Pc : Array Value → State → Prop} {E own C : String} {ret : Option FieldType}
/-- into the callee and out again, by its throw -/
theorem kz_enterT (X : Stand p l e R s m args below meth c T locs cells slots) (hM : kz_MetT l y ws rm Pc E mc ms) (hblind : FrameBlind Pc) (cw : CallB R s args own index y bytes maxL ret ws rm mc ms n) {g : JFrame} (hg : g.method = m) (hsize : g.locals.size = c.maxLocals) {ig : Instr} (hdg : decode c.code g.pc = .ok (ig, 3)) (hW : 2 * g.monitorRoom + (g.stack.map fun v => v.category).sum ≤ 8)
    {mk : MethodId} (hmk : T.methodNamed? y = some mk) {a : Array Value} (hPc : Pc a T) (hf : cells + mc ≤ R.cells ∧ slots + ms ≤ R.slots) :
    ∃ (q : Addr) (ce : Cell) (T' : State), Stand p l e R s m args below meth c T' locs (cells + mc) (slots + ms) ∧ T.sameButNew (T'.setVm T.vm) [] mc ms ∧ T'.heap[q]? = some ce ∧ ce.vm = .none ∧ s.vm.findClass E = some ce.cls ∧ Steps p.tables e below (doInvoke e (T.setTop g) [] mk a).1 ((T'.setTop g).pushFrame (.throwing q)) := by
  obtain ⟨hrc, hrs, hfr, hlo, hws, hcw, hcode, hini, hy, hlen, hl⟩ := cw
  have h1 : (headSpec ws rm).pre.before a T = true := atoms_intro fun w hw => hws w hw _ _ X.warmed
  have h2 : (Cond.code y bytes maxL ret).before a T = true := hws _ hcw _ _ X.warmed
  have h3 : (Cond.initialized y.cls).before a T = true := word_at X.warmed (Or.inl (by first | rfl | simp [Cond.onTables, Cond.keeps, Cond.steady])) hini
  have h4 : cells + (headSpec ws rm).room.cells ≤ R.cells := by rw [show (headSpec ws rm).room.cells = mc from hrc]; exact hf.1
  have h5 : slots + (headSpec ws rm).room.slots ≤ R.slots := by rw [show (headSpec ws rm).room.slots = ms from hrs]; exact hf.2
  obtain ⟨methY, cY, hmY, hcY, -, hlY, -, -, -, -⟩ := Cond.code_spec hmk h2
  obtain ⟨kY, hkY, -⟩ := className_of_methodNamed hmk
  have hinitY : kY.init = .initialized := Cond.initialized_spec (findClass_of_methodNamed hmk) hkY h3
  have h : At T g.method c below := by rw [hg]; exact X.here
  have hlo2 : 8 + (maxL + 11) + (headSpec ws rm).room.locals ≤ R.locals := hlo
  have happ : (headSpec ws rm).appliesLoose y e.platform (T.calling g mk a) = true :=
    Spec.appliesLoose_calling (g := g) h hdg hmk hkY hinitY (X.room_calling (g := g) (R' := (headSpec ws rm).room) hsize hmY hcY hfr (by rw [hlY]; omega) h4 h5) h1
  have hfr2 : (T.setTop g).frames = [.java g] ++ below := by rw [State.frames_setTop' g h.top, X.tail]; rfl
  obtain ⟨o, s2, hsteps, -, hend, hq⟩ := Steps.callFree hM p X.admits X.cas X.clock (acts := []) hfr2 happ (hblind _ _ _ _ hPc) trivial
  have hq2 : kz_QT E mc ms a (T.calling g mk a) o s2 := hq
  obtain ⟨q, ce, rfl, hce, hcv, hcl, hW2, hsm⟩ := hq2
  rw [State.frames_setTop' g h.top, X.tail] at hend
  obtain ⟨T', X', -, hsT, rfl⟩ := X.outOfThrown hg hend hW2 hsm
  rw [List.append_nil] at X'
  rw [Stand.throwing_heap] at hce
  have hcl2 : T.vm.findClass E = some ce.cls := hcl
  exact ⟨q, ce, T', X', hsT, hce, hcv, by rw [← hcl2, X.warmed.alike.findClass], hsteps⟩
/-- heaps of two states that are the same but for new cells -/
theorem kz_same_heap {u U : State} {k j : Nat} (h : u.sameButNew U [] k j) : u.heap.size ≤ U.heap.size ∧ ∀ q : Nat, q < u.heap.size → U.heap[q]? = u.heap[q]? := by
  obtain ⟨-, h2, -, -, -, h6⟩ := h
  refine ⟨h2, fun q hq => ?_⟩
  obtain ⟨c9, e1, e2, e3, e4⟩ := h6 q _ (Array.getElem?_eq_getElem hq)
  have hs : c9.slots = (u.heap[q]).slots := Array.ext_getElem? fun i => e4 i (fun hm => absurd hm List.not_mem_nil)
  have h9 : c9 = u.heap[q] := by
    rw [hs] at e2
    exact e2
  rw [e1, h9, Array.getElem?_eq_getElem hq]
/-- a static call whose callee throws: it goes on to the caller -/
theorem kz_outS (S : CallFix p m c cc nL s args Ts own) (hM : kz_MetT l y ws rm Pc E mc ms) (cw : CallB R s args own index y bytes maxL ret ws rm mc ms n ∧ (Cond.static y).before args s = true) (hp : PreS s H Pc As) (hn : As.length = n) (hsize : ls.size = nL) (hW : (rest.map fun v => v.category).sum ≤ 8) (hdg : decode cc pc = .ok (.invokestatic index, 3)) (hf : cells + mc ≤ R.cells ∧ slots + ms ≤ R.slots)
    (hS : va_S A s.heap H locs) (hAn : ∀ q, A q → s.heap.size ≤ q) (hem : ∀ x ∈ c.exceptionTable.toList, False) (hlocks : meth.locks = false) (hc : cells + mc ≤ mc2) (hs : slots + ms ≤ ms2) : W p l e R s m args below meth c H locs cells slots (kz_MQT below E args s mc2 ms2) (F0 m pc ls (As.reverse ++ rest)) := by
  obtain ⟨hx, hb, hml, ho, -⟩ := S
  obtain ⟨cw, hst⟩ := cw
  obtain ⟨-, -, -, -, -, -, hcode, hini, hy, hlen, hl⟩ := id cw
  intro T hT X
  have hold : ∀ x ∈ locs, s.heap.size ≤ x.base := fun x hx => hAn _ (hS.2.2 x hx)
  obtain ⟨mk, hnamed⟩ := Cond.code_named hcode
  obtain ⟨methM, cM, hmethM, -, -, -, -, -, -, hsigM⟩ := Cond.code_spec hnamed hcode
  have hstatic : methM.isStatic = true := Cond.static_spec hnamed hmethM hst
  obtain ⟨kP, hkP, -⟩ := className_of_methodNamed hnamed
  have hinitP : kP.init = .initialized := Cond.initialized_spec (findClass_of_methodNamed hnamed) hkP hini
  obtain ⟨vm1, X1, st1⟩ := X.invokestatic hx ho hl hnamed hmethM hstatic hkP hinitP hy (g := F0 m pc ls (As.reverse ++ rest)) rfl (argsL := As) (rest := rest) (hn.trans (hlen _ hsigM)) rfl (by rw [hb]; exact hdg)
  obtain ⟨q, ce, T', X', -, hce, hcv, hcl, steps⟩ := kz_enterT X1 hM hp.1 cw (g := F0 m pc ls rest) rfl (hsize.trans hml.symm) (ig := .invokestatic index) (by rw [hb]; exact hdg) (show 2 * 0 + (rest.map fun v => v.category).sum ≤ 8 by omega) (X1.named hnamed) (hp.2 (T.setVm vm1) hT X1.warmed) hf
  obtain ⟨b1, b2, b3, b4, b5⟩ := X'.leaveThrown q (g := F0 m pc ls rest) rfl rfl rfl (fun x hx => (hem x hx).elim) hlocks
  have hsame2 : s.sameButNew ({ T'.setFrames (.throwing q :: below) with vm := s.vm } : State) [] mc2 ms2 := by
    have h2 : s.sameButNew ({ T'.setFrames (.throwing q :: below) with vm := s.vm } : State) ([] ++ locs) (cells + mc) (slots + ms) := by rw [List.nil_append]; exact b5
    exact (h2.drop_fresh (by intro x hx; exact hold x hx)).mono hc hs
  refine ⟨_, st1 _ (fun acts => ?_), .threw q, b2, b3, q, ce, rfl, hce, hcv, hcl, b4, hsame2⟩
  rw [doInvoke_state]
  exact steps.trans b1
end KCT
