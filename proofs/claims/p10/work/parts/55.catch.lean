/-! CATCHING: a handler's class may not be resolved yet -/
def kz_FT (e : Env) (S : State) (f : JFrame) (a : Addr) (pc : Nat) (vm' : Vm) : Prop := ∀ (Q : Handler → Pre) (E : CtlPost) (d : Bool) (acts : List Action), wp (findHandler f a) Q E e d acts S ↔ Q (.found pc) d acts (S.setVm vm')
theorem kz_goRow {Q : Handler → Pre} {E : CtlPost} {e : Env} {d : Bool} {acts : List Action} {S : State} {f : JFrame} {a : Addr} {x : ExceptionTableEntry} {t : List ExceptionTableEntry} {c : ClassId} {cell : Cell} (hx : covers x f.pc = true) (h0 : x.catchType ≠ 0) (hl : S.vm.ClassLinks e.platform f.method.cls x.catchType c) (hcell : S.heap[a]? = some cell) (hobj : ∀ k, cell.vm ≠ .statics k) (hk : ∃ k, S.vm.classes[cell.cls]? = some k) (hc : ∃ k, S.vm.classes[c]? = some k) :
    wp (findHandler.go f a (x :: t)) Q E e d acts S ↔ if S.vm.assignable cell.cls c = true then Q (.found x.handlerPc) d acts (S.setVm (S.vm.noted f.method.cls x.catchType (.cls c))) else wp (findHandler.go f a t) Q E e d acts (S.setVm (S.vm.noted f.method.cls x.catchType (.cls c))) := by
  simp only [covers] at hx
  obtain ⟨ha, ht⟩ := (resolveClass_links e.toSetting hl).op (op := VmOp.resolveClass f.method.cls x.catchType) rfl
  have hal : S.vm.Alike (S.vm.noted f.method.cls x.catchType (.cls c)) := (Vm.Alike.refl S.vm).noted _ _ _
  obtain ⟨k1, hk1⟩ := hk
  obtain ⟨k2, hk2⟩ := hc
  obtain ⟨k1', hk1', -⟩ := hal.2.2 _ _ hk1
  obtain ⟨k2', hk2', -⟩ := hal.2.2 _ _ hk2
  cases hfit : S.vm.assignable cell.cls c
  · have h9 : (S.vm.noted f.method.cls x.catchType (.cls c)).assignable cell.cls c = false := by rw [hal.assignable]; exact hfit
    simp [findHandler.go, hx, h0, ha, ht, hcell, hobj, hk1', hk2', h9, VmOp.dirties, VmOp.acts]
  · have h9 : (S.vm.noted f.method.cls x.catchType (.cls c)).assignable cell.cls c = true := by rw [hal.assignable]; exact hfit
    simp [findHandler.go, hx, h0, ha, ht, hcell, hobj, hk1', hk2', h9, VmOp.dirties, VmOp.acts]
theorem kz_caughtTo {tb : Tables} {e : Env} {u target : State} {g : JFrame} {c : Code} {below : List Frame} {a : Addr} (h : At u g.method c below) {pc : Nat} {vm' : Vm} (hfind : kz_FT e ((u.setTop g).pushFrame (.throwing a)) g a pc vm') (hrest : Steps tb e below ((u.setVm vm').setTop { g with pc := pc, stack := [.ref a] }) target) : Steps tb e below ((u.setTop g).pushFrame (.throwing a)) target := by
  have step : ∀ {S : State} {f : JFrame} {r : List Frame}, kz_FT e S f a pc vm' → (stepThrowing e S a (.java f :: r)).Is ((S.setVm vm').setFrames (.java { f with pc := pc, stack := [.ref a] } :: r)) [] := by
    intro S f r hf
    simp only [stepThrowing, searchFrame, vmDo]
    generalize hr : Sem.go _ e false [] S = res
    obtain ⟨as, rfl, ha⟩ := Sem.eq_ok_of hr (a := Handler.found pc) (s' := S.setVm vm') (acts' := []) (by simp [hf _ _ _ _])
    exact ⟨rfl, ha⟩
  have swap : ∀ (v : State) (F G : List Frame), ((v.setFrames F).setVm vm').setFrames G = (v.setVm vm').setFrames G := by
    intro v F G
    have h1 : (v.setFrames F).setVm vm' = (v.setVm vm').setFrames F := rfl
    rw [h1, State.setFrames_setFrames]
  obtain ⟨hgo, hw⟩ := h.throwing a
  refine Steps.head hgo hw ?_
  rw [stepThread_throwing (frames_entered h.top _), (step (S := (u.setTop g).pushFrame (.throwing a)) hfind).1]
  obtain ⟨g₀, hg⟩ := Option.isSome_iff_exists.mp h.top
  obtain ⟨r, hr⟩ := State.topJava?_eq_some.mp hg
  have hr' : (u.setVm vm').frames = .java g₀ :: r := hr
  rw [State.setTop_of_frames _ hr'] at hrest
  rw [hr, List.tail_cons, State.pushFrame, swap, State.setTop_of_frames _ hr, swap]
  exact hrest
section KC
variable {p : Program} {l : Launch} {e : Env} {R : Room} {s : State} {m : MethodId} {args : Array Value} {below : List Frame} {meth : Method} {c : Code} {T : State} {locs : List Loc} {cells slots : Nat}
/-- caught by the first row -/
theorem kz_catch1 (X : Stand p l e R s m args below meth c T locs cells slots) (q : Addr) {g : JFrame} (hg : g.method = m) {own E : String} (hown : s.vm.findClass own = some m.cls) {x : ExceptionTableEntry} {t : List ExceptionTableEntry} (htab : c.exceptionTable.toList = x :: t) (hx : covers x g.pc = true) (h0 : x.catchType ≠ 0) (hlink : (Cond.classLink own x.catchType E).before args s = true) (hcast : (Cond.castable E E).before args s = true)
    {ce : Cell} (hce : T.heap[q]? = some ce) (hv : ce.vm = .none) (hcl : s.vm.findClass E = some ce.cls) : ∃ vm', Stand p l e R s m args below meth c (T.setVm vm') locs cells slots ∧ ∀ target, Steps p.tables e below ((T.setVm vm').setTop { g with pc := x.handlerPc, stack := [.ref q] }) target → Steps p.tables e below ((T.setTop g).pushFrame (.throwing q)) target := by
  have hpl : e.platform.magicAccessors = ({} : Platform).magicAccessors := by rw [X.admits.platform]
  obtain ⟨c1, c2, h1, h2, hasg⟩ := Cond.castable_spec hcast
  cases Option.some.inj (h1.symm.trans hcl)
  cases Option.some.inj (h2.symm.trans hcl)
  obtain ⟨c5, hc5, hl⟩ := Cond.classLink_spec hown hlink e.platform hpl
  cases Option.some.inj (hc5.symm.trans hcl)
  subst hg
  obtain ⟨-, hwarm, -⟩ := State.classEntry (e := e) X.warmed hl
  obtain ⟨kE, hkE, -⟩ := Vm.findClass_spec hcl
  obtain ⟨kE', hkE', -⟩ := X.warmed.alike.2.2 _ _ hkE
  have hobj : ∀ k, ce.vm ≠ .statics k := by intro k; rw [hv]; simp
  have hcell : ((T.setTop g).pushFrame (.throwing q)).heap[q]? = some ce := by rw [Stand.throwing_heap]; exact hce
  have hvm : ((T.setTop g).pushFrame (.throwing q)).vm = T.vm := Stand.throwing_vm T g q
  refine ⟨T.vm.noted g.method.cls x.catchType (.cls ce.cls), X.noted hwarm, fun target hrest => kz_caughtTo X.here (fun Q E9 d acts => ?_) hrest⟩
  rw [W.findHandler_eq (by rw [hvm]; exact X.method') X.code, htab, kz_goRow hx h0 (by rw [hvm]; exact X.warmed.classLinks hl) hcell hobj ⟨kE', by rw [hvm]; exact hkE'⟩ ⟨kE', by rw [hvm]; exact hkE'⟩, hvm, if_pos (by rw [X.warmed.alike.assignable]; exact hasg)]
/-- past the first row, which names another class; caught by the second -/
theorem kz_catch2 (X : Stand p l e R s m args below meth c T locs cells slots) (q : Addr) {g : JFrame} (hg : g.method = m) {own E N : String} (hown : s.vm.findClass own = some m.cls) {x0 x : ExceptionTableEntry} {t : List ExceptionTableEntry} (htab : c.exceptionTable.toList = x0 :: x :: t) (hx0 : covers x0 g.pc = true) (h00 : x0.catchType ≠ 0) (hlink0 : (Cond.classLink own x0.catchType N).before args s = true) (hno : va_Nc E N s)
    (hx : covers x g.pc = true) (h0 : x.catchType ≠ 0) (hlink : (Cond.classLink own x.catchType E).before args s = true) (hcast : (Cond.castable E E).before args s = true)
    {ce : Cell} (hce : T.heap[q]? = some ce) (hv : ce.vm = .none) (hcl : s.vm.findClass E = some ce.cls) : ∃ vm', Stand p l e R s m args below meth c (T.setVm vm') locs cells slots ∧ ∀ target, Steps p.tables e below ((T.setVm vm').setTop { g with pc := x.handlerPc, stack := [.ref q] }) target → Steps p.tables e below ((T.setTop g).pushFrame (.throwing q)) target := by
  have hpl : e.platform.magicAccessors = ({} : Platform).magicAccessors := by rw [X.admits.platform]
  obtain ⟨c1, c2, h1, h2, hasg⟩ := Cond.castable_spec hcast
  cases Option.some.inj (h1.symm.trans hcl)
  cases Option.some.inj (h2.symm.trans hcl)
  obtain ⟨c5, hc5, hl⟩ := Cond.classLink_spec hown hlink e.platform hpl
  cases Option.some.inj (hc5.symm.trans hcl)
  obtain ⟨c0, hc0, hl0⟩ := Cond.classLink_spec hown hlink0 e.platform hpl
  obtain ⟨a8, b8, n1, n2, n3⟩ := hno
  cases Option.some.inj (n1.symm.trans hcl)
  cases Option.some.inj (n2.symm.trans hc0)
  subst hg
  obtain ⟨-, hwarm0, -⟩ := State.classEntry (e := e) X.warmed hl0
  obtain ⟨-, hwarm, -⟩ := State.classEntry (e := e) hwarm0 hl
  obtain ⟨kE, hkE, -⟩ := Vm.findClass_spec hcl
  obtain ⟨kN, hkN, -⟩ := Vm.findClass_spec hc0
  obtain ⟨kE', hkE', -⟩ := X.warmed.alike.2.2 _ _ hkE
  obtain ⟨kN', hkN', -⟩ := X.warmed.alike.2.2 _ _ hkN
  obtain ⟨kE2, hkE2, -⟩ := hwarm0.alike.2.2 _ _ hkE
  have hobj : ∀ k, ce.vm ≠ .statics k := by intro k; rw [hv]; simp
  have hcell : ((T.setTop g).pushFrame (.throwing q)).heap[q]? = some ce := by rw [Stand.throwing_heap]; exact hce
  have hvm : ((T.setTop g).pushFrame (.throwing q)).vm = T.vm := Stand.throwing_vm T g q
  refine ⟨_, X.noted hwarm, fun target hrest => kz_caughtTo X.here (fun Q E9 d acts => ?_) hrest⟩
  rw [W.findHandler_eq (by rw [hvm]; exact X.method') X.code, htab, kz_goRow hx0 h00 (by rw [hvm]; exact X.warmed.classLinks hl0) hcell hobj ⟨kE', by rw [hvm]; exact hkE'⟩ ⟨kN', by rw [hvm]; exact hkN'⟩, hvm, if_neg (by rw [X.warmed.alike.assignable, n3]; decide)]
  rw [kz_goRow (S := ((T.setTop g).pushFrame (.throwing q)).setVm (T.vm.noted g.method.cls x0.catchType (.cls c0))) hx h0 (hwarm0.classLinks hl) hcell hobj ⟨kE2, hkE2⟩ ⟨kE2, hkE2⟩, if_pos (by show (T.vm.noted g.method.cls x0.catchType (.cls c0)).assignable ce.cls ce.cls = true; rw [hwarm0.alike.assignable]; exact hasg)]
  rfl
end KC
