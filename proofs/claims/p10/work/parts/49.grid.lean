/-! new int[N][K]: the outer array, then its rows, one behind the other (an own row: the kit's worlds have none) -/
def kz_go (cA : ClassId) (N h i : Nat) : Cell := arrV cA N (fun j => va_rf (if j < i then some (h + 1 + j) else none))
def kz_gi (cI : ClassId) (K : Nat) : Cell := arrV cI K (fun _ => .int 0)
def kz_gs (T : State) (cA cI : ClassId) (N K : Nat) : Nat → State
  | 0 => T.pushCell (kz_go cA N T.heap.size 0)
  | i + 1 => ((kz_gs T cA cI N K i).pushCell (kz_gi cI K)).setCell T.heap.size (kz_go cA N T.heap.size (i + 1))
theorem kz_go_s (cA : ClassId) (N h i : Nat) : (kz_go cA N h i).setSlot i (.ref (h + 1 + i)) = kz_go cA N h (i + 1) := by
  unfold kz_go
  rw [arrV_store]
  congr 1
  funext j
  unfold updV
  by_cases e : j = i
  · subst e
    rw [if_pos rfl, if_pos (Nat.lt_succ_self j)]
    rfl
  · rw [if_neg e]
    show va_rf (if j < i then some (h + 1 + j) else none) = va_rf (if j < i + 1 then some (h + 1 + j) else none)
    by_cases h1 : j < i
    · rw [if_pos h1, if_pos (by omega)]
    · rw [if_neg h1, if_neg (by omega)]
theorem kz_gs_at (T : State) (cA cI : ClassId) (N K : Nat) : ∀ i, (kz_gs T cA cI N K i).heap.size = T.heap.size + 1 + i ∧ (kz_gs T cA cI N K i).heap[T.heap.size]? = some (kz_go cA N T.heap.size i) ∧ (kz_gs T cA cI N K i).vm = T.vm ∧ (kz_gs T cA cI N K i).slotsUsed = T.slotsUsed + N + i * K ∧
    (∀ a, a < T.heap.size → (kz_gs T cA cI N K i).heap[a]? = T.heap[a]?) ∧ ∀ j, j < i → (kz_gs T cA cI N K i).heap[T.heap.size + 1 + j]? = some (kz_gi cI K)
  | 0 => by
    refine ⟨by simp [kz_gs], by simp [kz_gs], rfl, ?_, fun a ha => State.heap_pushCell_of_lt _ _ ha, fun j hj => absurd hj (Nat.not_lt_zero j)⟩
    show (T.pushCell (kz_go cA N T.heap.size 0)).slotsUsed = _
    simp [kz_go, arrV_size]
  | i + 1 => by
    obtain ⟨a1, a2, a3, a4, a5, a6⟩ := kz_gs_at T cA cI N K i
    have b0 : T.heap.size < (kz_gs T cA cI N K i).heap.size := by omega
    have b2 : ((kz_gs T cA cI N K i).pushCell (kz_gi cI K)).heap[T.heap.size]? = some (kz_go cA N T.heap.size i) := by rw [State.heap_pushCell_of_lt (h := b0)]; exact a2
    refine ⟨?_, State.heap_setCell_self b2, ?_, ?_, fun a ha => ?_, fun j hj => ?_⟩
    · simp [kz_gs, State.setCell, a1]; omega
    · simp [kz_gs, a3]
    · simp [kz_gs, a4, kz_gi, arrV_size, Nat.succ_mul]; omega
    · show (((kz_gs T cA cI N K i).pushCell (kz_gi cI K)).setCell T.heap.size _).heap[a]? = _
      rw [State.heap_setCell_other (Nat.ne_of_gt ha), State.heap_pushCell_of_lt (h := (show a < (kz_gs T cA cI N K i).heap.size by omega))]
      exact a5 a ha
    · show (((kz_gs T cA cI N K i).pushCell (kz_gi cI K)).setCell T.heap.size _).heap[T.heap.size + 1 + j]? = _
      rw [State.heap_setCell_other (show T.heap.size ≠ T.heap.size + 1 + j by omega)]
      rcases Nat.lt_or_ge j i with h | h
      · rw [State.heap_pushCell_of_lt (h := (show T.heap.size + 1 + j < (kz_gs T cA cI N K i).heap.size by omega))]
        exact a6 j h
      · have e : j = i := by omega
        subst e
        rw [← a1]
        exact State.heap_pushCell_size _ _
theorem kz_gs_top (T : State) (f : JFrame) (cA cI : ClassId) (N K : Nat) : ∀ i, kz_gs (T.setTop f) cA cI N K i = (kz_gs T cA cI N K i).setTop f
  | 0 => rfl
  | i + 1 => by simp only [kz_gs, kz_gs_top T f cA cI N K i, State.heap_setTop, State.pushCell_setTop, State.setCell_setTop]
theorem kz_gs_stand {p : Program} {l : Launch} {e : Env} {R : Room} {s : State} {m : MethodId} {args : Array Value} {below : List Frame} {meth : Method} {c : Code} {T : State} {locs : List Loc} {cells slots : Nat} (X : Stand p l e R s m args below meth c T locs cells slots) (cA cI : ClassId) (N K : Nat) :
    ∀ i, Stand p l e R s m args below meth c (kz_gs T cA cI N K i) locs (cells + 1 + i) (slots + N + i * K)
  | 0 => by
    have h := X.pushed (kz_go cA N T.heap.size 0)
    unfold kz_go at h
    rw [arrV_size] at h
    simpa [kz_gs, kz_go] using h
  | i + 1 => by
    have Y := kz_gs_stand X cA cI N K i
    obtain ⟨a1, a2, -, -, -, -⟩ := kz_gs_at T cA cI N K i
    have b2 : ((kz_gs T cA cI N K i).pushCell (kz_gi cI K)).heap[T.heap.size]? = some (kz_go cA N T.heap.size i) := by rw [State.heap_pushCell_of_lt (h := (show T.heap.size < (kz_gs T cA cI N K i).heap.size by omega))]; exact a2
    have h := (Y.pushed (kz_gi cI K)).stored b2 i (.ref (T.heap.size + 1 + i))
    rw [kz_go_s] at h
    have h2 := h.dropFresh (fun x hx => by rw [List.mem_singleton.mp hx]; exact X.heapGrown)
    have e1 : (kz_gi cI K).slots.size = K := by unfold kz_gi; rw [arrV_size]
    rw [e1] at h2
    have e3 : slots + N + (i + 1) * K = slots + N + i * K + K := by rw [Nat.succ_mul]; omega
    rw [e3]
    exact h2
theorem kz_wpNew {E : CtlPost} {e : Env} {d : Bool} {acts : List Action} {S : State} {c comp : ClassId} {k : Class} {ty : FieldType} {n : Nat} {v : Value} (hk : S.vm.classes[c]? = some k) (hkind : k.kind = .array comp ty) (h1 : ¬ n > e.platform.arrayLengthLimit) (h2 : ¬ n * componentBytes ty > e.platform.maxHeapBytes)
    (hfit : fits ty v = true) (hdef : v.isDefault = true) (h3 : S.heap.size < e.platform.maxCells) (h4 : S.slotsUsed + n ≤ e.platform.maxSlots) {Q : Addr → Pre} (hq : Q S.heap.size d acts (S.pushCell (arrV c n (fun _ => v)))) : wp (Jvm.newArray c n v) Q E e d acts S := by
  rw [← arrV_new] at hq
  have f1 : ∀ i x, (Array.replicate n v)[i]? = some x → S.fitsSlot c .none i x = true := fun i x hx => by
    rw [Array.getElem?_replicate] at hx
    split at hx
    · cases hx
      simp [State.fitsSlot, State.slotType?, hk, hkind, hfit]
    · cases hx
  have f2 : allocActs (Array.replicate n v) S.heap.size acts = acts := by
    have h : (Array.replicate n v).all (fun x => x.isDefault) = true := by rw [Array.all_replicate]; split <;> simp [hdef]
    unfold allocActs
    rw [if_pos h]
  simp only [Jvm.newArray, Jvm.arrayFits, wp_bind', W.ask, W.ite, h1, if_false, wp_pure', W.theClass, hk, hkind, h2, W.alloc, W.stop, Option.some.injEq, exists_eq_left', Array.size_replicate, f2]
  rw [if_neg (by omega)]
  exact ⟨h3, h4, f1, hq⟩
section KG
variable {E : CtlPost} {e : Env} {d : Bool} {acts : List Action} {S : State}
/-- the machine's own 'make' of two dimensions -/
theorem kz_wpMake {cA cI cc0 : ClassId} {kA kI : Class} {n k : Int32} (hkA : S.vm.classes[cA]? = some kA) (hkindA : kA.kind = .array cI (.array .int)) (hkI : S.vm.classes[cI]? = some kI) (hkindI : kI.kind = .array cc0 .int) (hn : ¬ n < 0) (hk : ¬ k < 0)
    (l1 : ¬ n.toNatClampNeg > e.platform.arrayLengthLimit) (l2 : ¬ n.toNatClampNeg * componentBytes (.array .int) > e.platform.maxHeapBytes) (l3 : ¬ k.toNatClampNeg > e.platform.arrayLengthLimit) (l4 : ¬ k.toNatClampNeg * componentBytes .int > e.platform.maxHeapBytes)
    (hc : S.heap.size + 1 + n.toNatClampNeg ≤ e.platform.maxCells) (hs : S.slotsUsed + n.toNatClampNeg + n.toNatClampNeg * k.toNatClampNeg ≤ e.platform.maxSlots) {Q : Addr → Pre} (hq : ∀ d' acts', Q S.heap.size d' acts' (kz_gs S cA cI n.toNatClampNeg k.toNatClampNeg n.toNatClampNeg)) :
    wp (multianewarray.make cA [n, k]) Q E e d acts S := by
  have hf : ([k].find? (· < 0)) = none := by simp [hk]
  have hnull : (arrV cA n.toNatClampNeg (fun _ => Value.null)) = kz_go cA n.toNatClampNeg S.heap.size 0 := by
    unfold kz_go
    congr 1
  rw [multianewarray.make]
  simp only [wp_bind', W.ite, hn, if_false, wp_pure', W.theClass, hkA, hkindA, Option.some.injEq, exists_eq_left']
  refine kz_wpNew hkA hkindA l1 l2 rfl rfl (by omega) (by have := Nat.zero_le (n.toNatClampNeg * k.toNatClampNeg); omega) ?_
  rw [hnull]
  simp only [hf]
  rw [ite_self, wp_bind', Std.Legacy.Range.forIn_eq_forIn_range']
  have hz : ([:n.toNatClampNeg] : Std.Legacy.Range).size = n.toNatClampNeg := by simp [Std.Legacy.Range.size]
  rw [hz]
  show wp (forIn (List.range' 0 n.toNatClampNeg 1) PUnit.unit _) _ E e d acts _
  refine wp_forIn_inv (fun todo S' => ∃ i, i ≤ n.toNatClampNeg ∧ todo = List.range' i (n.toNatClampNeg - i) ∧ S' = kz_gs S cA cI n.toNatClampNeg k.toNatClampNeg i) _ _ ⟨0, Nat.zero_le _, rfl, rfl⟩ ?_ ?_
  · rintro x todo S' d' acts' Q' ⟨i, hi, hl, rfl⟩ hnext
    have hlt : i < n.toNatClampNeg := by
      rcases Nat.lt_or_ge i n.toNatClampNeg with h | h
      · exact h
      · rw [show n.toNatClampNeg - i = 0 by omega] at hl
        cases hl
    have hl2 : x = i ∧ todo = List.range' (i + 1) (n.toNatClampNeg - (i + 1)) := by
      rw [show n.toNatClampNeg - i = (n.toNatClampNeg - (i + 1)) + 1 by omega, List.range'_succ] at hl
      exact ⟨(List.cons.inj hl).1, (List.cons.inj hl).2⟩
    obtain ⟨rfl, htodo⟩ := hl2
    obtain ⟨a1, a2, a3, a4, -, -⟩ := kz_gs_at S cA cI n.toNatClampNeg k.toNatClampNeg x
    have hm : x * k.toNatClampNeg + k.toNatClampNeg ≤ n.toNatClampNeg * k.toNatClampNeg := by
      have h := Nat.mul_le_mul_right k.toNatClampNeg (show x + 1 ≤ n.toNatClampNeg from hlt)
      rw [Nat.succ_mul] at h
      exact h
    simp only [wp_bind']
    rw [multianewarray.make]
    simp only [wp_bind', W.ite, hk, if_false, wp_pure', W.theClass, a3, hkI, hkindI, Option.some.injEq, exists_eq_left']
    refine kz_wpNew (by rw [a3]; exact hkI) hkindI l3 l4 rfl rfl (by rw [a1]; omega) (by rw [a4]; omega) ?_
    simp only [wp_bind', W.writeLoc, wp_pure']
    have b2 : ((kz_gs S cA cI n.toNatClampNeg k.toNatClampNeg x).pushCell (kz_gi cI k.toNatClampNeg)).heap[S.heap.size]? = some (kz_go cA n.toNatClampNeg S.heap.size x) := by
      rw [State.heap_pushCell_of_lt (h := (show S.heap.size < (kz_gs S cA cI n.toNatClampNeg k.toNatClampNeg x).heap.size by omega))]
      exact a2
    refine ⟨kz_go cA n.toNatClampNeg S.heap.size x, b2, by unfold kz_go arrV; simp, by unfold kz_go; rw [arrV_size]; exact hlt, ?_, hnext _ _ _ ⟨x + 1, hlt, htodo, ?_⟩⟩
    · have e1 : (kz_go cA n.toNatClampNeg S.heap.size x).cls = cA := rfl
      have e2 : (kz_go cA n.toNatClampNeg S.heap.size x).vm = .none := rfl
      rw [e1, e2]
      simp [State.fitsSlot, State.slotType?, a3, hkA, hkindA]
      rfl
    · rw [a1, kz_go_s]
      rfl
  · rintro S' d' acts' ⟨i, hi, hl, rfl⟩
    have hi2 : i = n.toNatClampNeg := by
      rcases Nat.lt_or_ge i n.toNatClampNeg with h | h
      · rw [show n.toNatClampNeg - i = (n.toNatClampNeg - (i + 1)) + 1 by omega, List.range'_succ] at hl
        cases hl
      · omega
    subst hi2
    simp only [wp_pure']
    exact hq _ _
end KG
