/-! an array of six arrays of sixty longs: the machine's step -/
def n_mo (cA : ClassId) (a i : Nat) : Cell := arrV cA 6 fun j => if j < i then .ref (a + 1 + j) else .null
def n_mi (cI : ClassId) : Cell := { cls := cI, slots := Array.replicate 60 (.long 0), vm := .none }
def n_ms (T : State) (cA cI : ClassId) : Nat → State
  | 0 => T.pushCell (n_mo cA T.heap.size 0)
  | i + 1 => ((n_ms T cA cI i).pushCell (n_mi cI)).setCell T.heap.size (n_mo cA T.heap.size (i + 1))
theorem n_mo_next (cA : ClassId) (a i : Nat) : (n_mo cA a i).setSlot i (.ref (a + 1 + i)) = n_mo cA a (i + 1) := by
  show _ = arrV cA 6 fun j => if j < i + 1 then Value.ref (a + 1 + j) else .null
  unfold n_mo
  rw [arrV_store]
  congr 1
  funext j
  unfold updV
  by_cases q : j = i
  · subst q
    rw [if_pos rfl, if_pos (by omega)]
  · rw [if_neg q]
    by_cases z : j < i
    · rw [if_pos z, if_pos (by omega)]
    · rw [if_neg z, if_neg (by omega)]
theorem n_mo_size (cA : ClassId) (a i : Nat) : (n_mo cA a i).slots.size = 6 := arrV_size _ _ _
theorem n_ms_at (T : State) (cA cI : ClassId) : ∀ i, (n_ms T cA cI i).heap.size = T.heap.size + 1 + i ∧ (n_ms T cA cI i).heap[T.heap.size]? = some (n_mo cA T.heap.size i) ∧ (n_ms T cA cI i).vm = T.vm ∧ (n_ms T cA cI i).slotsUsed = T.slotsUsed + 6 + i * 60
  | 0 => ⟨by simp [n_ms], by simp [n_ms], rfl, by simp [n_ms, n_mo_size]⟩
  | i + 1 => by
    obtain ⟨h1, h2, h3, h4⟩ := n_ms_at T cA cI i
    have hl : T.heap.size < (n_ms T cA cI i).heap.size := by omega
    have h5 : ((n_ms T cA cI i).pushCell (n_mi cI)).heap[T.heap.size]? = some (n_mo cA T.heap.size i) := by rw [State.heap_pushCell_of_lt (h := hl)]; exact h2
    refine ⟨?_, State.heap_setCell_self h5, by simp [n_ms, h3], ?_⟩
    · simp [n_ms, State.setCell, h1]; omega
    · simp [n_ms, h4, n_mi, Nat.succ_mul]; omega
theorem n_ms_old (T : State) (cA cI : ClassId) {a : Nat} (ha : a < T.heap.size) : ∀ i, (n_ms T cA cI i).heap[a]? = T.heap[a]?
  | 0 => State.heap_pushCell_of_lt _ _ ha
  | i + 1 => by
    have h1 := (n_ms_at T cA cI i).1
    show (((n_ms T cA cI i).pushCell (n_mi cI)).setCell T.heap.size _).heap[a]? = _
    rw [State.heap_setCell_other (Nat.ne_of_gt ha), State.heap_pushCell_of_lt (h := by omega)]
    exact n_ms_old T cA cI ha i
theorem n_ms_in (T : State) (cA cI : ClassId) : ∀ i j, j < i → (n_ms T cA cI i).heap[T.heap.size + 1 + j]? = some (n_mi cI)
  | 0, _, h => absurd h (Nat.not_lt_zero _)
  | i + 1, j, h => by
    have h1 := (n_ms_at T cA cI i).1
    show (((n_ms T cA cI i).pushCell (n_mi cI)).setCell T.heap.size _).heap[T.heap.size + 1 + j]? = _
    rw [State.heap_setCell_other (by omega)]
    by_cases q : j < i
    · rw [State.heap_pushCell_of_lt (h := by omega)]
      exact n_ms_in T cA cI i j q
    · have e : T.heap.size + 1 + j = (n_ms T cA cI i).heap.size := by omega
      rw [e]
      exact State.heap_pushCell_size _ _
theorem n_ms_top (T : State) (f : JFrame) (cA cI : ClassId) : ∀ i, n_ms (T.setTop f) cA cI i = (n_ms T cA cI i).setTop f
  | 0 => rfl
  | i + 1 => by
    show ((n_ms (T.setTop f) cA cI i).pushCell _).setCell _ _ = _
    rw [n_ms_top T f cA cI i]
    rfl
theorem n_wpA {E : CtlPost} {e : Env} {d : Bool} {acts : List Action} {s : State} {c comp : ClassId} {k : Class} {ty : FieldType} {n : Nat} {v : Value} (hk : s.vm.classes[c]? = some k) (hkind : k.kind = .array comp ty) (hl : ¬ n > e.platform.arrayLengthLimit) (hh : ¬ n * componentBytes ty > e.platform.maxHeapBytes) (hfit : fits ty v = true) (hdef : v.isDefault = true) (h1 : s.heap.size < e.platform.maxCells) (h2 : s.slotsUsed + n ≤ e.platform.maxSlots) {Q : Addr → Pre} (hq : Q s.heap.size d acts (s.pushCell { cls := c, slots := Array.replicate n v, vm := .none })) : wp (Jvm.newArray c n v) Q E e d acts s := by
  have q1 : ∀ i x, (Array.replicate n v)[i]? = some x → s.fitsSlot c .none i x = true := by
    intro i x hx
    simp only [Array.getElem?_replicate] at hx
    split at hx
    · cases hx
      simp [State.fitsSlot, State.slotType?, hk, hkind, hfit]
    · cases hx
  have q2 : allocActs (Array.replicate n v) s.heap.size acts = acts := by
    have q3 : ((Array.replicate n v).all (·.isDefault)) = true := by rw [Array.all_replicate]; split <;> simp [hdef]
    unfold allocActs
    rw [if_pos q3]
  simp only [Jvm.newArray, Jvm.arrayFits, wp_bind', W.ask, W.ite, hl, if_false, wp_pure', W.theClass, hk, hkind, hh, W.alloc, W.stop, Option.some.injEq, exists_eq_left', Array.size_replicate, q2]
  rw [if_neg (by omega)]
  exact ⟨h1, h2, q1, hq⟩
theorem n_wpI {E : CtlPost} {e : Env} {d : Bool} {acts : List Action} {s : State} {cI cc : ClassId} {kI : Class} (hk : s.vm.classes[cI]? = some kI) (hkind : kI.kind = .array cc .long) (hl : ¬ 60 > e.platform.arrayLengthLimit) (hh : ¬ 60 * componentBytes .long > e.platform.maxHeapBytes) (h1 : s.heap.size < e.platform.maxCells) (h2 : s.slotsUsed + 60 ≤ e.platform.maxSlots) {Q : Addr → Pre} (hq : Q s.heap.size d acts (s.pushCell (n_mi cI))) : wp (multianewarray.make cI [60]) Q E e d acts s := by
  rw [multianewarray.make]
  simp only [wp_bind', W.ite, show ¬ ((60 : Int32) < 0) by decide, if_false, wp_pure', W.theClass, hk, hkind, Option.some.injEq, exists_eq_left']
  exact n_wpA hk hkind hl hh rfl rfl h1 h2 hq
