/-! an array of six arrays of sixty longs: the machine's step -/
def n_mo (cA : ClassId) (a i : Nat) : Cell := arrV cA 6 fun j => if j < i then .ref (a + 1 + j) else .null
def n_mi (cI : ClassId) : Cell := { cls := cI, slots := Array.replicate 60 (.long 0), vm := .none }
def n_ms (T : State) (cA cI : ClassId) : Nat → State
  | 0 => T.pushCell (n_mo cA T.heap.size 0)
  | i + 1 => ((n_ms T cA cI i).pushCell (n_mi cI)).setCell T.heap.size (n_mo cA T.heap.size (i + 1))
theorem n_mo_next (cA : ClassId) (a i : Nat) : (n_mo cA a i).setSlot i (.ref (a + 1 + i)) = n_mo cA a (i + 1) := by
  show _ = arrV cA 6 fun j => if j < i + 1 then Value.ref (a + 1 + j) else .null
  unfold n_mo
  rw [arrV_store]
  congr 1
  funext j
  unfold updV
  by_cases q : j = i
  · subst q
    rw [if_pos rfl, if_pos (by omega)]
  · rw [if_neg q]
    show (if j < i then Value.ref (a + 1 + j) else Value.null) = if j < i + 1 then Value.ref (a + 1 + j) else Value.null
    by_cases z : j < i
    · rw [if_pos z, if_pos (by omega)]
    · rw [if_neg z, if_neg (by omega)]
theorem n_mo_size (cA : ClassId) (a i : Nat) : (n_mo cA a i).slots.size = 6 := arrV_size _ _ _
theorem n_ms_at (T : State) (cA cI : ClassId) : ∀ i, (n_ms T cA cI i).heap.size = T.heap.size + 1 + i ∧ (n_ms T cA cI i).heap[T.heap.size]? = some (n_mo cA T.heap.size i) ∧ (n_ms T cA cI i).vm = T.vm ∧ (n_ms T cA cI i).slotsUsed = T.slotsUsed + 6 + i * 60
  | 0 => ⟨by simp [n_ms], by simp [n_ms], rfl, by simp [n_ms, n_mo_size]⟩
  | i + 1 => by
    obtain ⟨h1, h2, h3, h4⟩ := n_ms_at T cA cI i
    have hl : T.heap.size < (n_ms T cA cI i).heap.size := by omega
    have h5 : ((n_ms T cA cI i).pushCell (n_mi cI)).heap[T.heap.size]? = some (n_mo cA T.heap.size i) := by rw [State.heap_pushCell_of_lt (h := hl)]; exact h2
    refine ⟨?_, State.heap_setCell_self h5, by simp [n_ms, h3], ?_⟩
    · simp [n_ms, State.setCell, h1]; omega
    · simp [n_ms, h4, n_mi, Nat.succ_mul]; omega
theorem n_ms_old (T : State) (cA cI : ClassId) {a : Nat} (ha : a < T.heap.size) : ∀ i, (n_ms T cA cI i).heap[a]? = T.heap[a]?
  | 0 => State.heap_pushCell_of_lt _ _ ha
  | i + 1 => by
    have h1 := (n_ms_at T cA cI i).1
    show (((n_ms T cA cI i).pushCell (n_mi cI)).setCell T.heap.size _).heap[a]? = _
    have h2 : a < (n_ms T cA cI i).heap.size := by rw [h1]; omega
    rw [State.heap_setCell_other (Nat.ne_of_gt ha), State.heap_pushCell_of_lt (h := h2)]
    exact n_ms_old T cA cI ha i
theorem n_ms_in (T : State) (cA cI : ClassId) : ∀ i j, j < i → (n_ms T cA cI i).heap[T.heap.size + 1 + j]? = some (n_mi cI)
  | 0, _, h => absurd h (Nat.not_lt_zero _)
  | i + 1, j, h => by
    have h1 := (n_ms_at T cA cI i).1
    show (((n_ms T cA cI i).pushCell (n_mi cI)).setCell T.heap.size _).heap[T.heap.size + 1 + j]? = _
    rw [State.heap_setCell_other (show T.heap.size ≠ T.heap.size + 1 + j by omega)]
    by_cases q : j < i
    · have h2 : T.heap.size + 1 + j < (n_ms T cA cI i).heap.size := by rw [h1]; omega
      rw [State.heap_pushCell_of_lt (h := h2)]
      exact n_ms_in T cA cI i j q
    · have e : T.heap.size + 1 + j = (n_ms T cA cI i).heap.size := by omega
      rw [e]
      exact State.heap_pushCell_size _ _
theorem n_ms_top (T : State) (f : JFrame) (cA cI : ClassId) : ∀ i, n_ms (T.setTop f) cA cI i = (n_ms T cA cI i).setTop f
  | 0 => rfl
  | i + 1 => by
    show ((n_ms (T.setTop f) cA cI i).pushCell _).setCell _ _ = _
    rw [n_ms_top T f cA cI i]
    rfl
theorem n_wpA {E : CtlPost} {e : Env} {d : Bool} {acts : List Action} {s : State} {c comp : ClassId} {k : Class} {ty : FieldType} {n : Nat} {v : Value} (hk : s.vm.classes[c]? = some k) (hkind : k.kind = .array comp ty) (hl : ¬ n > e.platform.arrayLengthLimit) (hh : ¬ n * componentBytes ty > e.platform.maxHeapBytes) (hfit : fits ty v = true) (hdef : v.isDefault = true) (h1 : s.heap.size < e.platform.maxCells) (h2 : s.slotsUsed + n ≤ e.platform.maxSlots) {Q : Addr → Pre} (hq : Q s.heap.size d acts (s.pushCell { cls := c, slots := Array.replicate n v, vm := .none })) : wp (Jvm.newArray c n v) Q E e d acts s := by
  have q1 : ∀ i x, (Array.replicate n v)[i]? = some x → s.fitsSlot c .none i x = true := by
    intro i x hx
    simp only [Array.getElem?_replicate] at hx
    split at hx
    · cases hx
      simp [State.fitsSlot, State.slotType?, hk, hkind, hfit]
    · cases hx
  have q2 : allocActs (Array.replicate n v) s.heap.size acts = acts := by
    have q3 : ((Array.replicate n v).all (·.isDefault)) = true := by rw [Array.all_replicate]; split <;> simp [hdef]
    unfold allocActs
    rw [if_pos q3]
  simp only [Jvm.newArray, Jvm.arrayFits, wp_bind', W.ask, W.ite, hl, if_false, wp_pure', W.theClass, hk, hkind, hh, W.alloc, W.stop, Option.some.injEq, exists_eq_left', Array.size_replicate, q2]
  rw [if_neg (by omega)]
  exact ⟨h1, h2, q1, hq⟩
theorem n_wpI {E : CtlPost} {e : Env} {d : Bool} {acts : List Action} {s : State} {cI cc : ClassId} {kI : Class} (hk : s.vm.classes[cI]? = some kI) (hkind : kI.kind = .array cc .long) (hl : ¬ 60 > e.platform.arrayLengthLimit) (hh : ¬ 60 * componentBytes .long > e.platform.maxHeapBytes) (h1 : s.heap.size < e.platform.maxCells) (h2 : s.slotsUsed + 60 ≤ e.platform.maxSlots) {Q : Addr → Pre} (hq : Q s.heap.size d acts (s.pushCell (n_mi cI))) : wp (multianewarray.make cI [60]) Q E e d acts s := by
  rw [multianewarray.make]
  simp only [wp_bind', W.ite, show ¬ ((60 : Int32) < 0) by decide, if_false, wp_pure', W.theClass, hk, hkind, Option.some.injEq, exists_eq_left']
  exact n_wpA hk hkind hl hh rfl rfl h1 h2 hq
theorem n_wpM {E : CtlPost} {e : Env} {d : Bool} {acts : List Action} {s : State} {cA cI cc : ClassId} {kA kI : Class} (hkA : s.vm.classes[cA]? = some kA) (hA : kA.kind = .array cI (.array .long)) (hkI : s.vm.classes[cI]? = some kI) (hI : kI.kind = .array cc .long) (hl1 : ¬ 6 > e.platform.arrayLengthLimit) (hh1 : ¬ 6 * componentBytes (.array .long) > e.platform.maxHeapBytes) (hl2 : ¬ 60 > e.platform.arrayLengthLimit) (hh2 : ¬ 60 * componentBytes .long > e.platform.maxHeapBytes) (h1 : s.heap.size + 7 ≤ e.platform.maxCells) (h2 : s.slotsUsed + 366 ≤ e.platform.maxSlots) {Q : Addr → Pre} (hq : ∀ d1 acts1, Q s.heap.size d1 acts1 (n_ms s cA cI 6)) : wp (multianewarray.make cA [6, 60]) Q E e d acts s := by
  have hf : ([(60 : Int32)].find? (· < 0)) = none := by decide
  rw [multianewarray.make]
  simp only [wp_bind', W.ite, show ¬ ((6 : Int32) < 0) by decide, if_false, wp_pure', W.theClass, hkA, hA, Option.some.injEq, exists_eq_left']
  refine n_wpA hkA hA hl1 hh1 rfl rfl (by omega) (show s.slotsUsed + 6 ≤ _ by omega) ?_
  simp only [hf]
  rw [ite_self, wp_bind', Std.Legacy.Range.forIn_eq_forIn_range']
  show wp (forIn (List.range' 0 6 1) PUnit.unit _) _ E e d acts _
  have h00 : s.pushCell { cls := cA, slots := Array.replicate 6 Value.null, vm := .none } = n_ms s cA cI 0 := by
    show _ = s.pushCell (n_mo cA s.heap.size 0)
    congr 1
  rw [h00]
  refine wp_forIn_inv (fun rest s' => ∃ i, i ≤ 6 ∧ rest = List.range' i (6 - i) ∧ s' = n_ms s cA cI i) _ _ ⟨0, Nat.zero_le _, rfl, rfl⟩ ?_ ?_
  · rintro x rest s' d' acts' Q' ⟨i, hi, hl, rfl⟩ hnext
    have hlt : i < 6 := by
      by_cases q : i < 6
      · exact q
      · rw [show 6 - i = 0 by omega] at hl
        cases hl
    rw [show 6 - i = (6 - (i + 1)) + 1 by omega, List.range'_succ] at hl
    obtain ⟨rfl, hrest⟩ := List.cons.inj hl
    obtain ⟨f1, f2, f3, f4⟩ := n_ms_at s cA cI x
    simp only [wp_bind']
    refine n_wpI (by rw [f3]; exact hkI) hI hl2 hh2 (by rw [f1]; omega) (by rw [f4]; omega) ?_
    have hl0 : s.heap.size < (n_ms s cA cI x).heap.size := by rw [f1]; omega
    simp only [wp_bind', W.writeLoc, wp_pure']
    refine ⟨n_mo cA s.heap.size x, by rw [State.heap_pushCell_of_lt (h := hl0)]; exact f2, by simp [n_mo, arrV], by rw [n_mo_size]; exact hlt, ?_, hnext _ _ _ ⟨x + 1, hlt, hrest, ?_⟩⟩
    · show State.fitsSlot _ cA .none x _ = true
      simp [State.fitsSlot, State.slotType?, f3, hkA, hA, fits]
    · rw [f1, n_mo_next]
      rfl
  · rintro s' d' acts' ⟨i, hi, hl, rfl⟩
    have hi6 : i = 6 := by
      by_cases q : i < 6
      · rw [show 6 - i = (6 - (i + 1)) + 1 by omega, List.range'_succ] at hl
        cases hl
      · omega
    subst hi6
    simp only [wp_pure']
    exact hq _ _
section NMU
variable {p : Program} {l : Launch} {e : Env} {R : Room} {s : State} {m : MethodId} {args : Array Value} {below : List Frame} {meth : Method} {c : Code} {H : Heap} {locs : List Loc} {cells slots : Nat} {Q : State → Prop}
variable {cc : ByteArray} {pc : Nat} {ls : Array Slot} {rest : List Value} {D : va_G} {tc : Nat → ClassId} {h0 : Nat} {T : List c_T} {g : c_G}
theorem n_msX {U : State} (X : Stand p l e R s m args below meth c U locs cells slots) (cA cI : ClassId) : ∀ i, Stand p l e R s m args below meth c (n_ms U cA cI i) (locs ++ (List.range i).map fun j => ⟨U.heap.size, j⟩) (cells + 1 + i) (slots + 6 + i * 60)
  | 0 => by
    have h := X.pushed (n_mo cA U.heap.size 0)
    rw [n_mo_size] at h
    simpa [n_ms] using h
  | i + 1 => by
    obtain ⟨f1, f2, f3, f4⟩ := n_ms_at U cA cI i
    have hl : U.heap.size < (n_ms U cA cI i).heap.size := by omega
    have h5 : ((n_ms U cA cI i).pushCell (n_mi cI)).heap[U.heap.size]? = some (n_mo cA U.heap.size i) := by rw [State.heap_pushCell_of_lt (h := hl)]; exact f2
    have h := ((n_msX X cA cI i).pushed (n_mi cI)).stored h5 i (.ref (U.heap.size + 1 + i))
    rw [n_mo_next, show (n_mi cI).slots.size = 60 by simp [n_mi]] at h
    rw [show (locs ++ (List.range (i + 1)).map fun j => (⟨U.heap.size, j⟩ : Loc)) = (locs ++ (List.range i).map fun j => (⟨U.heap.size, j⟩ : Loc)) ++ [⟨U.heap.size, i⟩] by simp [List.range_succ, List.append_assoc], show slots + 6 + (i + 1) * 60 = slots + 6 + i * 60 + 60 by omega]
    exact h
theorem n_Wmulti (hexec : p.tables.exec = Jvm.exec) (hb : c.code = cc) {own : String} {index : Nat} (hown : s.vm.findClass own = some m.cls) (hclink : (Cond.classLink own index ("[" ++ (FieldType.array .long).toString)).before args s = true) (hover : (Cond.arrayOver (.array .long)).before args s = true) (harr : (Cond.arrayClass .long).before args s = true) (hcells : cells + 7 ≤ R.cells) (hslots : slots + 366 ≤ R.slots) (hdg : decode cc pc = .ok (.multianewarray index 2, 4))
    (kk : ∀ (cA cI : ClassId) (U : State), U.heap = H → s.vm.findClass ("[" ++ (FieldType.array .long).toString) = some cA → s.vm.findClass (FieldType.array .long).toString = some cI → W p l e R s m args below meth c (n_ms U cA cI 6).heap (locs ++ (List.range 6).map fun j => ⟨H.size, j⟩) (cells + 7) (slots + 366) Q (F0 m (pc + 4) ls (.ref H.size :: rest))) : W p l e R s m args below meth c H locs cells slots Q (F0 m pc ls (.int 60 :: .int 6 :: rest)) := by
  intro U hU X
  subst hU
  subst hb
  have hpl : e.platform.magicAccessors = ({} : Platform).magicAccessors := by rw [X.admits.platform]
  obtain ⟨cI, cA, kA, hcI, -, hkA, hA, hnA⟩ := arrayOverA_spec hover
  obtain ⟨cI2, kI, co, hcI2, hkI, hI⟩ := Cond.arrayClass_spec harr
  cases (Option.some.inj (hcI2.symm.trans hcI) : cI2 = cI)
  obtain ⟨c0, hfc0, hcl⟩ := Cond.classLink_spec hown hclink e.platform hpl
  cases hnA.symm.trans hfc0
  obtain ⟨hg1, hwarm, hready⟩ := State.classEntry (e := e) X.warmed hcl
  generalize hvm : U.vm.noted m.cls index (.cls cA) = vm1 at hg1 hwarm hready
  have hal : s.vm.Alike vm1 := hwarm.alike
  obtain ⟨kA1, hkA1, eA⟩ := hal.2.2 _ _ hkA
  obtain ⟨kI1, hkI1, eI⟩ := hal.2.2 _ _ hkI
  have hA1 : kA1.kind = .array cI (.array .long) := by rw [eA]; exact hA
  have hI1 : kI1.kind = .array co .long := by rw [eI]; exact hI
  have X1 := X.noted hwarm
  obtain ⟨r1, r2⟩ := X.roomAbove hcells hslots
  have XF := n_msX X1 cA cI 6
  obtain ⟨t, a1, b1⟩ := kk cA cI (U.setVm vm1) rfl hnA hcI _ rfl (by
    have h := XF
    rw [show cells + 1 + 6 = cells + 7 by omega, show slots + 6 + 6 * 60 = slots + 366 by omega] at h
    exact h)
  refine ⟨t, ?_, b1⟩
  have l1 : ¬ 6 > e.platform.arrayLengthLimit := by rw [Launch.admits_arrayLengthLimit X.admits]; decide
  have l2 : ¬ 60 > e.platform.arrayLengthLimit := by rw [Launch.admits_arrayLengthLimit X.admits]; decide
  have m1 : ¬ 6 * componentBytes (.array .long) > e.platform.maxHeapBytes := by rw [Launch.admits_maxHeapBytes X.admits]; decide
  have m2 : ¬ 60 * componentBytes .long > e.platform.maxHeapBytes := by rw [Launch.admits_maxHeapBytes X.admits]; decide
  jvm_step X.here [hexec, hdg]
  have hmt : (U.setTop (F0 m pc ls (.int 60 :: .int 6 :: rest))).method? = some m := State.method?_setTop (F0 m pc ls (.int 60 :: .int 6 :: rest)) X.here.top
  have hg2 : (resolveClass m.cls index).Gives e.toSetting (U.setTop (F0 m pc ls (.int 60 :: .int 6 :: rest))).vm (.ok cA) vm1 := hg1
  simp only [multianewarray.sem, wp_bind', W.resolveClassAt_links hmt hg2]
  rw [W.popN, if_neg (by decide)]
  refine ⟨F0 m pc ls (.int 60 :: .int 6 :: rest), State.topJava?_setTop' (s := U.setVm vm1) _ X.here.top, [.int 6, .int 60], rest, rfl, rfl, ?_⟩
  simp only [List.mapM_cons, List.mapM_nil, wp_bind', wp_pure']
  refine n_wpM (kA := kA1) (kI := kI1) (cI := cI) (cc := co) hkA1 hA1 hkI1 hI1 l1 m1 l2 m2 (by show U.heap.size + 7 ≤ _; omega) (by show U.slotsUsed + 366 ≤ _; exact r2) (fun d1 acts1 => ?_)
  have eS : ((U.setTop (F0 m pc ls (.int 60 :: .int 6 :: rest))).setVm vm1).setTop (F0 m pc ls rest) = (U.setVm vm1).setTop (F0 m pc ls rest) := by
    show ((U.setVm vm1).setTop _).setTop _ = _
    rw [State.setTop_setTop]
  rw [show ({ method := m, pc := pc, locals := ls, stack := rest, locked := none } : JFrame) = F0 m pc ls rest from rfl, eS, n_ms_top]
  simp only [wp_bind', W.mark, W.pushRef, State.topJava?_setTop' _ XF.here.top, Option.some.injEq, exists_eq_left', State.setTop_setTop, State.heap_setTop]
  intro acts
  simp [jvm, XF.here.top]
  exact a1
end NMU
theorem n_el7 {h0 n : Nat} : (fun j => va_rf (c_el (n_ad h0) [n + 1 + 3, n + 2 + 3, n + 3 + 3, n + 4 + 3, n + 5 + 3, n + 6 + 3] j)) = fun j => if j < 6 then Value.ref (h0 + n + 1 + j) else .null := by
  funext j
  by_cases q : j < 6
  · rw [if_pos q]
    rcases (show j = 0 ∨ j = 1 ∨ j = 2 ∨ j = 3 ∨ j = 4 ∨ j = 5 by omega) with rfl | rfl | rfl | rfl | rfl | rfl
    · exact congrArg Value.ref (show h0 + (n + 1) = h0 + n + 1 + 0 by omega)
    · exact congrArg Value.ref (show h0 + (n + 2) = h0 + n + 1 + 1 by omega)
    · exact congrArg Value.ref (show h0 + (n + 3) = h0 + n + 1 + 2 by omega)
    · exact congrArg Value.ref (show h0 + (n + 4) = h0 + n + 1 + 3 by omega)
    · exact congrArg Value.ref (show h0 + (n + 5) = h0 + n + 1 + 4 by omega)
    · exact congrArg Value.ref (show h0 + (n + 6) = h0 + n + 1 + 5 by omega)
  · rw [if_neg q]
    unfold c_el
    rw [List.getElem?_eq_none (by show 6 ≤ j; omega)]
    rfl
theorem n_ar7 {cA : ClassId} {a : Nat} : n_mo cA a 6 = arrV cA 6 fun j => if j < 6 then Value.ref (a + 1 + j) else .null := rfl
section NM2
variable {p : Program} {l : Launch} {e : Env} {R : Room} {s : State} {m : MethodId} {args : Array Value} {below : List Frame} {meth : Method} {c : Code} {H : Heap} {locs : List Loc} {cells slots : Nat} {Q : State → Prop}
variable {cc : ByteArray} {pc : Nat} {ls : Array Slot} {rest : List Value} {D : va_G} {tc : Nat → ClassId} {h0 : Nat} {T : List c_T} {g : c_G}
theorem n_multi (hexec : p.tables.exec = Jvm.exec) (hb : c.code = cc) {own : String} {index : Nat} (hown : s.vm.findClass own = some m.cls) (hclink : (Cond.classLink own index "[[J").before args s = true) (hover : (Cond.arrayOver (.array .long)).before args s = true) (harr : (Cond.arrayClass .long).before args s = true) (hK : va_K D vwCl (c_tys tc) s) (hP : va_P D vwCl (c_ws tc (n_ad h0) T g) H) (hz : H.size = h0 + T.length) (hS : va_S (n_A h0) s.heap H locs) (hg0 : ∀ k, T.length < k → ∀ j, g.2.1 k j = 0) (hcells : cells + 7 ≤ R.cells) (hslots : slots + 366 ≤ R.slots) (hdg : decode cc pc = .ok (.multianewarray index 2, 4))
    (kk : ∀ (H1 : Heap) (locs1 : List Loc), va_P D vwCl (c_ws tc (n_ad h0) (T ++ [(7, 6, [T.length + 1 + 3, T.length + 2 + 3, T.length + 3 + 3, T.length + 4 + 3, T.length + 5 + 3, T.length + 6 + 3]), (2, 60, []), (2, 60, []), (2, 60, []), (2, 60, []), (2, 60, []), (2, 60, [])]) g) H1 → H1.size = h0 + T.length + 7 → va_S (n_A h0) s.heap H1 locs1 → W p l e R s m args below meth c H1 locs1 (cells + 7) (slots + 366) Q (F0 m (pc + 4) ls (.ref (n_ad h0 T.length) :: rest))) : W p l e R s m args below meth c H locs cells slots Q (F0 m pc ls (.int 60 :: .int 6 :: rest)) := by
  refine n_Wmulti hexec hb hown hclink hover harr hcells hslots hdg (fun cA cI U hU f1 f2 => ?_)
  have t7 : s.vm.findClass ("[" ++ (FieldType.array .long).toString) = some (tc 7) := (hK.2 6 _ rfl).2
  have t2 : s.vm.findClass (FieldType.array .long).toString = some (tc 2) := (hK.2 1 _ rfl).2
  cases f1.symm.trans t7
  cases f2.symm.trans t2
  obtain ⟨z1, z2, -, -⟩ := n_ms_at U (tc 7) (tc 2) 6
  have zi := n_ms_in U (tc 7) (tc 2) 6
  have zo := fun a ha => n_ms_old U (tc 7) (tc 2) (a := a) ha 6
  rw [hU, hz] at z1 z2 zi zo
  have k := kk (n_ms U (tc 7) (tc 2) 6).heap (locs ++ (List.range 6).map fun j => ⟨H.size, j⟩) ?_ (by rw [z1]) ?_
  · rw [show n_ad h0 T.length = H.size from hz.symm] at k
    exact k
  · show va_P D vwCl (c_wF tc (n_ad h0) g 0 (T ++ _)) _
    rw [n_wF, Nat.zero_add]
    refine (hP.kept fun k x hx => zo x.1 ?_).app fun k x hx => ?_
    · have := (hP k x hx).lt
      omega
    · have hk : k < 7 := by
        have h := (List.getElem?_eq_some_iff.mp hx).1
        rwa [c_wF_len] at h
      have inner : ∀ j, j < 6 → va_at D vwCl (n_ad h0 (T.length + (1 + j)), c_cell tc (n_ad h0) g (T.length + (1 + j)) (2, 60, [])) (n_ms U (tc 7) (tc 2) 6).heap := by
        intro j hj
        show (n_ms U (tc 7) (tc 2) 6).heap[h0 + (T.length + (1 + j))]? = some (arrV (tc 2) 60 fun i => .long (g.2.1 (T.length + (1 + j)) i))
        rw [show (fun i => Value.long (g.2.1 (T.length + (1 + j)) i)) = fun _ => Value.long 0 from funext fun i => congrArg Value.long (hg0 _ (by omega) i), show h0 + (T.length + (1 + j)) = h0 + T.length + 1 + j by omega, zi j hj, ← arrV_new]
        rfl
      rcases (show k = 0 ∨ k = 1 ∨ k = 2 ∨ k = 3 ∨ k = 4 ∨ k = 5 ∨ k = 6 by omega) with rfl | rfl | rfl | rfl | rfl | rfl | rfl
      · cases (c_wF_at _ _ 0 rfl).symm.trans hx
        show (n_ms U (tc 7) (tc 2) 6).heap[h0 + (T.length + 0)]? = some (arrV (tc 7) 6 fun j => va_rf (c_el (n_ad h0) _ j))
        rw [n_el7, Nat.add_zero, z2, n_ar7]
      · cases (c_wF_at _ _ 1 rfl).symm.trans hx
        exact inner 0 (by decide)
      · cases (c_wF_at _ _ 2 rfl).symm.trans hx
        exact inner 1 (by decide)
      · cases (c_wF_at _ _ 3 rfl).symm.trans hx
        exact inner 2 (by decide)
      · cases (c_wF_at _ _ 4 rfl).symm.trans hx
        exact inner 3 (by decide)
      · cases (c_wF_at _ _ 5 rfl).symm.trans hx
        exact inner 4 (by decide)
      · cases (c_wF_at _ _ 6 rfl).symm.trans hx
        exact inner 5 (by decide)
  · refine ⟨Nat.le_trans hS.1 (by rw [z1]; omega), fun x h1 h2 => (zo x (by have := hS.1; omega)).trans (hS.2.1 x h1 h2), fun q hq => ?_⟩
    rcases List.mem_append.mp hq with h | h
    · exact hS.2.2 q h
    · obtain ⟨i, -, rfl⟩ := List.mem_map.mp h
      show h0 ≤ H.size
      omega
end NM2
