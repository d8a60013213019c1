/-! CALLS over a picture, a method's entry, its end; let and guards of the functions that the program prints -/
def c_let {α β : Type} (v : α) (k : α → β) : β := k v
def c_in (i : Int32) (n : Nat) : Bool := decide (0 ≤ i) && decide (i.toNatClampNeg < n)
theorem c_inV {i : Int32} {n : Nat} (h : c_in i n = true) : vp_in i n := by
  simp only [c_in, Bool.and_eq_true, decide_eq_true_eq] at h
  rintro (q | q)
  · exact absurd h.1 (Int32.not_le.mpr q)
  · omega
theorem c_letE {α β : Type} {v : α} {k : α → β} {r : β} (h : c_let v k = r) : ∃ x, x = v ∧ k x = r := ⟨v, rfl, h⟩
theorem c_gd {α : Type} {b : Bool} {x : Option α} {r : α} (h : (if b = true then x else none) = some r) : b = true ∧ x = some r := by
  cases b with
  | false => cases h
  | true => exact ⟨rfl, h⟩
theorem c_gn {α : Type} {P : Prop} [Decidable P] {x : Option α} {r : α} (h : (if P then none else x) = some r) : ¬ P ∧ x = some r := by
  by_cases q : P
  · rw [if_pos q] at h; cases h
  · rw [if_neg q] at h; exact ⟨q, h⟩
theorem c_gp {α : Type} {P : Prop} [Decidable P] {x : Option α} {r : α} (h : (if P then x else none) = some r) : P ∧ x = some r := by
  by_cases q : P
  · rw [if_pos q] at h; exact ⟨q, h⟩
  · rw [if_neg q] at h; cases h
theorem c_it {α : Type} {P : Prop} [Decidable P] {x y : α} {r : α} (q : P) (h : (if P then x else y) = r) : x = r := by rw [if_pos q] at h; exact h
theorem c_ie {α : Type} {P : Prop} [Decidable P] {x y : α} {r : α} (q : ¬ P) (h : (if P then x else y) = r) : y = r := by rw [if_neg q] at h; exact h
theorem c_bd {α β : Type} {x : Option α} {k : α → Option β} {r : β} (h : x.bind k = some r) : ∃ a, x = some a ∧ k a = some r := by
  cases x with
  | none => cases h
  | some a => exact ⟨a, rfl, h⟩
theorem c_bd2 {α γ β : Type} {x : Option (α × γ)} {k : α × γ → Option β} {r : β} (h : x.bind k = some r) : ∃ a b, x = some (a, b) ∧ k (a, b) = some r := by
  obtain ⟨⟨a, b⟩, h1, h2⟩ := c_bd h
  exact ⟨a, b, h1, h2⟩
def c_b2 {α β : Type} (x : Option (c_G × α)) (k : c_G → α → Option β) : Option β := x.bind (fun z => k z.1 z.2)
theorem c_b2E {α β : Type} {x : Option (c_G × α)} {k : c_G → α → Option β} {r : β} (h : c_b2 x k = some r) : ∃ a b, x = some (a, b) ∧ k a b = some r := by
  cases x with
  | none => cases h
  | some z => exact ⟨z.1, z.2, rfl, h⟩
theorem c_mm {α : Type} {r : α} (h : (none : Option α) = some r) (P : Prop) : P := by cases h
def c_cp (sp dp n : Int32) (n0 n1 : Nat) : Bool := decide (¬ sp < 0) && decide (¬ dp < 0) && decide (¬ n < 0) && decide (sp.toNatClampNeg + n.toNatClampNeg ≤ n0) && decide (dp.toNatClampNeg + n.toNatClampNeg ≤ n1)
theorem c_cpE {sp dp n : Int32} {n0 n1 : Nat} (h : c_cp sp dp n n0 n1 = true) : ¬ sp < 0 ∧ ¬ dp < 0 ∧ ¬ n < 0 ∧ sp.toNatClampNeg + n.toNatClampNeg ≤ n0 ∧ dp.toNatClampNeg + n.toNatClampNeg ≤ n1 := by
  simp only [c_cp, Bool.and_eq_true, decide_eq_true_eq] at h
  exact ⟨h.1.1.1.1, h.1.1.1.2, h.1.1.2, h.1.2, h.2⟩
def c_bo (x : Int32) : Bool := x == 0 || x == 1
theorem c_boE {x : Int32} (h : c_bo x = true) : narrow .boolean (.int x) = .int x := by
  simp only [c_bo, Bool.or_eq_true, beq_iff_eq] at h
  rcases h with rfl | rfl <;> rfl
def c_ch (x : Int32) : Bool := (x.toUInt32 % 65536).toInt32 == x
theorem c_chE {x : Int32} (h : c_ch x = true) : narrow .char (.int x) = .int x := by
  have e := pk_nc x
  rw [beq_iff_eq.mp h] at e
  exact e
theorem c_bN {x : Int32} (h : x = 0 ∨ x = 1) : narrow .boolean (.int x) = .int x := by
  rcases h with rfl | rfl <;> rfl
theorem c_iN {x : Int32} {n : Nat} (h : c_in x n = true) : x.toNatClampNeg < n := by
  simp only [c_in, Bool.and_eq_true, decide_eq_true_eq] at h
  exact h.2
theorem c_sw {x : Int32} {lo n : Nat} (hn : n < 100) (h : ∀ k : Nat, lo ≤ k → k ≤ n → ¬ x = nI k) : x.toInt < (lo : Int) ∨ (n : Int) < x.toInt := by
  by_cases q : x < 0
  · left
    have h1 := Int32.lt_iff_toInt_lt.mp q
    have h2 : x.toInt < 0 := by simpa using h1
    omega
  · obtain ⟨j, hj, rfl⟩ := nI_of q
    rw [nI_toInt hj]
    by_cases q1 : j < lo
    · left; omega
    · by_cases q2 : j ≤ n
      · exact absurd rfl (h j (by omega) q2)
      · right; omega
theorem c_inP {big sub : List Cond} (ps : List Nat) (hp : sub = ps.filterMap (fun i => big[i]?)) : ∀ w ∈ sub, w ∈ big := by
  intro w hw
  rw [hp] at hw
  obtain ⟨i, -, hi⟩ := List.mem_filterMap.mp hw
  exact List.mem_of_getElem? hi
theorem c_hol : ∀ i : Nat, ([59, 60, 61, 62, 0, 0, 0, 63, 64, 65, 66, 67, 68, 69, 73, 77, 1] : List Nat)[i]? = some 1 → i = 16 := by
  intro i h
  by_cases q : i < 17
  · rcases (show i = 0 ∨ i = 1 ∨ i = 2 ∨ i = 3 ∨ i = 4 ∨ i = 5 ∨ i = 6 ∨ i = 7 ∨ i = 8 ∨ i = 9 ∨ i = 10 ∨ i = 11 ∨ i = 12 ∨ i = 13 ∨ i = 14 ∨ i = 15 ∨ i = 16 by omega) with rfl | rfl | rfl | rfl | rfl | rfl | rfl | rfl | rfl | rfl | rfl | rfl | rfl | rfl | rfl | rfl | rfl <;> first | rfl | cases h
  · rw [List.getElem?_eq_none (by show 17 ≤ i; omega)] at h
    cases h
/-- an int array at a handle: its length -/
def c_ia (T : List c_T) (h : Nat) : Option Nat := match T[h]? with
  | some (1, n, []) => some n
  | _ => none
def c_la (T : List c_T) (h : Nat) : Option Nat := match T[h]? with
  | some (2, n, []) => some n
  | _ => none
theorem c_iaE {T : List c_T} {h n : Nat} (e : c_ia T h = some n) : T[h]? = some (1, n, []) := by
  unfold c_ia at e
  split at e
  · next q => cases e; exact q
  · cases e
theorem c_laE {T : List c_T} {h n : Nat} (e : c_la T h = some n) : T[h]? = some (2, n, []) := by
  unfold c_la at e
  split at e
  · next q => cases e; exact q
  · cases e
section CC
variable {p : Program} {l : Launch} {e : Env} {R : Room} {s : State} {m : MethodId} {args : Array Value} {below : List Frame} {meth : Method} {c : Code} {H : Heap} {locs : List Loc} {cells slots : Nat} {Q : State → Prop}
variable {cc : ByteArray} {pc : Nat} {ls : Array Slot} {rest st0 As : List Value} {D : va_G} {A : Nat → Prop} {tc : Nat → ClassId} {ad : Nat → Nat} {T : List c_T} {g g' : c_G} {E : (Nat → Nat) × (Nat → Nat) × Nat} {a : Array Value}
theorem c_topi {x y : Int32} (q : y = x) (k : W p l e R s m args below meth c H locs cells slots Q (F0 m pc ls (.int y :: rest))) : W p l e R s m args below meth c H locs cells slots Q (F0 m pc ls (.int x :: rest)) := q ▸ k
theorem c_topl {x y : Int64} (q : y = x) (k : W p l e R s m args below meth c H locs cells slots Q (F0 m pc ls (.long y :: rest))) : W p l e R s m args below meth c H locs cells slots Q (F0 m pc ls (.long x :: rest)) := q ▸ k
theorem c_goi {r : Int32} (hr : va_Run p l e R s m args below meth c H locs cells slots 0 0 (F0 m pc ls st0) rest (va_Qi (fun (x : Int32) (_ : Unit) => x = r) (fun _ t => va_P D vwCl (c_ws tc ad T g') t.heap) A a) A) (hS : va_S A s.heap H locs)
    (kk : ∀ (H1 : Heap) (locs1 : List Loc), va_P D vwCl (c_ws tc ad T g') H1 → va_S A s.heap H1 locs1 → W p l e R s m args below meth c H1 locs1 cells slots Q (F0 m (pc + 3) ls (.int r :: rest))) : W p l e R s m args below meth c H locs cells slots Q (F0 m pc ls st0) :=
  va_calli hr hS (fun q _ h => h) (fun q h => h) (fun x u t H1 locs1 ht _ hx hB _ _ hS1 => by
    subst hx
    rw [ht] at hB
    exact kk H1 locs1 hB hS1)
theorem c_gol {r : Int64} (hr : va_Run p l e R s m args below meth c H locs cells slots 0 0 (F0 m pc ls st0) rest (va_Ql (fun (x : Int64) (_ : Unit) => x = r) (fun _ t => va_P D vwCl (c_ws tc ad T g') t.heap) A a) A) (hS : va_S A s.heap H locs)
    (kk : ∀ (H1 : Heap) (locs1 : List Loc), va_P D vwCl (c_ws tc ad T g') H1 → va_S A s.heap H1 locs1 → W p l e R s m args below meth c H1 locs1 cells slots Q (F0 m (pc + 3) ls (.long r :: rest))) : W p l e R s m args below meth c H locs cells slots Q (F0 m pc ls st0) :=
  va_calll hr hS (fun q _ h => h) (fun q h => h) (fun x u t H1 locs1 ht _ hx hB _ _ hS1 => by
    subst hx
    rw [ht] at hB
    exact kk H1 locs1 hB hS1)
theorem c_gov (hr : va_Run p l e R s m args below meth c H locs cells slots 0 0 (F0 m pc ls st0) rest (va_Qv (fun (_ : Unit) => True) (fun _ t => va_P D vwCl (c_ws tc ad T g') t.heap) A a) A) (hS : va_S A s.heap H locs)
    (kk : ∀ (H1 : Heap) (locs1 : List Loc), va_P D vwCl (c_ws tc ad T g') H1 → va_S A s.heap H1 locs1 → W p l e R s m args below meth c H1 locs1 cells slots Q (F0 m (pc + 3) ls rest)) : W p l e R s m args below meth c H locs cells slots Q (F0 m pc ls st0) :=
  va_callv hr hS (fun q _ h => h) (fun q h => h) (fun u t H1 locs1 ht _ _ hB _ _ hS1 => by
    rw [ht] at hB
    exact kk H1 locs1 hB hS1)
theorem c_preS {av : List Value} (hK : va_K D vwCl (c_tys tc) s) (hP : va_P D vwCl (c_ws tc ad T g) H) (hE : c_E A E s s.heap) (hS : va_S A s.heap H locs) : PreS s H (va_Pc av (c_Pr D tc ad A E T g)) av :=
  ⟨fun a U gg mk q => ⟨q.1, q.2.1, va_K.moved (u := U) (U := U.calling gg mk a) (Vm.Alike.refl U.vm) q.2.2.1, c_E.same (u := U) (U := U.calling gg mk a) rfl q.2.2.2⟩, fun U hU hW => ⟨rfl, by rw [hU]; exact hP, va_K.moved hW.alike hK, by rw [hU]; exact (hE.kept hS.2.1).warm hW⟩⟩
theorem c_preV {h ci N : Nat} {fl : List Nat} {C : String} {TT : u_T} (hK : va_K D vwCl (c_tys tc) s) (hP : va_P D vwCl (c_ws tc ad T g) H) (hE : c_E A E s s.heap) (hS : va_S A s.heap H locs) (ht : T[h]? = some (0, ci, fl)) (hc : vwCl[ci]? = some (C, TT, N)) : PreV s H C (ad h) (va_Pc (.ref (ad h) :: As) (c_Pr D tc ad A E T g)) As :=
  ⟨(c_preS (av := .ref (ad h) :: As) hK hP hE hS).1, va_recv hK hP hc (c_ws_at h ht), (c_preS (av := .ref (ad h) :: As) hK hP hE hS).2⟩
/-- what is fixed while a method runs -/
def c_C (p : Program) (s : State) (m : MethodId) (meth : Method) (c : Code) (D : va_G) (tc : Nat → ClassId) (A : Nat → Prop) (E : (Nat → Nat) × (Nat → Nat) × Nat) (C : String) (ws : List Cond) (bytes : ByteArray) (maxL : Nat) (ret : Option FieldType) (av : Array Value) : Prop :=
  p.tables.exec = Jvm.exec ∧ c.code = bytes ∧ meth.sig.returnType = ret ∧ c.maxLocals = maxL ∧ (∀ w ∈ ws, w.before av s = true) ∧ s.vm.findClass C = some m.cls ∧ meth.locks = false ∧ va_K D vwCl (c_tys tc) s ∧ c_E A E s s.heap
/-- a method's entry -/
theorem c_ofW {y : MethodName} {ws ws' : List Cond} {rm : Room} {av : List Value} {bytes : ByteArray} {maxL : Nat} {ret : Option FieldType} {Qc : Array Value → State → Outcome → State → Prop} (hy : plainName y.cls = true) (hw : ws = Cond.code y bytes maxL ret :: ws') (hn : (lg_sl av).length ≤ maxL)
    (body : ∀ (p : Program) (e : Env) (s : State) (m : MethodId) (below : List Frame) (meth : Method) (c : Code) (ls : Array Slot), c_C p s m meth c D tc A E y.cls ws bytes maxL ret av.toArray →
      va_P D vwCl (c_ws tc ad T g) s.heap → va_S A s.heap s.heap [] → lv_has ls maxL (lv_args 0 av) →
      W p l e rm s m av.toArray below meth c s.heap [] 0 0 (MQ below Qc av.toArray s 0 0 A) (F0 m 0 ls [])) :
    Met l y ws rm (va_Pc av (c_Pr D tc ad A E T g)) Qc 0 0 A := by
  refine Met.ofW (cc := bytes) (maxL := maxL) (ret := ret) hy hw ?_
  intro p e s m args below meth c s₁ B hml hv
  obtain ⟨rfl, hP, hK, hE⟩ := hv
  have hl := lv_entry av (n := maxL) hn
  have h0 := body p e s m below meth c _ ⟨B.exec, B.bytes, B.returns, hml, atoms_spec (ws := ws) B.pre, findClass_of_methodNamed B.named, B.notSynchronized, hK, hE⟩ hP va_S.rf hl
  rw [lg_entry_eq]
  exact h0
theorem c_iret {g1 : c_G} {r r1 : Int32} {ty : FieldType} (hexec : p.tables.exec = Jvm.exec) (hb : c.code = cc) (hr : meth.sig.returnType = some ty) (hlocks : meth.locks = false) (hP : va_P D vwCl (c_ws tc ad T g1) H) (hS : va_S A s.heap H locs) (hn : narrow ty (.int r1) = .int r1) (hf : g1 = g' ∧ r1 = r) (hdg : decode cc pc = .ok (.ireturn, 1)) :
    W p l e R s m args below meth c H locs cells slots (MQ below (va_Qi (fun (x : Int32) (_ : Unit) => x = r) (fun _ t => va_P D vwCl (c_ws tc ad T g') t.heap) A) args s cells slots A) (F0 m pc ls [.int r1]) := by
  obtain ⟨rfl, rfl⟩ := hf
  exact W.zret hexec hb hr hn (fun t ht hW => ⟨⟨r1, (), rfl, rfl, by show va_P D vwCl _ t.heap; rw [ht]; exact hP⟩, hS.F ht⟩) hS.2.2 hdg hlocks
theorem c_lret {g1 : c_G} {r r1 : Int64} (hexec : p.tables.exec = Jvm.exec) (hb : c.code = cc) (hr : meth.sig.returnType = some .long) (hlocks : meth.locks = false) (hP : va_P D vwCl (c_ws tc ad T g1) H) (hS : va_S A s.heap H locs) (hf : g1 = g' ∧ r1 = r) (hdg : decode cc pc = .ok (.lreturn, 1)) :
    W p l e R s m args below meth c H locs cells slots (MQ below (va_Ql (fun (x : Int64) (_ : Unit) => x = r) (fun _ t => va_P D vwCl (c_ws tc ad T g') t.heap) A) args s cells slots A) (F0 m pc ls [.long r1]) := by
  obtain ⟨rfl, rfl⟩ := hf
  exact W.lret hexec hb hr (fun t ht hW => ⟨⟨r1, (), rfl, rfl, by show va_P D vwCl _ t.heap; rw [ht]; exact hP⟩, hS.F ht⟩) hS.2.2 hdg hlocks
theorem c_vret {g1 : c_G} (hexec : p.tables.exec = Jvm.exec) (hb : c.code = cc) (hr : meth.sig.returnType = none) (hlocks : meth.locks = false) (hP : va_P D vwCl (c_ws tc ad T g1) H) (hS : va_S A s.heap H locs) (hf : g1 = g') (hdg : decode cc pc = .ok (.return_, 1)) :
    W p l e R s m args below meth c H locs cells slots (MQ below (va_Qv (fun (_ : Unit) => True) (fun _ t => va_P D vwCl (c_ws tc ad T g') t.heap) A) args s cells slots A) (F0 m pc ls []) := by
  subst hf
  exact W.vret hexec hb hr (fun t ht hW => ⟨⟨(), rfl, trivial, by show va_P D vwCl _ t.heap; rw [ht]; exact hP⟩, hS.F ht⟩) hS.2.2 hdg hlocks
end CC
