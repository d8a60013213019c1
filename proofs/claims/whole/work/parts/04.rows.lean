/-! THE CONTRACT'S SHAPE: the world before and behind, the rest unchanged; rows over a picture -/
def c_len : List Nat := [4, 3, 6, 6, 3]
def c_byt : List (List Int32) := [[117, 105, 116, 32], [97, 114, 32], [108, 101, 97, 114, 110, 32], [112, 107, 118, 120, 108, 97], [60, 61, 62]]
def c_six : Nat → Nat
  | 0 => 52
  | 1 => 54
  | 2 => 56
  | 3 => 83
  | _ => 89
def c_stx : Nat → String
  | 0 => "uit "
  | 1 => "ar "
  | 2 => "learn "
  | 3 => "pkvxla"
  | _ => "<=>"
def c_abv : Nat → Int32
  | 0 => -1
  | 1 => 0
  | 2 => 0
  | 3 => 0
  | 4 => 1
  | 5 => 2
  | _ => 3
/-- what lies outside of the world and is read: texts of constants, two statics -/
def c_E (A : Nat → Prop) (E : (Nat → Nat) × (Nat → Nat) × Nat) (U : State) (H : Heap) : Prop :=
  (vk_S 5 c_len c_byt E.1 E.2.1 A U H ∧ va_Z "NamingElders" "ABOVE" "[I" (.ref E.2.2) A U H ∧ va_T .int E.2.2 7 (fun j => .int (c_abv j)) A U H ∧ va_Z "java/lang/String" "COMPACT_STRINGS" "Z" (.int 1) A U H ∧ va_Zq "jdk/internal/util/Preconditions" "SIOOBE_FORMATTER" "Ljava/util/function/BiFunction;" A U H) ∧ ∀ k, k < 5 → vk_R "NamingElders$Valley" (c_six k) (c_stx k) (E.1 k) U
theorem c_E.same {A : Nat → Prop} {E : (Nat → Nat) × (Nat → Nat) × Nat} {u U : State} {H : Heap} (hvm : U.vm = u.vm) (h : c_E A E u H) : c_E A E U H :=
  have ha : u.vm.Alike U.vm := by rw [hvm]; exact Vm.Alike.refl _
  ⟨⟨h.1.1.moved ha, h.1.2.1.moved ha, h.1.2.2.1.moved ha, h.1.2.2.2.1.moved ha, h.1.2.2.2.2.moved ha⟩, fun k hk => vk_R.same hvm (h.2 k hk)⟩
theorem c_E.warm {A : Nat → Prop} {E : (Nat → Nat) × (Nat → Nat) × Nat} {s U : State} {H : Heap} (hW : s.WarmedH U.vm) (h : c_E A E s H) : c_E A E U H :=
  ⟨⟨h.1.1.moved hW.alike, h.1.2.1.moved hW.alike, h.1.2.2.1.moved hW.alike, h.1.2.2.2.1.moved hW.alike, h.1.2.2.2.2.moved hW.alike⟩, fun k hk => vk_R.warm hW (h.2 k hk)⟩
theorem c_E.kept {A : Nat → Prop} {E : (Nat → Nat) × (Nat → Nat) × Nat} {U : State} {H H1 : Heap} (h : c_E A E U H) (hq : ∀ a : Nat, a < H.size → ¬ A a → H1[a]? = H[a]?) : c_E A E U H1 :=
  ⟨⟨h.1.1.kept hq, h.1.2.1.kept hq, h.1.2.2.1.kept hq, h.1.2.2.2.1.kept hq, h.1.2.2.2.2.kept hq⟩, h.2⟩
def c_Pr (D : va_G) (tc : Nat → ClassId) (ad : Nat → Nat) (A : Nat → Prop) (E : (Nat → Nat) × (Nat → Nat) × Nat) (T : List c_T) (g : c_G) : State → Prop := fun U => va_P D vwCl (c_ws tc ad T g) U.heap ∧ va_K D vwCl (c_tys tc) U ∧ c_E A E U U.heap
def c_rm (d : Nat) : Room := { frames := d, cells := 0, slots := 0, locals := 40 * d }
def c_Mi (l : Launch) (y : MethodName) (ws : List Cond) (rm : Room) (D : va_G) (tc : Nat → ClassId) (ad : Nat → Nat) (A : Nat → Prop) (E : (Nat → Nat) × (Nat → Nat) × Nat) (T : List c_T) (av : List Value) (g g' : c_G) (r : Int32) : Prop :=
  Met l y ws rm (va_Pc av (c_Pr D tc ad A E T g)) (va_Qi (fun (x : Int32) (_ : Unit) => x = r) (fun _ t => va_P D vwCl (c_ws tc ad T g') t.heap) A) 0 0 A
def c_Ml (l : Launch) (y : MethodName) (ws : List Cond) (rm : Room) (D : va_G) (tc : Nat → ClassId) (ad : Nat → Nat) (A : Nat → Prop) (E : (Nat → Nat) × (Nat → Nat) × Nat) (T : List c_T) (av : List Value) (g g' : c_G) (r : Int64) : Prop :=
  Met l y ws rm (va_Pc av (c_Pr D tc ad A E T g)) (va_Ql (fun (x : Int64) (_ : Unit) => x = r) (fun _ t => va_P D vwCl (c_ws tc ad T g') t.heap) A) 0 0 A
def c_Mv (l : Launch) (y : MethodName) (ws : List Cond) (rm : Room) (D : va_G) (tc : Nat → ClassId) (ad : Nat → Nat) (A : Nat → Prop) (E : (Nat → Nat) × (Nat → Nat) × Nat) (T : List c_T) (av : List Value) (g g' : c_G) : Prop :=
  Met l y ws rm (va_Pc av (c_Pr D tc ad A E T g)) (va_Qv (fun (_ : Unit) => True) (fun _ t => va_P D vwCl (c_ws tc ad T g') t.heap) A) 0 0 A
theorem c_inj {α β : Type} {a c : α} {b d : β} (h : some (a, b) = some (c, d)) : a = c ∧ b = d := by
  cases h
  exact ⟨rfl, rfl⟩
theorem c_fs_setR {ad : Nat → Nat} {I : Nat → Int32} {r r1 : Nat} : ∀ (l : List Nat) (k j : Nat), l[j]? = some 1 → (∀ i, l[i]? = some 1 → i = j) → (c_fs ad I r k l).set j (.ref (ad r1)) = c_fs ad I r1 k l
  | [], k, j, h, _ => by simp at h
  | x :: l, k, 0, h, hu => by
    rw [List.getElem?_cons_zero] at h
    cases h
    have e : ∀ (l : List Nat) (q : Nat), (∀ i : Nat, l[i]? = some 1 → False) → c_fs ad I r1 q l = c_fs ad I r q l := by
      intro l
      induction l with
      | nil => intro q _; rfl
      | cons y l ih =>
        intro q hq
        show c_fv ad I r1 q y :: c_fs ad I r1 (q + 1) l = _
        rw [ih (q + 1) (fun i hi => hq (i + 1) (by rw [List.getElem?_cons_succ]; exact hi))]
        refine congrArg (· :: _) ?_
        match y, hq with
        | 0, _ => rfl
        | 1, hq => exact (hq 0 rfl).elim
        | 2, _ => rfl
        | _ + 3, _ => rfl
    show Value.ref (ad r1) :: c_fs ad I r (k + 1) l = Value.ref (ad r1) :: c_fs ad I r1 (k + 1) l
    rw [e l (k + 1) (fun i hi => absurd (hu (i + 1) (by rw [List.getElem?_cons_succ]; exact hi)) (by omega))]
  | x :: l, k, j + 1, h, hu => by
    rw [List.getElem?_cons_succ] at h
    show c_fv ad I r k x :: (c_fs ad I r (k + 1) l).set j (.ref (ad r1)) = c_fv ad I r1 k x :: c_fs ad I r1 (k + 1) l
    rw [c_fs_setR l (k + 1) j h (fun i hi => by have := hu (i + 1) (by rw [List.getElem?_cons_succ]; exact hi); omega)]
    refine congrArg (· :: _) ?_
    match x, hu with
    | 0, _ => rfl
    | 1, hu => exact absurd (hu 0 rfl) (by omega)
    | 2, _ => rfl
    | _ + 3, _ => rfl
/-- so many are bytes -/
def c_fb (f : Nat → Int32) (n : Nat) : Bool := (List.range n).all fun i => fits .byte (.int (f i))
theorem c_fbE {f : Nat → Int32} {n i : Nat} (h : c_fb f n = true) (hi : i < n) : fits .byte (.int (f i)) = true := List.all_eq_true.mp h i (List.mem_range.mpr hi)
theorem c_fbI {f : Nat → Int32} {n : Nat} (h : ∀ i, i < n → fits .byte (.int (f i)) = true) : c_fb f n = true := List.all_eq_true.mpr fun i hi => h i (List.mem_range.mp hi)
section CR
variable {p : Program} {l : Launch} {e : Env} {R : Room} {s : State} {m : MethodId} {args : Array Value} {below : List Frame} {meth : Method} {c : Code} {H : Heap} {locs : List Loc} {cells slots : Nat} {Q : State → Prop}
variable {cc : ByteArray} {pc : Nat} {ls : Array Slot} {rest : List Value} {D : va_G} {A : Nat → Prop} {H0 : Heap} {tc : Nat → ClassId} {ad : Nat → Nat} {T : List c_T} {g : c_G} {E : (Nat → Nat) × (Nat → Nat) × Nat}
theorem c_get (hexec : p.tables.exec = Jvm.exec) (hb : c.code = cc) {own ref C : String} {TT : u_T} {N ci index : Nat} {Ts : List Cond} (hts : ∀ w ∈ Ts, w.before args s = true) (hin : ∀ w ∈ u_ws C TT N, w ∈ Ts) (hown : s.vm.findClass own = some m.cls) (hK : va_K D vwCl (c_tys tc) s) (hP : va_P D vwCl (c_ws tc ad T g) H) (h : Nat) {fl : List Nat} (ht : T[h]? = some (0, ci, fl)) (hc : vwCl[ci]? = some (C, TT, N)) (k : Nat) (hk : k < N) (hlink : (Cond.fieldLink own index ref (TT k).2.1 (TT k).2.2.1).before args s = true) (hsame : ∀ x, s.fieldFound? (TT k).1 (TT k).2.1 (TT k).2.2.1 = some x → s.fieldFound? ref (TT k).2.1 (TT k).2.2.1 = some x)
    {f : Nat} (hf : fl[k]? = some f) {v : Value} (hv : c_fv ad (g.1 h) (g.2.2 h) k f = v) (hdg : decode cc pc = .ok (.getfield index, 3))
    (kk : W p l e R s m args below meth c H locs cells slots Q (F0 m (pc + 3) ls (v :: rest))) : W p l e R s m args below meth c H locs cells slots Q (F0 m pc ls (.ref (ad h) :: rest)) := by
  have e1 := c_fs_at (ad := ad) (I := g.1 h) (r := g.2.2 h) fl 0 k hf
  rw [Nat.zero_add, hv] at e1
  exact va_get (D := D) (ci := ci) (v := v) hexec hb hts hin hown hK hP h (c_ws_at h ht) hc k hk hlink hsame e1 hdg kk
theorem c_put (hexec : p.tables.exec = Jvm.exec) (hb : c.code = cc) {own ref C : String} {TT : u_T} {N ci index : Nat} {Ts : List Cond} (hts : ∀ w ∈ Ts, w.before args s = true) (hin : ∀ w ∈ u_ws C TT N, w ∈ Ts) (ty0 : Nat → FieldType) (hty : ∀ k, k < N → parseFieldDescriptor (TT k).2.2.1 = some (ty0 k)) (hnm : ∀ a, a < N → ∀ b, b < N → a ≠ b → (TT a).2.1 ≠ (TT b).2.1) (hown : s.vm.findClass own = some m.cls) (hK : va_K D vwCl (c_tys tc) s) (hP : va_P D vwCl (c_ws tc ad T g) H) (hD : c_D A ad T) (hS0 : va_S A H0 H locs) (h : Nat) {fl : List Nat} (ht : T[h]? = some (0, ci, fl)) (hc : vwCl[ci]? = some (C, TT, N)) (k : Nat) (hk : k < N) (hlink : (Cond.fieldLink own index ref (TT k).2.1 (TT k).2.2.1).before args s = true) (hsame : ∀ x, s.fieldFound? (TT k).1 (TT k).2.1 (TT k).2.2.1 = some x → s.fieldFound? ref (TT k).2.1 (TT k).2.2.1 = some x) (hfin : (TT k).2.2.2 = false)
    {ty : FieldType} {x : Int32} (hd : parseFieldDescriptor (TT k).2.2.1 = some ty) (hn : narrow ty (.int x) = .int x) (hfit : fits ty (.int x) = true) (hf : fl[k]? = some 0) {g1 : c_G} (eg : g1 = c_si g h k x) (hdg : decode cc pc = .ok (.putfield index, 3))
    (kk : ∀ (H1 : Heap) (locs1 : List Loc), va_P D vwCl (c_ws tc ad T g1) H1 → va_S A H0 H1 locs1 → W p l e R s m args below meth c H1 locs1 cells slots Q (F0 m (pc + 3) ls rest)) : W p l e R s m args below meth c H locs cells slots Q (F0 m pc ls (.int x :: .ref (ad h) :: rest)) := by
  subst eg
  have hl : k < (c_fs ad (g.1 h) (g.2.2 h) 0 fl).length := by rw [c_fs_len]; exact (List.getElem?_eq_some_iff.mp hf).1
  have e1 := c_fs_set (ad := ad) (I := g.1 h) (r := g.2.2 h) (v := x) fl 0 k hf
  rw [Nat.zero_add] at e1
  have e2 : c_cell tc ad (c_si g h k x) h (0, ci, fl) = .inr (ci, (c_fs ad (g.1 h) (g.2.2 h) 0 fl).set k (.int x)) := by
    rw [e1]
    show (Sum.inr (ci, c_fs ad ((c_si g h k x).1 h) ((c_si g h k x).2.2 h) 0 fl) : va_E) = _
    rw [show (c_si g h k x).1 h = upd (g.1 h) k x from c_sr_at]
    rfl
  refine va_put (D := D) (ci := ci) (v := .int x) (ty := ty) hexec hb hts hin ty0 hty hnm hown hK hP (hD.D tc g) hS0 h (c_ws_at h ht) hc k hk hlink hsame hfin hd hn hfit hl hdg (fun H1 locs1 q1 _ q3 => kk H1 locs1 ?_ q3)
  rw [c_ws_set (tc := tc) (ad := ad) (g := g) (g' := c_si g h k x) h ht e2 (fun a ha => c_sr_ne ha) (fun a _ => rfl) (fun a _ => rfl)] at q1
  exact q1
theorem c_iald (hexec : p.tables.exec = Jvm.exec) (hb : c.code = cc) (hK : va_K D vwCl (c_tys tc) s) (hP : va_P D vwCl (c_ws tc ad T g) H) (h : Nat) {n : Nat} (ht : T[h]? = some (1, n, [])) {i : Int32} {j : Nat} (hj : i.toNatClampNeg = j) (hin : vp_in i n) (hdg : decode cc pc = .ok (.iaload, 1))
    (kk : W p l e R s m args below meth c H locs cells slots Q (F0 m (pc + 1) ls (.int (g.1 h j) :: rest))) : W p l e R s m args below meth c H locs cells slots Q (F0 m pc ls (.int i :: .ref (ad h) :: rest)) := by
  subst hj
  exact va_iald hexec hb hK hP h 0 (c_ws_at h ht) rfl hin hdg kk
theorem c_bald (hexec : p.tables.exec = Jvm.exec) (hb : c.code = cc) (hK : va_K D vwCl (c_tys tc) s) (hP : va_P D vwCl (c_ws tc ad T g) H) (h : Nat) {n : Nat} (ht : T[h]? = some (3, n, [])) {i : Int32} {j : Nat} (hj : i.toNatClampNeg = j) (hin : vp_in i n) (hdg : decode cc pc = .ok (.baload, 1))
    (kk : W p l e R s m args below meth c H locs cells slots Q (F0 m (pc + 1) ls (.int (g.1 h j) :: rest))) : W p l e R s m args below meth c H locs cells slots Q (F0 m pc ls (.int i :: .ref (ad h) :: rest)) := by
  subst hj
  exact va_bald hexec hb hK hP h 2 (c_ws_at h ht) rfl hin hdg kk
theorem c_cald (hexec : p.tables.exec = Jvm.exec) (hb : c.code = cc) (hK : va_K D vwCl (c_tys tc) s) (hP : va_P D vwCl (c_ws tc ad T g) H) (h : Nat) {n : Nat} (ht : T[h]? = some (4, n, [])) {i : Int32} {j : Nat} (hj : i.toNatClampNeg = j) (hin : vp_in i n) (hdg : decode cc pc = .ok (.caload, 1))
    (kk : W p l e R s m args below meth c H locs cells slots Q (F0 m (pc + 1) ls (.int (g.1 h j) :: rest))) : W p l e R s m args below meth c H locs cells slots Q (F0 m pc ls (.int i :: .ref (ad h) :: rest)) := by
  subst hj
  exact va_cald hexec hb hK hP h 3 (c_ws_at h ht) rfl hin hdg kk
theorem c_lald (hexec : p.tables.exec = Jvm.exec) (hb : c.code = cc) (hK : va_K D vwCl (c_tys tc) s) (hP : va_P D vwCl (c_ws tc ad T g) H) (h : Nat) {n : Nat} (ht : T[h]? = some (2, n, [])) {i : Int32} {j : Nat} (hj : i.toNatClampNeg = j) (hin : vp_in i n) (hdg : decode cc pc = .ok (.laload, 1))
    (kk : W p l e R s m args below meth c H locs cells slots Q (F0 m (pc + 1) ls (.long (g.2.1 h j) :: rest))) : W p l e R s m args below meth c H locs cells slots Q (F0 m pc ls (.int i :: .ref (ad h) :: rest)) := by
  subst hj
  exact va_lald hexec hb hK hP h 1 (c_ws_at h ht) rfl hin hdg kk
theorem c_iast (hexec : p.tables.exec = Jvm.exec) (hb : c.code = cc) (hK : va_K D vwCl (c_tys tc) s) (hP : va_P D vwCl (c_ws tc ad T g) H) (hD : c_D A ad T) (hS : va_S A H0 H locs) (h : Nat) {n : Nat} (ht : T[h]? = some (1, n, [])) {i x : Int32} {j : Nat} (hj : i.toNatClampNeg = j) (hin : vp_in i n) {g1 : c_G} (eg : g1 = c_si g h j x) (hdg : decode cc pc = .ok (.iastore, 1))
    (kk : ∀ (H1 : Heap) (locs1 : List Loc), va_P D vwCl (c_ws tc ad T g1) H1 → va_S A H0 H1 locs1 → W p l e R s m args below meth c H1 locs1 cells slots Q (F0 m (pc + 1) ls rest)) : W p l e R s m args below meth c H locs cells slots Q (F0 m pc ls (.int x :: .int i :: .ref (ad h) :: rest)) := by
  subst hj
  subst eg
  have e2 : c_cell tc ad (c_si g h i.toNatClampNeg x) h (1, n, []) = .inl (tc 1, n, .inl (upd (g.1 h) i.toNatClampNeg x)) := by
    show (Sum.inl (tc 1, n, .inl ((c_si g h i.toNatClampNeg x).1 h)) : va_E) = _
    rw [show (c_si g h i.toNatClampNeg x).1 h = upd (g.1 h) i.toNatClampNeg x from c_sr_at]
  refine va_iast hexec hb hK hP (hD.D tc g) hS h 0 (c_ws_at h ht) rfl hin hdg (fun H1 locs1 q1 _ q3 => kk H1 locs1 ?_ q3)
  rw [c_ws_set (tc := tc) (ad := ad) (g := g) (g' := c_si g h i.toNatClampNeg x) h ht e2 (fun a ha => c_sr_ne ha) (fun a _ => rfl) (fun a _ => rfl)] at q1
  exact q1
theorem c_bast (hexec : p.tables.exec = Jvm.exec) (hb : c.code = cc) (hK : va_K D vwCl (c_tys tc) s) (hP : va_P D vwCl (c_ws tc ad T g) H) (hD : c_D A ad T) (hS : va_S A H0 H locs) (h : Nat) {n : Nat} (ht : T[h]? = some (3, n, [])) {i x : Int32} {j : Nat} (hj : i.toNatClampNeg = j) (hin : vp_in i n) {g1 : c_G} (eg : g1 = c_si g h j (vp_nar .byte x)) (hdg : decode cc pc = .ok (.bastore, 1))
    (kk : ∀ (H1 : Heap) (locs1 : List Loc), va_P D vwCl (c_ws tc ad T g1) H1 → va_S A H0 H1 locs1 → W p l e R s m args below meth c H1 locs1 cells slots Q (F0 m (pc + 1) ls rest)) : W p l e R s m args below meth c H locs cells slots Q (F0 m pc ls (.int x :: .int i :: .ref (ad h) :: rest)) := by
  subst hj
  subst eg
  have e2 : c_cell tc ad (c_si g h i.toNatClampNeg (vp_nar .byte x)) h (3, n, []) = .inl (tc 3, n, .inl (upd (g.1 h) i.toNatClampNeg (vp_nar .byte x))) := by
    show (Sum.inl (tc 3, n, .inl ((c_si g h i.toNatClampNeg (vp_nar .byte x)).1 h)) : va_E) = _
    rw [show (c_si g h i.toNatClampNeg (vp_nar .byte x)).1 h = upd (g.1 h) i.toNatClampNeg (vp_nar .byte x) from c_sr_at]
  refine va_bast hexec hb hK hP (hD.D tc g) hS h 2 (c_ws_at h ht) rfl hin hdg (fun H1 locs1 q1 _ q3 => kk H1 locs1 ?_ q3)
  rw [c_ws_set (tc := tc) (ad := ad) (g := g) (g' := c_si g h i.toNatClampNeg (vp_nar .byte x)) h ht e2 (fun a ha => c_sr_ne ha) (fun a _ => rfl) (fun a _ => rfl)] at q1
  exact q1
theorem c_last (hexec : p.tables.exec = Jvm.exec) (hb : c.code = cc) (hK : va_K D vwCl (c_tys tc) s) (hP : va_P D vwCl (c_ws tc ad T g) H) (hD : c_D A ad T) (hS : va_S A H0 H locs) (h : Nat) {n : Nat} (ht : T[h]? = some (2, n, [])) {i : Int32} {x : Int64} {j : Nat} (hj : i.toNatClampNeg = j) (hin : vp_in i n) {g1 : c_G} (eg : g1 = c_sl g h j x) (hdg : decode cc pc = .ok (.lastore, 1))
    (kk : ∀ (H1 : Heap) (locs1 : List Loc), va_P D vwCl (c_ws tc ad T g1) H1 → va_S A H0 H1 locs1 → W p l e R s m args below meth c H1 locs1 cells slots Q (F0 m (pc + 1) ls rest)) : W p l e R s m args below meth c H locs cells slots Q (F0 m pc ls (.long x :: .int i :: .ref (ad h) :: rest)) := by
  subst hj
  subst eg
  have e2 : c_cell tc ad (c_sl g h i.toNatClampNeg x) h (2, n, []) = .inl (tc 2, n, .inr (.inl (vp_updL (g.2.1 h) i.toNatClampNeg x))) := by
    show (Sum.inl (tc 2, n, .inr (.inl ((c_sl g h i.toNatClampNeg x).2.1 h))) : va_E) = _
    rw [show (c_sl g h i.toNatClampNeg x).2.1 h = vp_updL (g.2.1 h) i.toNatClampNeg x from c_sq_at]
  refine va_last hexec hb hK hP (hD.D tc g) hS h 1 (c_ws_at h ht) rfl hin hdg (fun H1 locs1 q1 _ q3 => kk H1 locs1 ?_ q3)
  rw [c_ws_set (tc := tc) (ad := ad) (g := g) (g' := c_sl g h i.toNatClampNeg x) h ht e2 (fun a _ => rfl) (fun a ha => c_sq_ne ha) (fun a _ => rfl)] at q1
  exact q1
theorem c_alen (hexec : p.tables.exec = Jvm.exec) (hb : c.code = cc) (hK : va_K D vwCl (c_tys tc) s) (hP : va_P D vwCl (c_ws tc ad T g) H) (h : Nat) {n : Nat} (ht : T[h]? = some (1, n, [])) (hdg : decode cc pc = .ok (.arraylength, 1))
    (kk : W p l e R s m args below meth c H locs cells slots Q (F0 m (pc + 1) ls (.int (nI n) :: rest))) : W p l e R s m args below meth c H locs cells slots Q (F0 m pc ls (.ref (ad h) :: rest)) :=
  va_alen hexec hb hK hP h 0 (c_ws_at h ht) rfl rfl hdg kk
theorem c_alenL (hexec : p.tables.exec = Jvm.exec) (hb : c.code = cc) (hK : va_K D vwCl (c_tys tc) s) (hP : va_P D vwCl (c_ws tc ad T g) H) (h : Nat) {n : Nat} (ht : T[h]? = some (2, n, [])) (hdg : decode cc pc = .ok (.arraylength, 1))
    (kk : W p l e R s m args below meth c H locs cells slots Q (F0 m (pc + 1) ls (.int (nI n) :: rest))) : W p l e R s m args below meth c H locs cells slots Q (F0 m pc ls (.ref (ad h) :: rest)) :=
  va_alen hexec hb hK hP h 1 (c_ws_at h ht) rfl rfl hdg kk
theorem c_copyi (hexec : p.tables.exec = Jvm.exec) (hb : c.code = cc) (hml : c.maxLocals = ls.size) {own : String} {index : Nat} (hown : s.vm.findClass own = some m.cls) (hlink : (Cond.methodLink own index arraycopyName).before args s = true) (hnat : (Cond.native arraycopyName).before args s = true) (hstat : (Cond.static arraycopyName).before args s = true) (hini : (Cond.initialized "java/lang/System").before args s = true)
    (hK : va_K D vwCl (c_tys tc) s) (hP : va_P D vwCl (c_ws tc ad T g) H) (hD : c_D A ad T) (hS : va_S A H0 H locs) (q0 q1 : Nat) {n0 n1 : Nat} (ht0 : T[q0]? = some (1, n0, [])) (ht1 : T[q1]? = some (1, n1, []))
    {sp dp n : Int32} (h1 : ¬ sp < 0) (h2 : ¬ dp < 0) (h3 : ¬ n < 0) (h4 : sp.toNatClampNeg + n.toNatClampNeg ≤ n0) (h5 : dp.toNatClampNeg + n.toNatClampNeg ≤ n1)
    (hframes : 1 ≤ R.frames) (hlocals : (rest.map fun v => v.category).sum + (nativeFrameWords "java/lang/System" "arraycopy" 5 + 11) ≤ R.locals) {g1 : c_G} (eg : g1 = c_sr g q1 (va_cpy (g.1 q0) (g.1 q1) sp.toNatClampNeg dp.toNatClampNeg n.toNatClampNeg)) (hdg : decode cc pc = .ok (.invokestatic index, 3))
    (kk : ∀ (H1 : Heap) (locs1 : List Loc), va_P D vwCl (c_ws tc ad T g1) H1 → va_S A H0 H1 locs1 → W p l e R s m args below meth c H1 locs1 cells slots Q (F0 m (pc + 3) ls rest)) : W p l e R s m args below meth c H locs cells slots Q (F0 m pc ls (.int n :: .int dp :: .ref (ad q1) :: .int sp :: .ref (ad q0) :: rest)) := by
  subst eg
  refine va_copyi hexec hb hml hown hlink hnat hstat hini hK hP (hD.D tc g) hS q0 q1 0 0 (c_ws_at q0 ht0) (c_ws_at q1 ht1) rfl rfl rfl h1 h2 h3 h4 h5 (fun _ _ => rfl) hframes hlocals hdg (fun H1 locs1 z1 _ z3 => kk H1 locs1 ?_ z3)
  rw [c_ws_set (tc := tc) (ad := ad) (g := g) (g' := c_sr g q1 (va_cpy (g.1 q0) (g.1 q1) sp.toNatClampNeg dp.toNatClampNeg n.toNatClampNeg)) q1 ht1 (by show (Sum.inl (tc 1, n1, .inl ((c_sr g q1 _).1 q1)) : va_E) = _; rw [c_sr_at]) (fun a ha => c_sr_ne ha) (fun a _ => rfl) (fun a _ => rfl)] at z1
  exact z1
theorem c_copyb (hexec : p.tables.exec = Jvm.exec) (hb : c.code = cc) (hml : c.maxLocals = ls.size) {own : String} {index : Nat} (hown : s.vm.findClass own = some m.cls) (hlink : (Cond.methodLink own index arraycopyName).before args s = true) (hnat : (Cond.native arraycopyName).before args s = true) (hstat : (Cond.static arraycopyName).before args s = true) (hini : (Cond.initialized "java/lang/System").before args s = true)
    (hK : va_K D vwCl (c_tys tc) s) (hP : va_P D vwCl (c_ws tc ad T g) H) (hD : c_D A ad T) (hS : va_S A H0 H locs) (q0 q1 : Nat) {n0 n1 : Nat} (ht0 : T[q0]? = some (3, n0, [])) (ht1 : T[q1]? = some (3, n1, []))
    {sp dp n : Int32} (h1 : ¬ sp < 0) (h2 : ¬ dp < 0) (h3 : ¬ n < 0) (h4 : sp.toNatClampNeg + n.toNatClampNeg ≤ n0) (h5 : dp.toNatClampNeg + n.toNatClampNeg ≤ n1) (h6 : c_fb (g.1 q0) n0 = true)
    (hframes : 1 ≤ R.frames) (hlocals : (rest.map fun v => v.category).sum + (nativeFrameWords "java/lang/System" "arraycopy" 5 + 11) ≤ R.locals) {g1 : c_G} (eg : g1 = c_sr g q1 (va_cpy (g.1 q0) (g.1 q1) sp.toNatClampNeg dp.toNatClampNeg n.toNatClampNeg)) (hdg : decode cc pc = .ok (.invokestatic index, 3))
    (kk : ∀ (H1 : Heap) (locs1 : List Loc), va_P D vwCl (c_ws tc ad T g1) H1 → va_S A H0 H1 locs1 → W p l e R s m args below meth c H1 locs1 cells slots Q (F0 m (pc + 3) ls rest)) : W p l e R s m args below meth c H locs cells slots Q (F0 m pc ls (.int n :: .int dp :: .ref (ad q1) :: .int sp :: .ref (ad q0) :: rest)) := by
  subst eg
  refine va_copyi hexec hb hml hown hlink hnat hstat hini hK hP (hD.D tc g) hS q0 q1 2 2 (c_ws_at q0 ht0) (c_ws_at q1 ht1) rfl rfl rfl h1 h2 h3 h4 h5 (fun i hi => c_fbE h6 (by omega)) hframes hlocals hdg (fun H1 locs1 z1 _ z3 => kk H1 locs1 ?_ z3)
  rw [c_ws_set (tc := tc) (ad := ad) (g := g) (g' := c_sr g q1 (va_cpy (g.1 q0) (g.1 q1) sp.toNatClampNeg dp.toNatClampNeg n.toNatClampNeg)) q1 ht1 (by show (Sum.inl (tc 3, n1, .inl ((c_sr g q1 _).1 q1)) : va_E) = _; rw [c_sr_at]) (fun a ha => c_sr_ne ha) (fun a _ => rfl) (fun a _ => rfl)] at z1
  exact z1
theorem c_copyl (hexec : p.tables.exec = Jvm.exec) (hb : c.code = cc) (hml : c.maxLocals = ls.size) {own : String} {index : Nat} (hown : s.vm.findClass own = some m.cls) (hlink : (Cond.methodLink own index arraycopyName).before args s = true) (hnat : (Cond.native arraycopyName).before args s = true) (hstat : (Cond.static arraycopyName).before args s = true) (hini : (Cond.initialized "java/lang/System").before args s = true)
    (hK : va_K D vwCl (c_tys tc) s) (hP : va_P D vwCl (c_ws tc ad T g) H) (hD : c_D A ad T) (hS : va_S A H0 H locs) (q0 q1 : Nat) {n0 n1 : Nat} (ht0 : T[q0]? = some (2, n0, [])) (ht1 : T[q1]? = some (2, n1, []))
    {sp dp n : Int32} (h1 : ¬ sp < 0) (h2 : ¬ dp < 0) (h3 : ¬ n < 0) (h4 : sp.toNatClampNeg + n.toNatClampNeg ≤ n0) (h5 : dp.toNatClampNeg + n.toNatClampNeg ≤ n1)
    (hframes : 1 ≤ R.frames) (hlocals : (rest.map fun v => v.category).sum + (nativeFrameWords "java/lang/System" "arraycopy" 5 + 11) ≤ R.locals) {g1 : c_G} (eg : g1 = c_sq g q1 (va_cpy (g.2.1 q0) (g.2.1 q1) sp.toNatClampNeg dp.toNatClampNeg n.toNatClampNeg)) (hdg : decode cc pc = .ok (.invokestatic index, 3))
    (kk : ∀ (H1 : Heap) (locs1 : List Loc), va_P D vwCl (c_ws tc ad T g1) H1 → va_S A H0 H1 locs1 → W p l e R s m args below meth c H1 locs1 cells slots Q (F0 m (pc + 3) ls rest)) : W p l e R s m args below meth c H locs cells slots Q (F0 m pc ls (.int n :: .int dp :: .ref (ad q1) :: .int sp :: .ref (ad q0) :: rest)) := by
  subst eg
  refine va_copyl hexec hb hml hown hlink hnat hstat hini hK hP (hD.D tc g) hS q0 q1 1 1 (c_ws_at q0 ht0) (c_ws_at q1 ht1) rfl rfl rfl h1 h2 h3 h4 h5 (fun _ _ => rfl) hframes hlocals hdg (fun H1 locs1 z1 _ z3 => kk H1 locs1 ?_ z3)
  rw [c_ws_set (tc := tc) (ad := ad) (g := g) (g' := c_sq g q1 (va_cpy (g.2.1 q0) (g.2.1 q1) sp.toNatClampNeg dp.toNatClampNeg n.toNatClampNeg)) q1 ht1 (by show (Sum.inl (tc 2, n1, .inr (.inl ((c_sq g q1 _).2.1 q1))) : va_E) = _; rw [c_sq_at]) (fun a _ => rfl) (fun a ha => c_sq_ne ha) (fun a _ => rfl)] at z1
  exact z1
theorem c_putR (hexec : p.tables.exec = Jvm.exec) (hb : c.code = cc) {own ref C : String} {TT : u_T} {N ci index : Nat} {Ts : List Cond} (hts : ∀ w ∈ Ts, w.before args s = true) (hin : ∀ w ∈ u_ws C TT N, w ∈ Ts) (ty0 : Nat → FieldType) (hty : ∀ k, k < N → parseFieldDescriptor (TT k).2.2.1 = some (ty0 k)) (hnm : ∀ a, a < N → ∀ b, b < N → a ≠ b → (TT a).2.1 ≠ (TT b).2.1) (hown : s.vm.findClass own = some m.cls) (hK : va_K D vwCl (c_tys tc) s) (hP : va_P D vwCl (c_ws tc ad T g) H) (hD : c_D A ad T) (hS0 : va_S A H0 H locs) (h : Nat) {fl : List Nat} (ht : T[h]? = some (0, ci, fl)) (hc : vwCl[ci]? = some (C, TT, N)) (k : Nat) (hk : k < N) (hlink : (Cond.fieldLink own index ref (TT k).2.1 (TT k).2.2.1).before args s = true) (hsame : ∀ x, s.fieldFound? (TT k).1 (TT k).2.1 (TT k).2.2.1 = some x → s.fieldFound? ref (TT k).2.1 (TT k).2.2.1 = some x) (hfin : (TT k).2.2.2 = false)
    {ty : FieldType} {x : Nat} (hd : parseFieldDescriptor (TT k).2.2.1 = some ty) (hn : narrow ty (.ref (ad x)) = .ref (ad x)) (hfit : fits ty (.ref (ad x)) = true) (hf : fl[k]? = some 1) (hu : ∀ i, fl[i]? = some 1 → i = k) {g1 : c_G} (eg : g1 = c_so g h x) (hdg : decode cc pc = .ok (.putfield index, 3))
    (kk : ∀ (H1 : Heap) (locs1 : List Loc), va_P D vwCl (c_ws tc ad T g1) H1 → va_S A H0 H1 locs1 → W p l e R s m args below meth c H1 locs1 cells slots Q (F0 m (pc + 3) ls rest)) : W p l e R s m args below meth c H locs cells slots Q (F0 m pc ls (.ref (ad x) :: .ref (ad h) :: rest)) := by
  subst eg
  have hl : k < (c_fs ad (g.1 h) (g.2.2 h) 0 fl).length := by rw [c_fs_len]; exact (List.getElem?_eq_some_iff.mp hf).1
  have e1 := c_fs_setR (ad := ad) (I := g.1 h) (r := g.2.2 h) (r1 := x) fl 0 k hf hu
  have e2 : c_cell tc ad (c_so g h x) h (0, ci, fl) = .inr (ci, (c_fs ad (g.1 h) (g.2.2 h) 0 fl).set k (.ref (ad x))) := by
    rw [e1]
    show (Sum.inr (ci, c_fs ad ((c_so g h x).1 h) ((c_so g h x).2.2 h) 0 fl) : va_E) = _
    rw [show (c_so g h x).2.2 h = x from if_pos rfl]
    rfl
  refine va_put (D := D) (ci := ci) (v := .ref (ad x)) (ty := ty) hexec hb hts hin ty0 hty hnm hown hK hP (hD.D tc g) hS0 h (c_ws_at h ht) hc k hk hlink hsame hfin hd hn hfit hl hdg (fun H1 locs1 q1 _ q3 => kk H1 locs1 ?_ q3)
  rw [c_ws_set (tc := tc) (ad := ad) (g := g) (g' := c_so g h x) h ht e2 (fun a _ => rfl) (fun a _ => rfl) (fun a ha => c_so_ne ha)] at q1
  exact q1
/-- a row of references: T's tag 5, 6 (objects) and 7 (rows of longs) -/
theorem c_aald5 (hexec : p.tables.exec = Jvm.exec) (hb : c.code = cc) (hK : va_K D vwCl (c_tys tc) s) (hP : va_P D vwCl (c_ws tc ad T g) H) (h : Nat) {n : Nat} {l5 : List Nat} (ht : T[h]? = some (5, n, l5)) {i : Int32} (hin : vp_in i n) {y : Nat} (hy : l5[i.toNatClampNeg]? = some (y + 3)) (hdg : decode cc pc = .ok (.aaload, 1))
    (kk : W p l e R s m args below meth c H locs cells slots Q (F0 m (pc + 1) ls (.ref (ad y) :: rest))) : W p l e R s m args below meth c H locs cells slots Q (F0 m pc ls (.int i :: .ref (ad h) :: rest)) := by
  refine va_aldq hexec hb hK hP h 4 (c_ws_at h ht) rfl hin hdg ?_
  rw [show c_el ad l5 i.toNatClampNeg = some (ad y) by unfold c_el; rw [hy]]
  exact kk
theorem c_aald6 (hexec : p.tables.exec = Jvm.exec) (hb : c.code = cc) (hK : va_K D vwCl (c_tys tc) s) (hP : va_P D vwCl (c_ws tc ad T g) H) (h : Nat) {n : Nat} {l5 : List Nat} (ht : T[h]? = some (6, n, l5)) {i : Int32} (hin : vp_in i n) {y : Nat} (hy : l5[i.toNatClampNeg]? = some (y + 3)) (hdg : decode cc pc = .ok (.aaload, 1))
    (kk : W p l e R s m args below meth c H locs cells slots Q (F0 m (pc + 1) ls (.ref (ad y) :: rest))) : W p l e R s m args below meth c H locs cells slots Q (F0 m pc ls (.int i :: .ref (ad h) :: rest)) := by
  refine va_aldq hexec hb hK hP h 5 (c_ws_at h ht) rfl hin hdg ?_
  rw [show c_el ad l5 i.toNatClampNeg = some (ad y) by unfold c_el; rw [hy]]
  exact kk
theorem c_aald7 (hexec : p.tables.exec = Jvm.exec) (hb : c.code = cc) (hK : va_K D vwCl (c_tys tc) s) (hP : va_P D vwCl (c_ws tc ad T g) H) (h : Nat) {n : Nat} {l5 : List Nat} (ht : T[h]? = some (7, n, l5)) {i : Int32} (hin : vp_in i n) {y : Nat} (hy : l5[i.toNatClampNeg]? = some (y + 3)) (hdg : decode cc pc = .ok (.aaload, 1))
    (kk : W p l e R s m args below meth c H locs cells slots Q (F0 m (pc + 1) ls (.ref (ad y) :: rest))) : W p l e R s m args below meth c H locs cells slots Q (F0 m pc ls (.int i :: .ref (ad h) :: rest)) := by
  have hlt : i.toNatClampNeg < n := Nat.not_le.mp fun q => hin (Or.inr q)
  have ha : (c_ws tc ad T g)[h]? = some (ad h, .inl (tc 7, n, .inr (.inr (.inr (.inr (c_el ad l5)))))) := c_ws_at h ht
  have ht7 : (c_tys tc)[6]? = some (tc 7, .array .long) := rfl
  have hv : va_rf (c_el ad l5 i.toNatClampNeg) = .ref (ad y) := by rw [show c_el ad l5 i.toNatClampNeg = some (ad y) by unfold c_el; rw [hy]]; rfl
  rw [← hv] at kk
  exact W.aald (v := va_rf (c_el ad l5 i.toNatClampNeg)) (ty := .array .long) hexec hb (hP h _ ha) ((hK.2 6 _ ht7).1 n (fun j => va_rf (c_el ad l5 j))) rfl (fun q => by cases q) (by show ¬ (i < 0 ∨ (arrV _ _ _).slots.size ≤ _); rw [arrV_size]; exact hin) (by show (arrV _ _ _).slots[_]? = _; rw [arrV_read _ _ hlt]) rfl rfl hdg kk
end CR
