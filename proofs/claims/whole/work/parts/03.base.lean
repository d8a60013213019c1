/-! THE PICTURE: a world is a row of cells by handles; T tells the kinds, g the contents, ad the addresses -/
abbrev c_T : Type := Nat × Nat × List Nat
abbrev c_G : Type := (Nat → Nat → Int32) × (Nat → Nat → Int64) × (Nat → Nat)
def c_fv (ad : Nat → Nat) (I : Nat → Int32) (r k : Nat) : Nat → Value
  | 0 => .int (I k)
  | 1 => .ref (ad r)
  | 2 => .null
  | h + 3 => .ref (ad h)
def c_fs (ad : Nat → Nat) (I : Nat → Int32) (r : Nat) : Nat → List Nat → List Value
  | _, [] => []
  | k, f :: l => c_fv ad I r k f :: c_fs ad I r (k + 1) l
def c_el (ad : Nat → Nat) (l : List Nat) : Nat → Option Nat := fun j => match l[j]? with
  | some (h + 3) => some (ad h)
  | _ => none
def c_cell (tc : Nat → ClassId) (ad : Nat → Nat) (g : c_G) (h : Nat) (t : c_T) : va_E := match t.1 with
  | 0 => .inr (t.2.1, c_fs ad (g.1 h) (g.2.2 h) 0 t.2.2)
  | 1 => .inl (tc 1, t.2.1, .inl (g.1 h))
  | 2 => .inl (tc 2, t.2.1, .inr (.inl (g.2.1 h)))
  | 3 => .inl (tc 3, t.2.1, .inl (g.1 h))
  | 4 => .inl (tc 4, t.2.1, .inl (g.1 h))
  | n + 5 => .inl (tc (n + 5), t.2.1, .inr (.inr (.inr (.inr (c_el ad t.2.2)))))
def c_wF (tc : Nat → ClassId) (ad : Nat → Nat) (g : c_G) : Nat → List c_T → va_W
  | _, [] => []
  | k, t :: l => (ad k, c_cell tc ad g k t) :: c_wF tc ad g (k + 1) l
def c_ws (tc : Nat → ClassId) (ad : Nat → Nat) (T : List c_T) (g : c_G) : va_W := c_wF tc ad g 0 T
def c_tys (tc : Nat → ClassId) : List (ClassId × FieldType) := [(tc 1, .int), (tc 2, .long), (tc 3, .byte), (tc 4, .char), (tc 5, .object "NamingElders$Child"), (tc 6, .object "NamingElders$Valley"), (tc 7, .array .long)]
def c_sr (g : c_G) (h : Nat) (f : Nat → Int32) : c_G := (fun a => if a = h then f else g.1 a, g.2)
def c_si (g : c_G) (h k : Nat) (v : Int32) : c_G := c_sr g h (upd (g.1 h) k v)
def c_sq (g : c_G) (h : Nat) (f : Nat → Int64) : c_G := (g.1, fun a => if a = h then f else g.2.1 a, g.2.2)
def c_sl (g : c_G) (h k : Nat) (v : Int64) : c_G := c_sq g h (vp_updL (g.2.1 h) k v)
def c_so (g : c_G) (h r : Nat) : c_G := (g.1, g.2.1, fun a => if a = h then r else g.2.2 a)
theorem c_fs_at {ad : Nat → Nat} {I : Nat → Int32} {r : Nat} : ∀ (l : List Nat) (k j : Nat) {f : Nat}, l[j]? = some f → (c_fs ad I r k l)[j]? = some (c_fv ad I r (k + j) f)
  | [], k, j, f, h => by simp at h
  | x :: l, k, 0, f, h => by
    rw [List.getElem?_cons_zero] at h
    cases h
    rfl
  | x :: l, k, j + 1, f, h => by
    rw [List.getElem?_cons_succ] at h
    show (c_fs ad I r (k + 1) l)[j]? = _
    rw [c_fs_at l (k + 1) j h, Nat.add_right_comm k 1 j]
    rfl
theorem c_fs_len {ad : Nat → Nat} {I : Nat → Int32} {r : Nat} : ∀ (l : List Nat) (k : Nat), (c_fs ad I r k l).length = l.length
  | [], _ => rfl
  | _ :: l, k => congrArg (· + 1) (c_fs_len l (k + 1))
theorem c_fs_set {ad : Nat → Nat} {I : Nat → Int32} {r : Nat} {v : Int32} : ∀ (l : List Nat) (k j : Nat), l[j]? = some 0 → (c_fs ad I r k l).set j (.int v) = c_fs ad (upd I (k + j) v) r k l
  | [], k, j, h => by simp at h
  | x :: l, k, 0, h => by
    rw [List.getElem?_cons_zero] at h
    cases h
    have e : ∀ (l : List Nat) (q : Nat), k < q → c_fs ad (upd I k v) r q l = c_fs ad I r q l := by
      intro l
      induction l with
      | nil => intro q _; rfl
      | cons y l ih =>
        intro q hq
        show c_fv ad (upd I k v) r q y :: c_fs ad (upd I k v) r (q + 1) l = _
        rw [ih (q + 1) (by omega)]
        refine congrArg (· :: _) ?_
        match y with
        | 0 => exact congrArg Value.int (pk_un (by omega))
        | 1 => rfl
        | 2 => rfl
        | _ + 3 => rfl
    show Value.int v :: c_fs ad I r (k + 1) l = Value.int (upd I k v k) :: c_fs ad (upd I k v) r (k + 1) l
    rw [pk_us, e l (k + 1) (by omega)]
  | x :: l, k, j + 1, h => by
    rw [List.getElem?_cons_succ] at h
    show c_fv ad I r k x :: (c_fs ad I r (k + 1) l).set j (.int v) = c_fv ad (upd I (k + (j + 1)) v) r k x :: c_fs ad (upd I (k + (j + 1)) v) r (k + 1) l
    rw [c_fs_set l (k + 1) j h, show k + 1 + j = k + (j + 1) by omega]
    refine congrArg (· :: _) ?_
    match x with
    | 0 => exact congrArg Value.int (pk_un (by omega)).symm
    | 1 => rfl
    | 2 => rfl
    | _ + 3 => rfl
theorem c_wF_at {tc : Nat → ClassId} {ad : Nat → Nat} {g : c_G} : ∀ (T : List c_T) (k j : Nat) {t : c_T}, T[j]? = some t → (c_wF tc ad g k T)[j]? = some (ad (k + j), c_cell tc ad g (k + j) t)
  | [], k, j, t, h => by simp at h
  | x :: l, k, 0, t, h => by
    rw [List.getElem?_cons_zero] at h
    cases h
    rfl
  | x :: l, k, j + 1, t, h => by
    rw [List.getElem?_cons_succ] at h
    show (c_wF tc ad g (k + 1) l)[j]? = _
    rw [c_wF_at l (k + 1) j h, Nat.add_right_comm k 1 j]
    rfl
theorem c_ws_at {tc : Nat → ClassId} {ad : Nat → Nat} {T : List c_T} {g : c_G} (h : Nat) {t : c_T} (ht : T[h]? = some t) : (c_ws tc ad T g)[h]? = some (ad h, c_cell tc ad g h t) := by
  have e := c_wF_at (tc := tc) (ad := ad) (g := g) T 0 h ht
  rw [Nat.zero_add] at e
  exact e
theorem c_wF_len {tc : Nat → ClassId} {ad : Nat → Nat} {g : c_G} : ∀ (T : List c_T) (k : Nat), (c_wF tc ad g k T).length = T.length
  | [], _ => rfl
  | _ :: l, k => congrArg (· + 1) (c_wF_len l (k + 1))
theorem c_cell_eq {tc : Nat → ClassId} {ad : Nat → Nat} {g g' : c_G} {h : Nat} {t : c_T} (h1 : g'.1 h = g.1 h) (h2 : g'.2.1 h = g.2.1 h) (h3 : g'.2.2 h = g.2.2 h) : c_cell tc ad g' h t = c_cell tc ad g h t := by
  unfold c_cell
  rw [h1, h2, h3]
/-- one cell's contents change -/
theorem c_ws_set {tc : Nat → ClassId} {ad : Nat → Nat} {T : List c_T} {g g' : c_G} (h : Nat) {t : c_T} {e : va_E} (ht : T[h]? = some t) (he : c_cell tc ad g' h t = e) (h1 : ∀ a, a ≠ h → g'.1 a = g.1 a) (h2 : ∀ a, a ≠ h → g'.2.1 a = g.2.1 a) (h3 : ∀ a, a ≠ h → g'.2.2 a = g.2.2 a) :
    (c_ws tc ad T g).set h (ad h, e) = c_ws tc ad T g' := by
  subst he
  have hl : h < T.length := (List.getElem?_eq_some_iff.mp ht).1
  apply List.ext_getElem?
  intro j
  by_cases hj : j < T.length
  · obtain ⟨u, hu⟩ : ∃ u, T[j]? = some u := ⟨_, List.getElem?_eq_getElem hj⟩
    rw [c_ws_at j hu]
    by_cases e : j = h
    · subst e
      rw [List.getElem?_set_self (by show _ < (c_wF tc ad g 0 T).length; rw [c_wF_len]; exact hl)]
      cases ht.symm.trans hu
      rfl
    · rw [List.getElem?_set_ne (Ne.symm e), c_ws_at j hu, c_cell_eq (h1 j e) (h2 j e) (h3 j e)]
  · rw [List.getElem?_eq_none (by rw [List.length_set]; show (c_wF tc ad g 0 T).length ≤ _; rw [c_wF_len]; omega), List.getElem?_eq_none (by show (c_wF tc ad g' 0 T).length ≤ _; rw [c_wF_len]; omega)]
theorem c_sr_at {g : c_G} {h : Nat} {f : Nat → Int32} : (c_sr g h f).1 h = f := if_pos rfl
theorem c_sr_ne {g : c_G} {h a : Nat} {f : Nat → Int32} (e : a ≠ h) : (c_sr g h f).1 a = g.1 a := if_neg e
theorem c_sq_at {g : c_G} {h : Nat} {f : Nat → Int64} : (c_sq g h f).2.1 h = f := if_pos rfl
theorem c_sq_ne {g : c_G} {h a : Nat} {f : Nat → Int64} (e : a ≠ h) : (c_sq g h f).2.1 a = g.2.1 a := if_neg e
theorem c_so_ne {g : c_G} {h a r : Nat} (e : a ≠ h) : (c_so g h r).2.2 a = g.2.2 a := if_neg e
/-- the addresses are apart, and of a kind: for any contents -/
def c_D (A : Nat → Prop) (ad : Nat → Nat) (T : List c_T) : Prop := (∀ i j : Nat, i < T.length → j < T.length → ad i = ad j → i = j) ∧ ∀ i : Nat, i < T.length → A (ad i)
theorem c_ws_in {tc : Nat → ClassId} {ad : Nat → Nat} {T : List c_T} {g : c_G} {k : Nat} {q : Nat × va_E} (h : (c_ws tc ad T g)[k]? = some q) : k < T.length ∧ q.1 = ad k := by
  have hl : k < T.length := by
    have h1 := (List.getElem?_eq_some_iff.mp h).1
    unfold c_ws at h1
    rwa [c_wF_len] at h1
  rw [c_ws_at k (List.getElem?_eq_getElem hl)] at h
  cases h
  exact ⟨hl, rfl⟩
theorem c_D.D {A : Nat → Prop} {ad : Nat → Nat} {T : List c_T} (h : c_D A ad T) (tc : Nat → ClassId) (g : c_G) : va_D A (c_ws tc ad T g) := by
  refine ⟨fun i j p q hi hj hpq => ?_, fun k q hk => ?_⟩
  · obtain ⟨h1, e1⟩ := c_ws_in hi
    obtain ⟨h2, e2⟩ := c_ws_in hj
    exact h.1 i j h1 h2 (by rw [← e1, ← e2]; exact hpq)
  · obtain ⟨h1, e1⟩ := c_ws_in hk
    rw [e1]
    exact h.2 k h1
theorem c_D.of {A : Nat → Prop} {ad : Nat → Nat} {T : List c_T} {tc : Nat → ClassId} {g : c_G} (h : va_D A (c_ws tc ad T g)) : c_D A ad T := by
  refine ⟨fun i j hi hj e => ?_, fun i hi => ?_⟩
  · exact h.1 i j _ _ (c_ws_at i (List.getElem?_eq_getElem hi)) (c_ws_at j (List.getElem?_eq_getElem hj)) e
  · exact h.2 i _ (c_ws_at i (List.getElem?_eq_getElem hi))
