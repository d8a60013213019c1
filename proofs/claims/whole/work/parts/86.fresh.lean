/-! PURE: new worlds stand for the same -/
def n_K136 (g : c_G) : Prop := ∀ k, 136 ≤ k → g.1 1 k = 0
theorem n_K136.si {g : c_G} {h j : Nat} {v : Int32} (q : n_K136 g) (hj : h ≠ 1 ∨ j < 136) : n_K136 (c_si g h j v) := by
  intro k hk
  by_cases e : h = 1
  · subst e
    show (c_sr g 1 _).1 1 k = 0
    rw [c_sr_at, pk_un (by omega)]
    exact q k hk
  · show (c_sr g h _).1 1 k = 0
    rw [c_sr_ne (Ne.symm e)]
    exact q k hk
theorem nK_0 : n_K136 nG_0 := fun _ _ => rfl
theorem nK_1 : n_K136 nG_1 := nK_0.si (by decide)
theorem nK_2 : n_K136 nG_2 := nK_1.si (by decide)
theorem nK_3 : n_K136 nG_3 := nK_2.si (by decide)
theorem nK_4 : n_K136 nG_4 := nK_3.si (by decide)
theorem nK_5 : n_K136 nG_5 := nK_4.si (by decide)
theorem nK_6 : n_K136 nG_6 := nK_5.si (by decide)
theorem nK_7 : n_K136 nG_7 := nK_6.si (by decide)
theorem nK_8 : n_K136 nG_8 := nK_7.si (by decide)
theorem nK_9 : n_K136 nG_9 := nK_8.si (by decide)
theorem nK_10 : n_K136 nG_10 := nK_9.si (by decide)
theorem nK_11 : n_K136 nG_11 := nK_10.si (by decide)
theorem nK_12 : n_K136 nG_12 := nK_11.si (by decide)
theorem nK_13 : n_K136 nG_13 := nK_12.si (by decide)
theorem nK_14 : n_K136 nG_14 := nK_13.si (by decide)
theorem nK_15 : n_K136 nG_15 := nK_14.si (by decide)
theorem nK_16 : n_K136 nG_16 := nK_15.si (by decide)
theorem nK_17 : n_K136 nG_17 := nK_16.si (by decide)
theorem nK_18 : n_K136 nG_18 := nK_17.si (by decide)
theorem nK_19 : n_K136 nG_19 := nK_18.si (by decide)
theorem nK_20 : n_K136 nG_20 := nK_19.si (by decide)
theorem nK_21 : n_K136 nG_21 := nK_20.si (by decide)
theorem nK_22 : n_K136 nG_22 := nK_21.si (by decide)
theorem nK_23 : n_K136 nG_23 := nK_22.si (by decide)
theorem nK_24 : n_K136 nG_24 := nK_23.si (by decide)
theorem nK_25 : n_K136 nG_25 := nK_24.si (by decide)
theorem nK_26 : n_K136 nG_26 := nK_25.si (by decide)
theorem nK_27 : n_K136 nG_27 := nK_26.si (by decide)
theorem nK_28 : n_K136 nG_28 := nK_27.si (by decide)
theorem nK_29 : n_K136 nG_29 := nK_28.si (by decide)
theorem nK_30 : n_K136 nG_30 := nK_29.si (by decide)
theorem nK_31 : n_K136 nG_31 := nK_30.si (by decide)
theorem nK_32 : n_K136 nG_32 := nK_31.si (by decide)
theorem nK_33 : n_K136 nG_33 := nK_32.si (by decide)
theorem nK_34 : n_K136 nG_34 := nK_33.si (by decide)
theorem nK_35 : n_K136 nG_35 := nK_34.si (by decide)
theorem nK_36 : n_K136 nG_36 := nK_35.si (by decide)
theorem nK_37 : n_K136 nG_37 := nK_36.si (by decide)
theorem nK_38 : n_K136 nG_38 := nK_37.si (by decide)
theorem nK_39 : n_K136 nG_39 := nK_38.si (by decide)
theorem nK_40 : n_K136 nG_40 := nK_39.si (by decide)
theorem nK_41 : n_K136 nG_41 := nK_40.si (by decide)
theorem nK_42 : n_K136 nG_42 := nK_41.si (by decide)
theorem nK_43 : n_K136 nG_43 := nK_42.si (by decide)
theorem nK_44 : n_K136 nG_44 := nK_43.si (by decide)
theorem nK_45 : n_K136 nG_45 := nK_44.si (by decide)
theorem nK_46 : n_K136 nG_46 := nK_45.si (by decide)
theorem nK_47 : n_K136 nG_47 := nK_46.si (by decide)
theorem nK_48 : n_K136 nG_48 := nK_47.si (by decide)
theorem nK_49 : n_K136 nG_49 := nK_48.si (by decide)
theorem nK_50 : n_K136 nG_50 := nK_49.si (by decide)
theorem nK_51 : n_K136 nG_51 := nK_50.si (by decide)
theorem nK_52 : n_K136 nG_52 := nK_51.si (by decide)
theorem nK_53 : n_K136 nG_53 := nK_52.si (by decide)
theorem nK_54 : n_K136 nG_54 := nK_53.si (by decide)
theorem nK_55 : n_K136 nG_55 := nK_54.si (by decide)
theorem nK_56 : n_K136 nG_56 := nK_55.si (by decide)
theorem nK_57 : n_K136 nG_57 := nK_56.si (by decide)
theorem nK_58 : n_K136 nG_58 := nK_57.si (by decide)
theorem nK_59 : n_K136 nG_59 := nK_58.si (by decide)
theorem nK_60 : n_K136 nG_60 := nK_59.si (by decide)
theorem nK_61 : n_K136 nG_61 := nK_60.si (by decide)
theorem nK_62 : n_K136 nG_62 := nK_61.si (by decide)
theorem nK_63 : n_K136 nG_63 := nK_62.si (by decide)
theorem nK_64 : n_K136 nG_64 := nK_63.si (by decide)
theorem nK_65 : n_K136 nG_65 := nK_64.si (by decide)
theorem nK_66 : n_K136 nG_66 := nK_65.si (by decide)
theorem nK_67 : n_K136 nG_67 := nK_66.si (by decide)
theorem nK_68 : n_K136 nG_68 := nK_67.si (by decide)
theorem nK_69 : n_K136 nG_69 := nK_68.si (by decide)
theorem nK_70 : n_K136 nG_70 := nK_69.si (by decide)
theorem nK_71 : n_K136 nG_71 := nK_70.si (by decide)
theorem nK_72 : n_K136 nG_72 := nK_71.si (by decide)
theorem nK_73 : n_K136 nG_73 := nK_72.si (by decide)
theorem nK_74 : n_K136 nG_74 := nK_73.si (by decide)
theorem nK_75 : n_K136 nG_75 := nK_74.si (by decide)
theorem nK_76 : n_K136 nG_76 := nK_75.si (by decide)
def n_m0 (k : Nat) : Int32 := if k < 24 then (if k % 4 = 0 then 5 else if k % 4 = 3 then 0 else -1) else 0
def n_h0 (x : Nat) : Int32 := if x = 56 then 5 else if x = 57 ∨ x = 58 ∨ x = 10 then -5 else 0
theorem n_mM : ∀ k, k < 136 → nG_76.1 1 k = n_m0 k := by decide +kernel
theorem n_mC : ∀ k, k < 136 → k ≠ 81 → p_tr k (n_h0 (55 + p_of k)) = n_m0 k := by decide +kernel
theorem n_xC : ∀ k, k < 136 → ((55 + p_of k = 56 ∨ 55 + p_of k = 57 ∨ 55 + p_of k = 58) → p_xi k < 6) ∧ 55 + p_of k ≠ 10 ∧ 55 + p_of k < 79 := by decide +kernel
theorem n_rC : ∀ x, ¬ n_h0 x = -1 := by
  intro x
  unfold n_h0
  by_cases h1 : x = 56
  · rw [if_pos h1]; decide
  · rw [if_neg h1]
    by_cases h2 : x = 57 ∨ x = 58 ∨ x = 10
    · rw [if_pos h2]; decide
    · rw [if_neg h2]; decide
theorem n_ok : ∀ k, p_ok k (n_m0 k) := by
  intro k
  have z : ∀ n, 0 < n → p_N 0 n := fun n h => ⟨0, h, rfl⟩
  have o : ∀ n, 0 < n → p_O 0 n := fun n h => Or.inr ⟨0, h, rfl⟩
  by_cases h : k < 24
  · unfold p_ok n_m0
    rw [if_pos h, if_pos h]
    by_cases h0 : k % 4 = 0
    · rw [if_pos h0, if_pos h0]
      exact ⟨5, by decide, rfl⟩
    · rw [if_neg h0, if_neg h0]
      by_cases h3 : k % 4 = 3
      · rw [if_pos h3, if_neg (show ¬ k % 4 = 1 by omega), if_neg (show ¬ k % 4 = 2 by omega)]
        exact z 2 (by decide)
      · rw [if_neg h3]
        by_cases h1 : k % 4 = 1
        · rw [if_pos h1]; exact Or.inl rfl
        · rw [if_neg h1, if_pos (show k % 4 = 2 by omega)]; exact Or.inl rfl
  · have e : n_m0 k = 0 := by unfold n_m0; rw [if_neg h]
    rw [e]
    unfold p_ok
    rw [if_neg h]
    repeat' split
    all_goals first | exact trivial | exact z _ (by decide) | exact o _ (by decide)
/-! the class's world as it was made (TK), under the handles of TC -/
def n_rn (h : Nat) : Nat := if h < 27 then h else if h < 55 then 27 + 5 * ((h - 27) / 4) + (if (h - 27) % 4 = 0 then 0 else (h - 27) % 4 + 1) else if h < 124 then h + 7 else if h < 131 then 27 + 5 * (h - 124) + 1 else h
theorem n_rn_lt {h : Nat} (hh : h < 131) : n_rn h < 131 := by
  unfold n_rn
  repeat' split
  all_goals omega
theorem n_rn_inj {i j : Nat} (h : n_rn i = n_rn j) : i = j := by
  unfold n_rn at h
  repeat' split at h
  all_goals omega
theorem n_rn_ne {x y z : Nat} (h : x ≠ y) (e : n_rn y = z) : n_rn x ≠ z := fun q => h (n_rn_inj (q.trans e.symm))
def n_aC (h0 : Nat) : Nat → Nat := fun k => h0 + n_rn k
theorem n_aC0 {h0 : Nat} : n_aC h0 0 = n_ad h0 0 := by
  show h0 + n_rn 0 = h0 + 0
  rw [show n_rn 0 = 0 from by decide]
def n_rc : Nat → Nat
  | 0 => 0
  | 1 => 1
  | 2 => 2
  | h + 3 => n_rn h + 3
def n_rT (t : c_T) : c_T := (t.1, t.2.1, t.2.2.map n_rc)
theorem n_TK : ∀ k, k < 131 → TK[n_rn k]? = (TC[k]?).map n_rT := by decide +kernel
def n_rg (g : c_G) : c_G := (fun h => g.1 (n_rn h), fun h => g.2.1 (n_rn h), fun _ => 51)
theorem n_rfs {ad ad2 : Nat → Nat} {I : Nat → Int32} {r r2 : Nat} (hr : ad r = ad2 r2) (ha : ∀ h, ad (n_rn h) = ad2 h) : ∀ (l : List Nat) (k : Nat), c_fs ad I r k (l.map n_rc) = c_fs ad2 I r2 k l
  | [], _ => rfl
  | x :: l, k => by
    show c_fv ad I r k (n_rc x) :: c_fs ad I r (k + 1) (l.map n_rc) = c_fv ad2 I r2 k x :: c_fs ad2 I r2 (k + 1) l
    rw [n_rfs hr ha l (k + 1)]
    refine congrArg (· :: _) ?_
    match x with
    | 0 => rfl
    | 1 => exact congrArg Value.ref hr
    | 2 => rfl
    | h + 3 => exact congrArg Value.ref (ha h)
theorem n_rel {ad ad2 : Nat → Nat} (ha : ∀ h, ad (n_rn h) = ad2 h) (l : List Nat) : c_el ad (l.map n_rc) = c_el ad2 l := by
  funext j
  unfold c_el
  rw [List.getElem?_map]
  cases l[j]? with
  | none => rfl
  | some x =>
    match x with
    | 0 => rfl
    | 1 => rfl
    | 2 => rfl
    | h + 3 => exact congrArg some (ha h)
theorem n_rcell {tc : Nat → ClassId} {h0 : Nat} {g : c_G} (hr : ∀ s, g.2.2 s = 57) (k : Nat) (t : c_T) : c_cell tc (n_ad h0) g (n_rn k) (n_rT t) = c_cell tc (n_aC h0) (n_rg g) k t := by
  obtain ⟨a, b, l⟩ := t
  match a with
  | 0 =>
    show (Sum.inr (b, c_fs (n_ad h0) (g.1 (n_rn k)) (g.2.2 (n_rn k)) 0 (l.map n_rc)) : va_E) = Sum.inr (b, c_fs (n_aC h0) (g.1 (n_rn k)) 51 0 l)
    rw [n_rfs (ad := n_ad h0) (r := g.2.2 (n_rn k)) (ad2 := n_aC h0) (r2 := 51) (by rw [hr]; show h0 + 57 = h0 + n_rn 51; rw [show n_rn 51 = 57 from by decide]) (fun h => rfl)]
  | 1 => rfl
  | 2 => rfl
  | 3 => rfl
  | 4 => rfl
  | n + 5 =>
    show (Sum.inl (tc (n + 5), b, .inr (.inr (.inr (.inr (c_el (n_ad h0) (l.map n_rc)))))) : va_E) = Sum.inl (tc (n + 5), b, .inr (.inr (.inr (.inr (c_el (n_aC h0) l)))))
    rw [n_rel (ad := n_ad h0) (ad2 := n_aC h0) (fun h => rfl)]
theorem n_conv {D : va_G} {tc : Nat → ClassId} {h0 : Nat} {g : c_G} {H : Heap} (hr : ∀ s, g.2.2 s = 57) (hP : va_P D vwCl (c_ws tc (n_ad h0) TK g) H) : va_P D vwCl (c_ws tc (n_aC h0) TC (n_rg g)) H := by
  intro k x hx
  obtain ⟨hk, -⟩ := c_ws_in hx
  have hl : TC.length = 131 := by decide +kernel
  obtain ⟨t, ht⟩ : ∃ t, TC[k]? = some t := ⟨_, List.getElem?_eq_getElem hk⟩
  rw [c_ws_at k ht] at hx
  cases hx
  have h2 : TK[n_rn k]? = some (n_rT t) := by rw [n_TK k (by omega), ht]; rfl
  have e := hP (n_rn k) _ (c_ws_at (n_rn k) h2)
  rw [n_rcell hr] at e
  exact e
theorem p_R0 {g9 : c_G} (hh : g9.2.2 55 = 51) (a : ∀ x, x ≠ 10 → x ≠ 56 → x ≠ 57 → x ≠ 58 → x ≠ 79 → x ≠ 80 → x ≠ 81 → x ≠ 102 → x ≠ 103 → x ≠ 104 → g9.1 x = nG_0.1 x) (b : ∀ j, j < 6 → g9.1 10 j = -5 ∧ g9.1 56 j = 5 ∧ g9.1 57 j = -5 ∧ g9.1 58 j = -5) : p_R g9 nG_76 := by
  have c0 : ∀ x j, x < 56 → x ≠ 10 → g9.1 x j = 0 := fun x j h1 h2 => by
    rw [a x h2 (by omega) (by omega) (by omega) (by omega) (by omega) (by omega) (by omega) (by omega) (by omega)]
    rfl
  have cs : ∀ k, k < 136 → g9.1 (55 + p_of k) (p_xi k) = n_h0 (55 + p_of k) := by
    intro k hk
    obtain ⟨h1, h2, h3⟩ := n_xC k hk
    generalize hx : 55 + p_of k = x at h1 h2 h3
    generalize hj : p_xi k = j at h1
    by_cases e6 : x = 56
    · rw [e6, (b j (h1 (Or.inl e6))).2.1]; rfl
    · by_cases e7 : x = 57
      · rw [e7, (b j (h1 (Or.inr (Or.inl e7)))).2.2.1]; rfl
      · by_cases e8 : x = 58
        · rw [e8, (b j (h1 (Or.inr (Or.inr e8)))).2.2.2]; rfl
        · rw [a x h2 e6 e7 e8 (by omega) (by omega) (by omega) (by omega) (by omega) (by omega)]
          unfold n_h0
          rw [if_neg e6, if_neg (show ¬ (x = 57 ∨ x = 58 ∨ x = 10) by omega)]
          rfl
  have mm : ∀ k, k < 136 → nG_76.1 1 k = n_m0 k := n_mM
  have m0 : ∀ k, 24 ≤ k → k < 136 → nG_76.1 1 k = 0 := fun k h1 h2 => by
    rw [mm k h2]
    unfold n_m0
    rw [if_neg (by omega)]
  refine ⟨0, ⟨fun k => ?_, fun k hk _ => ?_, ⟨fun k hk => ?_, fun r hr => ?_⟩, ?_⟩, ⟨0, by decide, m0 80 (by decide) (by decide), fun i hi => ⟨0, Nat.le_refl _, m0 _ (by omega) (by omega)⟩⟩, ⟨0, Nat.le_refl _, m0 81 (by decide) (by decide)⟩, ?_⟩
  · unfold p_al
    by_cases e : k = 81
    · rw [if_pos e, hh, e, m0 81 (by decide) (by decide)]
      rfl
    · rw [if_neg e]
      by_cases h : k < 136
      · rw [if_pos h, cs k h, n_mC k h e, mm k h]
      · rw [if_neg h]
        exact nK_76 k (by omega)
  · rw [cs k hk]
    exact n_rC _
  · rw [mm k hk]
    exact n_ok k
  · rw [m0 (99 + 2 * r) (by omega) (by omega)]
    refine ⟨fun e => absurd e (by decide), fun e => ?_⟩
    rcases e with e | e <;> exact absurd e (by decide)
  · rw [hh]
    rfl
  · refine ⟨⟨by decide, c0 0 4 (by decide) (by decide), rfl, fun k hk => absurd hk (Nat.not_lt_zero k), c0 51 6 (by decide) (by decide), c0 51 7 (by decide) (by decide)⟩, Or.inl ⟨c0 0 8 (by decide) (by decide), rfl⟩, ⟨0, by decide, c0 0 2 (by decide) (by decide), rfl, fun j hj => ⟨?_, ?_⟩⟩, ⟨0, by decide, c0 8 2 (by decide) (by decide), rfl, fun j hj => ?_⟩, fun t ht => Or.inl ⟨(b t ht).1, ?_, ?_⟩, ⟨?_, ?_, ?_, ?_, fun _ _ => rfl⟩, ?_⟩
    · rw [c0 1 j (by decide) (by decide)]
      rfl
    · exact ⟨0, by decide, rfl⟩
    · rw [c0 9 j (by decide) (by decide)]
      rfl
    · exact (by decide +kernel : ∀ t, t < 6 → nG_76.1 18 t = -1) t ht
    · rfl
    · decide +kernel
    · decide +kernel
    · decide +kernel
    · decide +kernel
    · unfold p_Kb
      decide +kernel
theorem p_R1 {g9 : c_G} (a : ∀ x, x ≠ 10 → x ≠ 63 → x ≠ 64 → x ≠ 65 → x ≠ 86 → x ≠ 87 → x ≠ 88 → x ≠ 109 → x ≠ 110 → x ≠ 111 → g9.1 x = nG_0.1 x) (b : ∀ j, j < 6 → g9.1 10 j = -5 ∧ g9.1 63 j = 5 ∧ g9.1 64 j = -5 ∧ g9.1 65 j = -5) : p_R (n_rg g9) nG_76 := by
  refine p_R0 rfl (fun x h0 h1 h2 h3 h4 h5 h6 h7 h8 h9 => ?_) (fun j hj => ?_)
  · show g9.1 (n_rn x) = _
    rw [a (n_rn x) (n_rn_ne h0 (by decide)) (n_rn_ne h1 (by decide)) (n_rn_ne h2 (by decide)) (n_rn_ne h3 (by decide)) (n_rn_ne h4 (by decide)) (n_rn_ne h5 (by decide)) (n_rn_ne h6 (by decide)) (n_rn_ne h7 (by decide)) (n_rn_ne h8 (by decide)) (n_rn_ne h9 (by decide))]
    rfl
  · show g9.1 (n_rn 10) j = -5 ∧ g9.1 (n_rn 56) j = 5 ∧ g9.1 (n_rn 57) j = -5 ∧ g9.1 (n_rn 58) j = -5
    rw [show n_rn 10 = 10 from by decide, show n_rn 56 = 63 from by decide, show n_rn 57 = 64 from by decide, show n_rn 58 = 65 from by decide]
    exact b j hj
