/-! PURE: when the class's heap and the reference's stand for the same -/
def p_scC (a j : Nat) : Bool := a == 3 || a == 4 || a == 5 || a == 6 || a == 7 || (decide (101 ≤ a) && decide (a < 124)) || (a == 0 && j == 14) || (decide (55 ≤ a) && decide (a < 78))
def p_scM (a j : Nat) : Bool := a == 1 || a == 2 || a == 7 || a == 8 || a == 12 || a == 13 || a == 14 || (a == 0 && (j == 10 || j == 11 || j == 12 || j == 13 || j == 14 || j == 15 || j == 23))
def p_Age (m : Nat → Int32) : Prop := ∃ su, su < 10000 ∧ m 80 = nI su ∧ ∀ i, i < 6 → ∃ a, a ≤ su ∧ m (24 + 9 * i + 3) = nI a
def p_Rule (n : Nat) (m : Nat → Int32) : Prop := ∃ u, u ≤ n ∧ m 81 = nI u
/-- the steps of the valley at v mean W -/
def p_W (g : c_G) (v : Nat) (W : (Nat → Int32) → Int32) : Prop := ∃ st, st ≤ 100 ∧ g.1 v 6 = nI st ∧ (∀ i, i < st → p_N (g.1 (v + 1) i) 10 ∧ p_N (g.1 (v + 2) i) 3) ∧ ∀ e, s_ev (g.1 (v + 1)) (g.1 (v + 2)) (g.1 (v + 3)) e st 0 0 0 = W e
def p_V (gC gM : c_G) (k : Nat) : Prop := ∃ (n : Nat) (W : (Nat → Int32) → Int32) (L : Int32), n ≤ 100 ∧ gM.1 6 k = nI n ∧ s_text (fun j => gM.1 5 (100 * k + j)) n = .ok (W, L) ∧ gC.1 (27 + 4 * k) 7 = L ∧ p_N L 100 ∧ p_W gC (27 + 4 * k) W
def p_Vs (gC gM : c_G) (n : Nat) : Prop := n ≤ 6 ∧ gC.1 0 4 = nI n ∧ gM.1 0 8 = nI n ∧ (∀ k, k < n → p_V gC gM k) ∧ gC.1 51 6 = 0 ∧ gC.1 51 7 = 0
def p_Tx (gC gM : c_G) : Prop := ∃ t, t ≤ 100 ∧ gC.1 0 2 = nI t ∧ gM.1 0 5 = nI t ∧ ∀ j, j < 100 → gC.1 1 j = gM.1 4 j ∧ p_N (gM.1 4 j) 128
def p_Ac (gC gM : c_G) : Prop := ∃ r, r < 100000 ∧ gC.1 8 2 = nI r ∧ gM.1 0 27 = nI r ∧ ∀ j, j < 20 → gC.1 9 j = gM.1 16 j
def p_Tp (gC gM : c_G) (t : Nat) : Prop := (gC.1 10 t = -5 ∧ gM.1 18 t = -1 ∧ gM.1 19 t = 0) ∨ ∃ so n, so < 5 ∧ n ≤ 60 ∧ gC.1 10 t = nI so ∧ gM.1 18 t = nI so ∧ gC.1 11 t = nI n ∧ gM.1 19 t = nI n ∧ ∀ j, j < 60 → gC.2.1 (13 + t) j = gM.2.1 20 (60 * t + j) ∧ (so = 4 → gC.2.1 (13 + t) j = 0 ∨ gC.2.1 (13 + t) j = 1)
/-- the reference's own tables -/
def p_Ks (gM : c_G) : Prop := (∀ j, j < 6 → gM.1 9 j = ([112, 107, 118, 120, 108, 97] : List Int32).getD j 0) ∧ (∀ j, j < 3 → gM.1 10 j = ([115, 106, 108] : List Int32).getD j 0) ∧ (∀ j, j < 15 → gM.1 11 j = ([115, 117, 105, 116, 0, 106, 97, 114, 0, 0, 108, 101, 97, 114, 110] : List Int32).getD j 0) ∧
  (∀ j, j < 7 → gM.1 15 j = ([-1, 0, 0, 0, 1, 2, 3] : List Int32).getD j 0) ∧ ∀ j, j < 21 → gM.1 16 j = gM.1 16 j
def p_Kb (gM : c_G) : Prop := ∀ j, j < 21 → gM.1 16 j = ([10, 11, 12, 0, 20, 0, 30, 0, 0, 0, 0, 40, 50, 51, 0, 0, 0, 60, 71, 70, 0] : List Int32).getD j 0
def p_Acm (gC gM : c_G) : Prop := ∃ r, r < 100000 ∧ gC.1 8 2 = nI r ∧ gM.1 0 27 = nI r ∧ ∀ j, j < 20 → gC.1 9 j = gM.1 17 j
def p_Im (gC gM : c_G) (n : Nat) : Prop := (gC.1 0 8 = 0 ∧ gM.1 0 3 = 0) ∨ (gC.1 0 8 = 1 ∧ gM.1 0 3 = 1 ∧ ∃ m : Nat → Int32, (∀ k, k < 136 → gM.1 3 k = m k) ∧ p_St gC 78 m ∧ p_Age m ∧ p_Rule n m)
def p_Rest (gC gM : c_G) (n : Nat) : Prop := p_Vs gC gM n ∧ p_Im gC gM n ∧ p_Tx gC gM ∧ p_Acm gC gM ∧ (∀ t, t < 6 → p_Tp gC gM t) ∧ p_Ks gM ∧ p_Kb gM
def p_R (gC gM : c_G) : Prop := ∃ n, p_St gC 55 (gM.1 1) ∧ p_Age (gM.1 1) ∧ p_Rule n (gM.1 1) ∧ p_Rest gC gM n
/-- scratch apart, nothing changed -/
def p_fC (g g' : c_G) : Prop := (∀ a j, p_scC a j = false → g'.1 a j = g.1 a j) ∧ g'.2.1 = g.2.1 ∧ g'.2.2 78 = g.2.2 78
def p_fM (g g' : c_G) : Prop := (∀ a j, p_scM a j = false → g'.1 a j = g.1 a j) ∧ g'.2.1 = g.2.1
theorem p_fC.rf (g : c_G) : p_fC g g := ⟨fun _ _ _ => rfl, rfl, rfl⟩
theorem p_fM.rf (g : c_G) : p_fM g g := ⟨fun _ _ _ => rfl, rfl⟩
theorem p_fC.tr {a b c : c_G} (h : p_fC a b) (h2 : p_fC b c) : p_fC a c := ⟨fun x j q => (h2.1 x j q).trans (h.1 x j q), h2.2.1.trans h.2.1, h2.2.2.trans h.2.2⟩
theorem p_fM.tr {a b c : c_G} (h : p_fM a b) (h2 : p_fM b c) : p_fM a c := ⟨fun x j q => (h2.1 x j q).trans (h.1 x j q), h2.2.trans h.2⟩
theorem p_fC.si {g : c_G} {a j : Nat} {v : Int32} (h : p_scC a j = true) : p_fC g (c_si g a j v) := by
  refine ⟨fun b i q => ?_, rfl, rfl⟩
  rw [p_si, if_neg]
  rintro ⟨rfl, rfl⟩
  rw [h] at q
  cases q
theorem p_fM.si {g : c_G} {a j : Nat} {v : Int32} (h : p_scM a j = true) : p_fM g (c_si g a j v) := by
  refine ⟨fun b i q => ?_, rfl⟩
  rw [p_si, if_neg]
  rintro ⟨rfl, rfl⟩
  rw [h] at q
  cases q
theorem p_fC.row {g g' : c_G} (h : p_fC g g') {a : Nat} (ha : ∀ j, p_scC a j = false) : g'.1 a = g.1 a := funext fun j => h.1 a j (ha j)
theorem p_fM.row {g g' : c_G} (h : p_fM g g') {a : Nat} (ha : ∀ j, p_scM a j = false) : g'.1 a = g.1 a := funext fun j => h.1 a j (ha j)
theorem p_scC_v {a : Nat} (h1 : 8 ≤ a) (h2 : a < 55) (j : Nat) : p_scC a j = false := by
  simp only [p_scC, Bool.or_eq_false_iff, Bool.and_eq_false_iff, beq_eq_false_iff_ne, decide_eq_false_iff_not]
  omega
theorem p_scC_i {a : Nat} (h1 : 78 ≤ a) (h2 : a < 101) (j : Nat) : p_scC a j = false := by
  simp only [p_scC, Bool.or_eq_false_iff, Bool.and_eq_false_iff, beq_eq_false_iff_ne, decide_eq_false_iff_not]
  omega
theorem p_Rest.fr {gC gM gC' gM' : c_G} {n : Nat} (h : p_Rest gC gM n) (hC : p_fC gC gC') (hM : p_fM gM gM') : p_Rest gC' gM' n := by
  obtain ⟨⟨hn, v1, v2, hv, v3, v4⟩, him, ⟨t, t1, t2, t3, t4⟩, ⟨r, r0, r1, r2, r3⟩, htp, ⟨k1, k2, k3, k4, k5⟩, k6⟩ := h
  have m5 : gM'.1 5 = gM.1 5 := hM.row fun j => rfl
  have m6 : gM'.1 6 = gM.1 6 := hM.row fun j => rfl
  have m3 : gM'.1 3 = gM.1 3 := hM.row fun j => rfl
  have m4 : gM'.1 4 = gM.1 4 := hM.row fun j => rfl
  have m9 : gM'.1 9 = gM.1 9 := hM.row fun j => rfl
  have m10 : gM'.1 10 = gM.1 10 := hM.row fun j => rfl
  have m11 : gM'.1 11 = gM.1 11 := hM.row fun j => rfl
  have m15 : gM'.1 15 = gM.1 15 := hM.row fun j => rfl
  have m16 : gM'.1 16 = gM.1 16 := hM.row fun j => rfl
  have m17 : gM'.1 17 = gM.1 17 := hM.row fun j => rfl
  have m18 : gM'.1 18 = gM.1 18 := hM.row fun j => rfl
  have m19 : gM'.1 19 = gM.1 19 := hM.row fun j => rfl
  have c1 : gC'.1 1 = gC.1 1 := hC.row fun j => rfl
  have cr : ∀ a, 8 ≤ a → a < 55 → gC'.1 a = gC.1 a := fun a h1 h2 => hC.row (p_scC_v h1 h2)
  have ci : ∀ a, 78 ≤ a → a < 78 + 23 → gC'.1 a = gC.1 a := fun a h1 h2 => hC.row (p_scC_i h1 (by omega))
  refine ⟨⟨hn, by rw [hC.1 0 4 rfl]; exact v1, by rw [hM.1 0 8 rfl]; exact v2, fun k hk => ?_, by rw [cr 51 (by omega) (by omega)]; exact v3, by rw [cr 51 (by omega) (by omega)]; exact v4⟩, ?_, ⟨t, t1, by rw [hC.1 0 2 rfl]; exact t2, by rw [hM.1 0 5 rfl]; exact t3, by rw [c1, m4]; exact t4⟩, ⟨r, r0, by rw [cr 8 (by omega) (by omega)]; exact r1, by rw [hM.1 0 27 rfl]; exact r2, by rw [cr 9 (by omega) (by omega), m17]; exact r3⟩, fun t ht => ?_, ⟨by rw [m9]; exact k1, by rw [m10]; exact k2, by rw [m11]; exact k3, by rw [m15]; exact k4, fun _ _ => rfl⟩, by unfold p_Kb; rw [m16]; exact k6⟩
  · obtain ⟨q, W, L, a1, a2, a3, a4, a5, st, b1, b2, b3, b4⟩ := hv k hk
    refine ⟨q, W, L, a1, by rw [m6]; exact a2, by rw [m5]; exact a3, by rw [cr _ (by omega) (by omega)]; exact a4, a5, st, b1, ?_, ?_, ?_⟩
    · rw [cr _ (by omega) (by omega)]; exact b2
    · rw [cr _ (by omega) (by omega), cr (27 + 4 * k + 2) (by omega) (by omega)]; exact b3
    · rw [cr _ (by omega) (by omega), cr (27 + 4 * k + 2) (by omega) (by omega), cr (27 + 4 * k + 3) (by omega) (by omega)]; exact b4
  · rcases him with ⟨i1, i2⟩ | ⟨i1, i2, m, i6, i3, i4, i5⟩
    · exact Or.inl ⟨by rw [hC.1 0 8 rfl]; exact i1, by rw [hM.1 0 3 rfl]; exact i2⟩
    · refine Or.inr ⟨by rw [hC.1 0 8 rfl]; exact i1, by rw [hM.1 0 3 rfl]; exact i2, m, by rw [m3]; exact i6, ?_, i4, i5⟩
      exact i3.eq ci hC.2.2
  · have h := htp t ht
    unfold p_Tp at h ⊢
    rw [cr 10 (by omega) (by omega), cr 11 (by omega) (by omega), m18, m19, hC.2.1, hM.2]
    exact h
