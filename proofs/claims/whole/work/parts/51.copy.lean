/-! PURE: a state is copied -/
def q_Cp (s a : Nat) (D : Nat → Nat → Bool) (g g' : c_G) : Prop := (∀ x j, g'.1 x j = if s ≤ x ∧ x < s + 23 ∧ D (x - s) j = true then g.1 (a + (x - s)) j else g.1 x j) ∧ g'.2 = g.2
theorem q_Cp.rf (s a : Nat) (g : c_G) : q_Cp s a (fun _ _ => false) g g := ⟨fun x j => by rw [if_neg (by simp)], rfl⟩
theorem q_Cp.sr {s a : Nat} {D : Nat → Nat → Bool} {g g1 : c_G} (h : q_Cp s a D g g1) (hd : a + 23 ≤ s ∨ s + 23 ≤ a) {i : Nat} (hi : i < 23) (n : Nat) : q_Cp s a (fun x j => D x j || (x == i && decide (j < n))) g (c_sr g1 (s + i) (va_cpy (g1.1 (a + i)) (g1.1 (s + i)) 0 0 n)) := by
  refine ⟨fun x j => ?_, h.2⟩
  rw [p_sr]
  by_cases e : x = s + i
  · subst e
    rw [if_pos rfl, show s + i - s = i by omega]
    by_cases q : j < n
    · rw [pk_cpy_in (by omega) (by omega), if_pos ⟨by omega, by omega, by simp [q]⟩, h.1, if_neg (by omega), show 0 + (j - 0) = j by omega]
    · rw [pk_cpy_out (by omega), h.1, show s + i - s = i by omega]
      by_cases w : D i j = true
      · rw [if_pos ⟨by omega, by omega, w⟩, if_pos ⟨by omega, by omega, by simp [w]⟩]
      · rw [if_neg (fun z => w z.2.2), if_neg (fun z => w (by simpa [q] using z.2.2))]
  · rw [if_neg e, h.1]
    by_cases z : s ≤ x ∧ x < s + 23
    · have ne : ¬ (x - s) = i := by omega
      by_cases w : D (x - s) j = true
      · rw [if_pos ⟨z.1, z.2, w⟩, if_pos ⟨z.1, z.2, by simp [w]⟩]
      · rw [if_neg (fun y => w y.2.2), if_neg (fun y => w (by simpa [ne] using y.2.2))]
    · rw [if_neg (fun y => z ⟨y.1, y.2.1⟩), if_neg (fun y => z ⟨y.1, y.2.1⟩)]
theorem q_Cp.si {s a : Nat} {D : Nat → Nat → Bool} {g g1 : c_G} (h : q_Cp s a D g g1) (hd : a + 23 ≤ s ∨ s + 23 ≤ a) {i : Nat} (hi : i < 23) (n : Nat) : q_Cp s a (fun x j => D x j || (x == i && decide (j = n))) g (c_si g1 (s + i) n (g1.1 (a + i) n)) := by
  refine ⟨fun x j => ?_, h.2⟩
  rw [p_si]
  by_cases e : x = s + i ∧ j = n
  · obtain ⟨rfl, rfl⟩ := e
    rw [if_pos ⟨rfl, rfl⟩, show s + i - s = i by omega, if_pos ⟨by omega, by omega, by simp⟩, h.1, if_neg (by omega)]
  · rw [if_neg e, h.1]
    by_cases z : s ≤ x ∧ x < s + 23
    · have ne : ¬ (x - s = i ∧ j = n) := by omega
      by_cases w : D (x - s) j = true
      · rw [if_pos ⟨z.1, z.2, w⟩, if_pos ⟨z.1, z.2, by simp [w]⟩]
      · rw [if_neg (fun y => w y.2.2), if_neg (fun y => ne (by simpa [w] using y.2.2))]
    · rw [if_neg (fun y => z ⟨y.1, y.2.1⟩), if_neg (fun y => z ⟨y.1, y.2.1⟩)]
theorem c_cp00 {n N M : Nat} (h1 : n ≤ N) (h2 : n ≤ M) (hn : n < 2 ^ 31) : c_cp 0 0 (nI n) N M = true := by
  simp only [c_cp, Bool.and_eq_true, decide_eq_true_eq, nI_clamp hn]
  refine ⟨⟨⟨⟨by decide, by decide⟩, nI_pos hn⟩, ?_⟩, ?_⟩
  · show 0 + n ≤ N; omega
  · show 0 + n ≤ M; omega
theorem q_let {α : Type} {R : Option c_G → Prop} {P : α → Prop} {v : α} {k : α → Option c_G} (h : P v) (next : ∀ w, P w → R (k w)) : R (c_let v k) := next v h
theorem e_cpR {s a : Nat} {D : Nat → Nat → Bool} {g g1 : c_G} (h : q_Cp s a D g g1) (hd : a + 23 ≤ s ∨ s + 23 ≤ a) {i : Nat} (hi : i + 3 < 23) {n : Nat} (h1 : c_isR (s + i) = true) (h2 : c_isR (a + i) = true) (l1 : c_rl (s + i) = n) (l2 : c_rl (a + i) = n) (hn : n < 100) :
    ∃ g2, fX5_copyFrom g1 (s + i) (a + i) = some g2 ∧ q_Cp s a (fun x j => (((D x j || (x == i + 1 && decide (j < n))) || (x == i + 2 && decide (j < n))) || (x == i + 3 && decide (j < n))) || (x == i && decide (j = 3))) g g2 := by
  unfold fX5_copyFrom
  have z0 : (0 : Int32).toNatClampNeg = 0 := rfl
  simp only [h1, h2, l1, l2, c_cp00 (Nat.le_refl n) (Nat.le_refl n) (show n < 2 ^ 31 by omega), nI_clamp (show n < 2 ^ 31 by omega), z0, ↓reduceIte]
  refine q_let (R := fun x => ∃ g2, x = some g2 ∧ q_Cp s a (fun x j => (((D x j || (x == i + 1 && decide (j < n))) || (x == i + 2 && decide (j < n))) || (x == i + 3 && decide (j < n))) || (x == i && decide (j = 3))) g g2) (h.sr hd (i := i + 1) (by omega) n) fun g2 c1 => ?_
  refine q_let (R := fun x => ∃ g2, x = some g2 ∧ q_Cp s a (fun x j => (((D x j || (x == i + 1 && decide (j < n))) || (x == i + 2 && decide (j < n))) || (x == i + 3 && decide (j < n))) || (x == i && decide (j = 3))) g g2) (c1.sr hd (i := i + 2) (by omega) n) fun g3 c2 => ?_
  refine q_let (R := fun x => ∃ g2, x = some g2 ∧ q_Cp s a (fun x j => (((D x j || (x == i + 1 && decide (j < n))) || (x == i + 2 && decide (j < n))) || (x == i + 3 && decide (j < n))) || (x == i && decide (j = 3))) g g2) (c2.sr hd (i := i + 3) (by omega) n) fun g4 c3 => ?_
  exact ⟨_, rfl, c3.si hd (i := i) (by omega) 3⟩
def q_D (x j : Nat) : Bool := (x == 0 && (j == 4 || j == 5 || j == 6)) || (decide (1 ≤ x) && decide (x ≤ 9) && decide (j < 6)) || (x == 10 && decide (j < 24)) || (decide (12 ≤ x) && decide (x ≤ 14) && decide (j < 5)) || (decide (16 ≤ x) && decide (x ≤ 18) && decide (j < 10)) || (decide (20 ≤ x) && decide (x ≤ 22) && decide (j < 8)) || ((x == 11 || x == 15 || x == 19) && j == 3)
theorem q_D_all : ∀ k, k < 136 → (k == 81 || q_D (p_of k) (p_xi k)) = true := by decide +kernel
theorem q_Cp.St {s a : Nat} {g g' : c_G} {m : Nat → Int32} (h : q_Cp s a q_D g g') (hs : p_St g a m) : p_St (c_so g' s (g.2.2 a)) s m := by
  have e0 : ∀ k, k < 136 → k ≠ 81 → g'.1 (s + p_of k) (p_xi k) = g.1 (a + p_of k) (p_xi k) := by
    intro k hk h81
    have h1 := p_of_lt k hk
    have h2 := q_D_all k hk
    rw [h.1, show s + p_of k - s = p_of k by omega, if_pos ⟨by omega, by omega, by simpa [h81] using h2⟩]
  have e1 : (c_so g' s (g.2.2 a)).2.2 s = g.2.2 a := if_pos rfl
  refine ⟨fun k => ?_, fun k hk hu => ?_, hs.2.2.1, by rw [e1]; exact hs.2.2.2⟩
  · rw [hs.1]
    unfold p_al
    by_cases h81 : k = 81
    · rw [if_pos h81, if_pos h81, e1]
    · rw [if_neg h81, if_neg h81]
      by_cases hk : k < 136
      · rw [if_pos hk, if_pos hk]
        exact (congrArg (p_tr k) (e0 k hk h81)).symm
      · rw [if_neg hk, if_neg hk]
  · have h81 : k ≠ 81 := fun q => by rw [q, p_isun_81] at hu; cases hu
    show ¬ g'.1 (s + p_of k) (p_xi k) = -1
    rw [e0 k hk h81]
    exact hs.2.1 k hk hu
theorem q_Cp.out {s a : Nat} {D : Nat → Nat → Bool} {g g' : c_G} (h : q_Cp s a D g g') {x : Nat} (hx : x < s ∨ s + 23 ≤ x) : g'.1 x = g.1 x := funext fun j => by rw [h.1, if_neg (by omega)]
theorem q_Cp.D {s a : Nat} {D D' : Nat → Nat → Bool} {g g' : c_G} (h : q_Cp s a D g g') (e : ∀ x j, D x j = D' x j) : q_Cp s a D' g g' := ⟨fun x j => by rw [h.1, e], h.2⟩
theorem e_copy (g : c_G) {s a : Nat} (hs : c_isS s = true) (ha : c_isS a = true) (hne : s ≠ a) : ∃ g', fX7_copyFrom g s a = some (c_so g' s (g.2.2 a)) ∧ q_Cp s a q_D g g' := by
  have hcase : (s = 55 ∨ s = 78 ∨ s = 101) ∧ (a = 55 ∨ a = 78 ∨ a = 101) := by
    simp only [c_isS, Bool.or_eq_true, beq_iff_eq] at hs ha
    omega
  have hd : a + 23 ≤ s ∨ s + 23 ≤ a := by omega
  have r1 : c_isR (s + 11) = true ∧ c_isR (s + 15) = true ∧ c_isR (s + 19) = true ∧ c_rl (s + 11) = 5 ∧ c_rl (s + 15) = 10 ∧ c_rl (s + 19) = 8 := by
    rcases hcase.1 with rfl | rfl | rfl <;> decide
  have r2 : c_isR (a + 11) = true ∧ c_isR (a + 15) = true ∧ c_isR (a + 19) = true ∧ c_rl (a + 11) = 5 ∧ c_rl (a + 15) = 10 ∧ c_rl (a + 19) = 8 := by
    rcases hcase.2 with rfl | rfl | rfl <;> decide
  obtain ⟨a1, a2, a3, a4, a5, a6⟩ := r1
  obtain ⟨b1, b2, b3, b4, b5, b6⟩ := r2
  have z0 : (0 : Int32).toNatClampNeg = 0 := rfl
  have z6 : (6 : Int32).toNatClampNeg = 6 := rfl
  have z24 : (24 : Int32).toNatClampNeg = 24 := rfl
  unfold fX7_copyFrom
  simp only [hs, ha, z0, z6, z24, ↓reduceIte]
  have c0 := q_Cp.rf s a g
  refine q_let (R := fun x => ∃ g', x = some (c_so g' s (g.2.2 a)) ∧ q_Cp s a q_D g g') (c0.sr hd (i := 1) (by decide) 6) fun g1 c1 => ?_
  refine q_let (R := fun x => ∃ g', x = some (c_so g' s (g.2.2 a)) ∧ q_Cp s a q_D g g') (c1.sr hd (i := 2) (by decide) 6) fun g2 c2 => ?_
  refine q_let (R := fun x => ∃ g', x = some (c_so g' s (g.2.2 a)) ∧ q_Cp s a q_D g g') (c2.sr hd (i := 3) (by decide) 6) fun g3 c3 => ?_
  refine q_let (R := fun x => ∃ g', x = some (c_so g' s (g.2.2 a)) ∧ q_Cp s a q_D g g') (c3.sr hd (i := 4) (by decide) 6) fun g4 c4 => ?_
  refine q_let (R := fun x => ∃ g', x = some (c_so g' s (g.2.2 a)) ∧ q_Cp s a q_D g g') (c4.si hd (i := 0) (by decide) 4) fun g5 c5 => ?_
  refine q_let (R := fun x => ∃ g', x = some (c_so g' s (g.2.2 a)) ∧ q_Cp s a q_D g g') (c5.si hd (i := 0) (by decide) 5) fun g6 c6 => ?_
  refine q_let (R := fun x => ∃ g', x = some (c_so g' s (g.2.2 a)) ∧ q_Cp s a q_D g g') (c6.si hd (i := 0) (by decide) 6) fun g7 c7 => ?_
  refine q_let (R := fun x => ∃ g', x = some (c_so g' s (g.2.2 a)) ∧ q_Cp s a q_D g g') (c7.sr hd (i := 5) (by decide) 6) fun g8 c8 => ?_
  refine q_let (R := fun x => ∃ g', x = some (c_so g' s (g.2.2 a)) ∧ q_Cp s a q_D g g') (c8.sr hd (i := 6) (by decide) 6) fun g9 c9 => ?_
  refine q_let (R := fun x => ∃ g', x = some (c_so g' s (g.2.2 a)) ∧ q_Cp s a q_D g g') (c9.sr hd (i := 7) (by decide) 6) fun g10 c10 => ?_
  refine q_let (R := fun x => ∃ g', x = some (c_so g' s (g.2.2 a)) ∧ q_Cp s a q_D g g') (c10.sr hd (i := 8) (by decide) 6) fun g11 c11 => ?_
  refine q_let (R := fun x => ∃ g', x = some (c_so g' s (g.2.2 a)) ∧ q_Cp s a q_D g g') (c11.sr hd (i := 9) (by decide) 6) fun g12 c12 => ?_
  refine q_let (R := fun x => ∃ g', x = some (c_so g' s (g.2.2 a)) ∧ q_Cp s a q_D g g') (c12.sr hd (i := 10) (by decide) 24) fun g13 c13 => ?_
  obtain ⟨g14, e14, c14⟩ := e_cpR c13 hd (i := 11) (by decide) a1 b1 a4 b4 (by decide)
  rw [e14, Option.bind_some]
  obtain ⟨g15, e15, c15⟩ := e_cpR c14 hd (i := 15) (by decide) a2 b2 a5 b5 (by decide)
  rw [e15, Option.bind_some]
  obtain ⟨g16, e16, c16⟩ := e_cpR c15 hd (i := 19) (by decide) a3 b3 a6 b6 (by decide)
  rw [e16, Option.bind_some]
  refine ⟨g16, by rw [show g.2.2 a = g16.2.2 a by rw [c16.2]]; rfl, c16.D fun x j => ?_⟩
  by_cases q : x < 23
  · unfold q_D
    rcases (show x = 0 ∨ x = 1 ∨ x = 2 ∨ x = 3 ∨ x = 4 ∨ x = 5 ∨ x = 6 ∨ x = 7 ∨ x = 8 ∨ x = 9 ∨ x = 10 ∨ x = 11 ∨ x = 12 ∨ x = 13 ∨ x = 14 ∨ x = 15 ∨ x = 16 ∨ x = 17 ∨ x = 18 ∨ x = 19 ∨ x = 20 ∨ x = 21 ∨ x = 22 by omega) with rfl | rfl | rfl | rfl | rfl | rfl | rfl | rfl | rfl | rfl | rfl | rfl | rfl | rfl | rfl | rfl | rfl | rfl | rfl | rfl | rfl | rfl | rfl <;> simp <;> rfl
  · have n0 : ∀ k, k < 23 → (x == k) = false := fun k hk => by simp; omega
    have n1 : ∀ k, k < 23 → decide (x ≤ k) = false := fun k hk => by simp; omega
    simp only [q_D, n0 0 (by decide), n0 1 (by decide), n0 2 (by decide), n0 3 (by decide), n0 4 (by decide), n0 5 (by decide), n0 6 (by decide), n0 7 (by decide), n0 8 (by decide), n0 9 (by decide), n0 10 (by decide), n0 11 (by decide), n0 12 (by decide), n0 13 (by decide), n0 14 (by decide), n0 15 (by decide), n0 16 (by decide), n0 17 (by decide), n0 18 (by decide), n0 19 (by decide), n0 20 (by decide), n0 21 (by decide), n0 22 (by decide), n1 9 (by decide), n1 14 (by decide), n1 18 (by decide), n1 22 (by decide), Bool.false_and, Bool.and_false, Bool.or_false]
/-! PURE: rows of the reference copied -/
theorem e_imageM : ∀ (d i F : Nat) (g : c_G), i + d = 136 → d < F → ∃ g', fX12_image_7 F (nI i) g = some (g', g.1 1 78) ∧ g'.2 = g.2 ∧ (∀ a, a ≠ 3 → g'.1 a = g.1 a) ∧ ∀ j, g'.1 3 j = if i ≤ j ∧ j < 136 then g.1 1 j else g.1 3 j
  | 0, i, F + 1, g, hi, hF => by
    refine ⟨g, ?_, rfl, fun _ _ => rfl, fun j => by rw [if_neg (by omega)]⟩
    unfold fX12_image_7
    rw [if_pos (show (136 : Int32) ≤ nI i from nI_le (a := 136) (by omega) (by omega))]
  | d + 1, i, F + 1, g, hi, hF => by
    obtain ⟨g', e1, e2, e3, e4⟩ := e_imageM d (i + 1) F (c_si g 3 i (g.1 1 i)) (by omega) (by omega)
    refine ⟨g', ?_, e2, fun a ha => (e3 a ha).trans (c_sr_ne ha), fun j => ?_⟩
    · unfold fX12_image_7
      rw [if_neg (show ¬ (136 : Int32) ≤ nI i from nI_ge (b := 136) (by omega) (by decide)), p_in (by omega) (by decide), if_pos rfl, nI_clamp (by omega)]
      simp only [c_let, nI_1]
      exact e1
    · rw [e4, p_si_ne g 3 i _ (show ¬ (1 = 3 ∧ j = i) by omega)]
      by_cases q : j = i
      · subst q
        rw [if_neg (by omega), if_pos (by omega), p_si_at]
      · rw [p_si_ne _ _ _ _ (by omega)]
        by_cases q3 : i + 1 ≤ j ∧ j < 136
        · rw [if_pos q3, if_pos (by omega)]
        · rw [if_neg q3, if_neg (by omega)]
theorem e_undoM : ∀ (d i F : Nat) (g : c_G), i + d = 136 → d < F → ∃ g', fX12_undo_12 F (nI i) g = some (g', g'.1 1 78) ∧ g'.2 = g.2 ∧ (∀ a, a ≠ 1 → g'.1 a = g.1 a) ∧ ∀ j, g'.1 1 j = if i ≤ j ∧ j < 136 then g.1 3 j else g.1 1 j
  | 0, i, F + 1, g, hi, hF => by
    refine ⟨g, ?_, rfl, fun _ _ => rfl, fun j => by rw [if_neg (by omega)]⟩
    unfold fX12_undo_12
    rw [if_pos (show (136 : Int32) ≤ nI i from nI_le (a := 136) (by omega) (by omega))]
  | d + 1, i, F + 1, g, hi, hF => by
    obtain ⟨g', e1, e2, e3, e4⟩ := e_undoM d (i + 1) F (c_si g 1 i (g.1 3 i)) (by omega) (by omega)
    refine ⟨g', ?_, e2, fun a ha => (e3 a ha).trans (c_sr_ne ha), fun j => ?_⟩
    · unfold fX12_undo_12
      rw [if_neg (show ¬ (136 : Int32) ≤ nI i from nI_ge (b := 136) (by omega) (by decide)), p_in (by omega) (by decide), if_pos rfl, nI_clamp (by omega)]
      simp only [c_let, nI_1]
      exact e1
    · rw [e4, p_si_ne g 1 i _ (show ¬ (3 = 1 ∧ j = i) by omega)]
      by_cases q : j = i
      · subst q
        rw [if_neg (by omega), if_pos (by omega), p_si_at]
      · rw [p_si_ne _ _ _ _ (by omega)]
        by_cases q3 : i + 1 ≤ j ∧ j < 136
        · rw [if_pos q3, if_pos (by omega)]
        · rw [if_neg q3, if_neg (by omega)]
theorem e_keepM : ∀ (d i F : Nat) (g : c_G), i + d = 136 → d < F → ∃ g', fX12_keep_2 0 F 0 (nI i) g = some g' ∧ g'.2 = g.2 ∧ (∀ a, a ≠ 2 → g'.1 a = g.1 a) ∧ ∀ j, g'.1 2 j = if i ≤ j ∧ j < 136 then g.1 1 j else g.1 2 j
  | 0, i, F + 1, g, hi, hF => by
    refine ⟨g, ?_, rfl, fun _ _ => rfl, fun j => by rw [if_neg (by omega)]⟩
    unfold fX12_keep_2
    rw [if_pos (show (136 : Int32) ≤ nI i from nI_le (a := 136) (by omega) (by omega))]
  | d + 1, i, F + 1, g, hi, hF => by
    obtain ⟨g', e1, e2, e3, e4⟩ := e_keepM d (i + 1) F (c_si g 2 i (g.1 1 i)) (by omega) (by omega)
    have ea : (136 : Int32) * 0 + nI i = nI i := by
      show nI 136 * nI 0 + nI i = _
      rw [pk_mul, nI_add, Nat.mul_zero, Nat.zero_add]
    refine ⟨g', ?_, e2, fun a ha => (e3 a ha).trans (c_sr_ne ha), fun j => ?_⟩
    · unfold fX12_keep_2
      rw [if_neg (show ¬ (136 : Int32) ≤ nI i from nI_ge (b := 136) (by omega) (by decide)), ea, p_in (by omega) (by decide), if_pos rfl, p_in (show i < 272 by omega) (by decide), if_pos rfl, nI_clamp (by omega)]
      simp only [c_let, nI_1]
      exact e1
    · rw [e4, p_si_ne g 2 i _ (show ¬ (1 = 2 ∧ j = i) by omega)]
      by_cases q : j = i
      · subst q
        rw [if_neg (by omega), if_pos (by omega), p_si_at]
      · rw [p_si_ne _ _ _ _ (by omega)]
        by_cases q3 : i + 1 ≤ j ∧ j < 136
        · rw [if_pos q3, if_pos (by omega)]
        · rw [if_neg q3, if_neg (by omega)]
theorem e_layM : ∀ (d i F : Nat) (g : c_G), i + d = 136 → d < F → ∃ g', fX12_lay_2 0 F 0 (nI i) g = some g' ∧ g'.2 = g.2 ∧ (∀ a, a ≠ 1 → g'.1 a = g.1 a) ∧ ∀ j, g'.1 1 j = if i ≤ j ∧ j < 136 then g.1 2 j else g.1 1 j
  | 0, i, F + 1, g, hi, hF => by
    refine ⟨g, ?_, rfl, fun _ _ => rfl, fun j => by rw [if_neg (by omega)]⟩
    unfold fX12_lay_2
    rw [if_pos (show (136 : Int32) ≤ nI i from nI_le (a := 136) (by omega) (by omega))]
  | d + 1, i, F + 1, g, hi, hF => by
    obtain ⟨g', e1, e2, e3, e4⟩ := e_layM d (i + 1) F (c_si g 1 i (g.1 2 i)) (by omega) (by omega)
    have ea : (136 : Int32) * 0 + nI i = nI i := by
      show nI 136 * nI 0 + nI i = _
      rw [pk_mul, nI_add, Nat.mul_zero, Nat.zero_add]
    refine ⟨g', ?_, e2, fun a ha => (e3 a ha).trans (c_sr_ne ha), fun j => ?_⟩
    · unfold fX12_lay_2
      rw [if_neg (show ¬ (136 : Int32) ≤ nI i from nI_ge (b := 136) (by omega) (by decide)), ea, p_in (show i < 272 by omega) (by decide), if_pos rfl, p_in (by omega) (by decide), if_pos rfl, nI_clamp (by omega)]
      simp only [c_let, nI_1]
      exact e1
    · rw [e4, p_si_ne g 1 i _ (show ¬ (2 = 1 ∧ j = i) by omega)]
      by_cases q : j = i
      · subst q
        rw [if_neg (by omega), if_pos (by omega), p_si_at]
      · rw [p_si_ne _ _ _ _ (by omega)]
        by_cases q3 : i + 1 ≤ j ∧ j < 136
        · rw [if_pos q3, if_pos (by omega)]
        · rw [if_neg q3, if_neg (by omega)]
/-- row 1 kept in row 2 -/
theorem e_keep (g : c_G) : ∃ g', fX12_keep g 0 = some g' ∧ g'.2 = g.2 ∧ (∀ a, a ≠ 2 → g'.1 a = g.1 a) ∧ ∀ j, j < 136 → g'.1 2 j = g.1 1 j := by
  obtain ⟨g', e1, e2, e3, e4⟩ := e_keepM 136 0 c_F g rfl (by decide)
  exact ⟨g', e1, e2, e3, fun j hj => by rw [e4, if_pos ⟨by omega, hj⟩]⟩
/-- and laid again -/
theorem e_lay (g : c_G) : ∃ g', fX12_lay g 0 = some g' ∧ g'.2 = g.2 ∧ (∀ a, a ≠ 1 → g'.1 a = g.1 a) ∧ ∀ j, g'.1 1 j = if j < 136 then g.1 2 j else g.1 1 j := by
  obtain ⟨g', e1, e2, e3, e4⟩ := e_layM 136 0 c_F g rfl (by decide)
  exact ⟨g', e1, e2, e3, fun j => by rw [e4]; by_cases q : j < 136 <;> simp [q]⟩
