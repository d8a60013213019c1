/-! PURE: the reference reads a text as it is meant -/
def q_G (g0 : c_G) (p w d : Nat) (su le : Int32) : c_G := (fun a j => if a = 0 then (if j = 11 then nI p else if j = 12 then nI w else if j = 13 then nI d else if j = 14 then su else if j = 15 then le else g0.1 0 j) else g0.1 a j, g0.2)
section QG
variable (g0 : c_G) (p w d : Nat) (su le : Int32)
theorem q_G_si (k : Nat) (x : Int32) (f : Nat → Int32) (hf : ∀ j, (if j = k then x else (q_G g0 p w d su le).1 0 j) = f j) : c_si (q_G g0 p w d su le) 0 k x = (fun a j => if a = 0 then f j else g0.1 a j, g0.2) := by
  refine Prod.ext (funext fun a => funext fun j => ?_) rfl
  rw [p_si]
  by_cases e : a = 0
  · subst e
    simp only [true_and, ↓reduceIte]
    exact hf j
  · rw [if_neg (fun z => e z.1)]
    show (q_G g0 p w d su le).1 a j = if a = 0 then f j else g0.1 a j
    unfold q_G
    simp only [e, ↓reduceIte]
theorem q_G_11 (x : Nat) : c_si (q_G g0 p w d su le) 0 11 (nI x) = q_G g0 x w d su le := q_G_si g0 p w d su le 11 (nI x) _ fun j => by
  show _ = if j = 11 then nI x else if j = 12 then nI w else if j = 13 then nI d else if j = 14 then su else if j = 15 then le else g0.1 0 j
  unfold q_G
  by_cases q : j = 11 <;> simp [q]
theorem q_G_12 (x : Nat) : c_si (q_G g0 p w d su le) 0 12 (nI x) = q_G g0 p x d su le := q_G_si g0 p w d su le 12 (nI x) _ fun j => by
  show _ = if j = 11 then nI p else if j = 12 then nI x else if j = 13 then nI d else if j = 14 then su else if j = 15 then le else g0.1 0 j
  unfold q_G
  by_cases q : j = 12 <;> simp [q]
theorem q_G_13 (x : Nat) : c_si (q_G g0 p w d su le) 0 13 (nI x) = q_G g0 p w x su le := q_G_si g0 p w d su le 13 (nI x) _ fun j => by
  show _ = if j = 11 then nI p else if j = 12 then nI w else if j = 13 then nI x else if j = 14 then su else if j = 15 then le else g0.1 0 j
  unfold q_G
  by_cases q : j = 13 <;> simp [q]
theorem q_G_14 (x : Int32) : c_si (q_G g0 p w d su le) 0 14 x = q_G g0 p w d x le := q_G_si g0 p w d su le 14 x _ fun j => by
  show _ = if j = 11 then nI p else if j = 12 then nI w else if j = 13 then nI d else if j = 14 then x else if j = 15 then le else g0.1 0 j
  unfold q_G
  by_cases q : j = 14 <;> simp [q]
theorem q_G_15 (x : Int32) : c_si (q_G g0 p w d su le) 0 15 x = q_G g0 p w d su x := q_G_si g0 p w d su le 15 x _ fun j => by
  show _ = if j = 11 then nI p else if j = 12 then nI w else if j = 13 then nI d else if j = 14 then su else if j = 15 then x else g0.1 0 j
  unfold q_G
  by_cases q : j = 15 <;> simp [q]
theorem q_g10 : (q_G g0 p w d su le).1 0 10 = g0.1 0 10 := rfl
theorem q_g11 : (q_G g0 p w d su le).1 0 11 = nI p := rfl
theorem q_g12 : (q_G g0 p w d su le).1 0 12 = nI w := rfl
theorem q_g13 : (q_G g0 p w d su le).1 0 13 = nI d := rfl
theorem q_g14 : (q_G g0 p w d su le).1 0 14 = su := rfl
theorem q_g15 : (q_G g0 p w d su le).1 0 15 = le := rfl
theorem q_gr {a : Nat} (h : a ≠ 0) : (q_G g0 p w d su le).1 a = g0.1 a := funext fun j => if_neg h
end QG
/-- the text t of n bytes and the tables are there -/
def q_B (g0 : c_G) (t : Nat → Int32) (n : Nat) : Prop := n ≤ 100 ∧ g0.1 0 10 = nI n ∧ (∀ j, j < n → g0.1 7 j = t j) ∧ p_Ks g0
theorem s_at_iff {t : Nat → Int32} {n p : Nat} {c : Int32} : s_at t n p c = true ↔ p < n ∧ t p = c := by
  simp [s_at]
theorem m_isAt {g0 : c_G} {t : Nat → Int32} {n p d : Nat} {su le : Int32} (B : q_B g0 t n) (hp : p ≤ n) (c : Int32) : fX12_isAt (q_G g0 p 1 d su le) c = some (if s_at t n p c = true then 1 else 0) := by
  obtain ⟨hn, h10, ht, -⟩ := B
  unfold fX12_isAt
  rw [q_g12, q_g10, q_g11, h10, if_neg (show ¬ nI 1 = 0 by decide), q_gr g0 p 1 d su le (a := 7) (by decide)]
  by_cases q : p < n
  · rw [if_neg (nI_ge q (by omega)), p_in (by omega) (by decide), if_pos rfl, nI_clamp (by omega), ht p q]
    by_cases q2 : t p = c
    · rw [if_pos q2, if_pos (s_at_iff.mpr ⟨q, q2⟩)]
    · rw [if_neg q2, if_neg (fun z => q2 (s_at_iff.mp z).2)]
  · rw [if_pos (nI_le (by omega) (by omega)), if_neg (fun z => q (s_at_iff.mp z).1)]
theorem m_isAtD {g0 : c_G} {p d : Nat} {su le : Int32} (c : Int32) : fX12_isAt (q_G g0 p 0 d su le) c = some 0 := by
  unfold fX12_isAt
  rw [q_g12, if_pos (show nI 0 = 0 from rfl)]
theorem m_takes {g0 : c_G} {t : Nat → Int32} {n p d : Nat} {su le : Int32} (B : q_B g0 t n) (hp : p ≤ n) (c : Int32) : fX12_takes (q_G g0 p 1 d su le) c = some (if s_at t n p c = true then q_G g0 (p + 1) 1 d su le else q_G g0 p 0 d su le) := by
  unfold fX12_takes
  rw [m_isAt B hp, Option.bind_some]
  by_cases q : s_at t n p c = true
  · rw [if_pos q, if_neg i10, c_let_d, c_let_d, q_g11, nI_1, q_G_11, if_pos q]
  · rw [if_neg q, if_pos rfl, c_let_d, show (0 : Int32) = nI 0 from rfl, q_G_12, if_neg q]
theorem m_takesD {g0 : c_G} {p d : Nat} {su le : Int32} (c : Int32) : fX12_takes (q_G g0 p 0 d su le) c = some (q_G g0 p 0 d su le) := by
  unfold fX12_takes
  rw [m_isAtD, Option.bind_some, if_pos rfl, c_let_d, show (0 : Int32) = nI 0 from rfl, q_G_12]
theorem m_isDigit {g0 : c_G} {t : Nat → Int32} {n p d : Nat} {su le : Int32} (B : q_B g0 t n) (hp : p ≤ n) : fX12_isDigit (q_G g0 p 1 d su le) = some (if s_dig t n p = true then 1 else 0) := by
  obtain ⟨hn, h10, ht, -⟩ := B
  unfold fX12_isDigit s_dig
  rw [q_g12, q_g10, q_g11, h10, if_neg (show ¬ nI 1 = 0 by decide), q_gr g0 p 1 d su le (a := 7) (by decide)]
  by_cases q : p < n
  · rw [if_neg (nI_ge q (by omega)), p_in (by omega) (by decide), if_pos rfl, nI_clamp (by omega), ht p q]
    by_cases q2 : t p < 48
    · rw [if_pos q2, if_neg]
      simp only [Bool.and_eq_true, decide_eq_true_eq]
      exact fun z => p_lnl q2 z.2.1
    · rw [if_neg q2]
      by_cases q3 : 57 < t p
      · rw [if_pos q3, if_neg]
        simp only [Bool.and_eq_true, decide_eq_true_eq]
        exact fun z => p_lnl q3 z.2.2
      · rw [if_neg q3, if_pos]
        simp only [Bool.and_eq_true, decide_eq_true_eq]
        exact ⟨q, Int32.not_lt.mp q2, Int32.not_lt.mp q3⟩
  · rw [if_pos (nI_le (by omega) (by omega)), if_neg (by simp [q])]
theorem m_isDigitD {g0 : c_G} {p d : Nat} {su le : Int32} : fX12_isDigit (q_G g0 p 0 d su le) = some 0 := by
  unfold fX12_isDigit
  rw [q_g12, if_pos (show nI 0 = 0 from rfl)]
theorem m_numberD {g0 : c_G} {p d : Nat} {su le : Int32} : fX12_number (q_G g0 p 0 d su le) = some (q_G g0 p 0 d su le, 0) := by
  unfold fX12_number
  rw [m_isDigitD, Option.bind_some, if_pos rfl, c_let_d, show (0 : Int32) = nI 0 from rfl, q_G_12]
theorem s_dig_lt {t : Nat → Int32} {n p : Nat} (h : s_dig t n p = true) : p < n := by
  simp only [s_dig, Bool.and_eq_true, decide_eq_true_eq] at h
  exact h.1
/-- a number's place -/
theorem s_num_ok {t : Nat → Int32} {n p : Nat} (hp : p ≤ n) : match s_num t n p with
    | .ok (_, q) => p < q ∧ q ≤ n
    | .error q => q = p := by
  unfold s_num
  by_cases q1 : s_dig t n p = true
  · have l1 := s_dig_lt q1
    rw [if_pos q1]
    by_cases q2 : s_dig t n (p + 1) = true
    · have l2 := s_dig_lt q2
      rw [if_pos q2]
      exact ⟨by omega, by omega⟩
    · rw [if_neg q2]
      exact ⟨by omega, by omega⟩
  · rw [if_neg q1]
theorem m_number {g0 : c_G} {t : Nat → Int32} {n p d : Nat} {su le : Int32} (B : q_B g0 t n) (hp : p ≤ n) : fX12_number (q_G g0 p 1 d su le) = some (match s_num t n p with
    | .ok (x, q) => (q_G g0 q 1 d su le, x)
    | .error q => (q_G g0 q 0 d su le, 0)) := by
  have B' := B
  obtain ⟨hn, h10, ht, -⟩ := B'
  unfold fX12_number s_num
  rw [m_isDigit B hp, Option.bind_some]
  by_cases q1 : s_dig t n p = true
  · have l1 := s_dig_lt q1
    rw [if_pos q1, if_neg i10, q_g11, p_in (show p < 100 by omega) (by decide), if_pos rfl, nI_clamp (by omega), q_gr g0 p 1 d su le (a := 7) (by decide), ht p l1, c_let_d, c_let_d, c_let_d, nI_1, q_G_11, m_isDigit B l1, Option.bind_some, if_pos q1]
    by_cases q2 : s_dig t n (p + 1) = true
    · have l2 := s_dig_lt q2
      rw [if_pos q2, if_neg i10, q_g11, p_in (show p + 1 < 100 by omega) (by decide), if_pos rfl, nI_clamp (by omega), q_gr g0 (p + 1) 1 d su le (a := 7) (by decide), ht _ l2, c_let_d, c_let_d, c_let_d, nI_1, q_G_11, if_pos q2]
    · rw [if_neg q2, if_pos rfl, if_neg q2]
  · rw [if_neg q1, if_pos rfl, if_neg q1, c_let_d, show (0 : Int32) = nI 0 from rfl, q_G_12]
/-! a test -/
def q_res (g0 : c_G) (d : Nat) (su le : Int32) (S : Except Nat (s_V × Nat)) (o : Option (c_G × Int32)) : Prop :=
  match S with
  | .ok (v, q) => o = some (q_G g0 q 1 d su le, if v (g0.1 8) = true then 1 else 0)
  | .error q => ∃ r, c_bo r = true ∧ o = some (q_G g0 q 0 d su le, r)
def s_ok (n p : Nat) (S : Except Nat (s_V × Nat)) : Prop :=
  match S with
  | .ok (_, q) => p < q ∧ q ≤ n
  | .error q => p ≤ q ∧ q ≤ n
theorem s_let_lt {t : Nat → Int32} {n p a : Nat} (h : s_let t n p = some a) : a < 6 ∧ p < n := by
  unfold s_let at h
  by_cases q0 : s_at t n p 112 = true
  · rw [if_pos q0] at h; cases h; exact ⟨by omega, (s_at_iff.mp q0).1⟩
  rw [if_neg q0] at h
  by_cases q1 : s_at t n p 107 = true
  · rw [if_pos q1] at h; cases h; exact ⟨by omega, (s_at_iff.mp q1).1⟩
  rw [if_neg q1] at h
  by_cases q2 : s_at t n p 118 = true
  · rw [if_pos q2] at h; cases h; exact ⟨by omega, (s_at_iff.mp q2).1⟩
  rw [if_neg q2] at h
  by_cases q3 : s_at t n p 120 = true
  · rw [if_pos q3] at h; cases h; exact ⟨by omega, (s_at_iff.mp q3).1⟩
  rw [if_neg q3] at h
  by_cases q4 : s_at t n p 108 = true
  · rw [if_pos q4] at h; cases h; exact ⟨by omega, (s_at_iff.mp q4).1⟩
  rw [if_neg q4] at h
  by_cases q5 : s_at t n p 97 = true
  · rw [if_pos q5] at h; cases h; exact ⟨by omega, (s_at_iff.mp q5).1⟩
  rw [if_neg q5] at h
  cases h
theorem s_rel_lt {t : Nat → Int32} {n p a : Nat} (h : s_rel t n p = some a) : a < 3 ∧ p < n := by
  unfold s_rel at h
  by_cases q0 : s_at t n p 60 = true
  · rw [if_pos q0] at h; cases h; exact ⟨by omega, (s_at_iff.mp q0).1⟩
  rw [if_neg q0] at h
  by_cases q1 : s_at t n p 61 = true
  · rw [if_pos q1] at h; cases h; exact ⟨by omega, (s_at_iff.mp q1).1⟩
  rw [if_neg q1] at h
  by_cases q2 : s_at t n p 62 = true
  · rw [if_pos q2] at h; cases h; exact ⟨by omega, (s_at_iff.mp q2).1⟩
  rw [if_neg q2] at h
  cases h
theorem s_test_ok {t : Nat → Int32} {n p : Nat} (hp : p ≤ n) : s_ok n p (s_test t n p) := by
  unfold s_test
  cases e1 : s_let t n p with
  | none => exact ⟨Nat.le_refl _, hp⟩
  | some a =>
    have l1 := (s_let_lt e1).2
    cases e2 : s_rel t n (p + 1) with
    | none => exact ⟨by omega, by omega⟩
    | some r =>
      have l2 := (s_rel_lt e2).2
      have h3 := s_num_ok (t := t) (n := n) (p := p + 2) (by omega)
      cases e3 : s_num t n (p + 2) with
      | error q => rw [e3] at h3; subst h3; exact ⟨by omega, by omega⟩
      | ok z =>
        rw [e3] at h3
        exact ⟨by have := h3.1; omega, h3.2⟩
theorem c_bo01 {P : Prop} [Decidable P] : c_bo (if P then 1 else 0) = true := by
  split <;> rfl
theorem m_testL {g0 : c_G} {t : Nat → Int32} {n p d : Nat} {su le : Int32} (B : q_B g0 t n) (hp : p ≤ n) (x : Int32) : ∀ F, fX12_test_4 (F + 7) (-1) 0 (q_G g0 p 1 d su le) = (match s_let t n p with
    | some a => fX12_test_4 (F + 1) (nI a) 6 (q_G g0 p 1 d su le)
    | none => fX12_test_4 (F + 1) (-1) 6 (q_G g0 p 1 d su le)) := by
  intro F
  have k0 := B.2.2.2.1
  have t0 : g0.1 9 0 = 112 := k0 0 (by decide)
  have t1 : g0.1 9 1 = 107 := k0 1 (by decide)
  have t2 : g0.1 9 2 = 118 := k0 2 (by decide)
  have t3 : g0.1 9 3 = 120 := k0 3 (by decide)
  have t4 : g0.1 9 4 = 108 := k0 4 (by decide)
  have t5 : g0.1 9 5 = 97 := k0 5 (by decide)
  have step : ∀ (F k : Nat) (y : Int32), k < 6 → fX12_test_4 (F + 1) y (nI k) (q_G g0 p 1 d su le) = fX12_test_4 F (if s_at t n p (g0.1 9 k) = true then nI k else y) (nI (k + 1)) (q_G g0 p 1 d su le) := by
    intro F k y hk
    rw [fX12_test_4, if_neg (show ¬ (6 : Int32) ≤ nI k from nI_ge (b := 6) hk (by decide)), p_in hk (by decide), if_pos rfl, nI_clamp (by omega), q_gr g0 p 1 d su le (a := 9) (by decide), m_isAt B hp, Option.bind_some]
    unfold fX12_test_28
    by_cases q : s_at t n p (g0.1 9 k) = true
    · rw [if_pos q, if_neg i10, c_let_d, nI_1, if_pos q]
    · rw [if_neg q, if_pos rfl, c_let_d, nI_1, if_neg q]
  rw [show (0 : Int32) = nI 0 from rfl, step (F + 6) 0 _ (by decide), step (F + 5) 1 _ (by decide), step (F + 4) 2 _ (by decide), step (F + 3) 3 _ (by decide), step (F + 2) 4 _ (by decide), step (F + 1) 5 _ (by decide), t0, t1, t2, t3, t4, t5]
  have at6 : ∀ c, s_at t n p c = (decide (p < n) && decide (t p = c)) := fun _ => rfl
  unfold s_let
  by_cases q : p < n
  · by_cases c0 : t p = 112
    · simp [at6, q, c0]; rfl
    by_cases c1 : t p = 107
    · simp [at6, q, c1]; rfl
    by_cases c2 : t p = 118
    · simp [at6, q, c2]; rfl
    by_cases c3 : t p = 120
    · simp [at6, q, c3]; rfl
    by_cases c4 : t p = 108
    · simp [at6, q, c4]; rfl
    by_cases c5 : t p = 97
    · simp [at6, q, c5]; rfl
    simp [at6, c0, c1, c2, c3, c4, c5]; rfl
  · simp [at6, q]; rfl
