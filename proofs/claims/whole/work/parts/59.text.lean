/-! PURE: the reference reads a clause, a text -/
section Z
variable (g0 : c_G) (p w d : Nat) (su le : Int32)
theorem q_G_12z : c_si (q_G g0 p w d su le) 0 12 0 = q_G g0 p 0 d su le := q_G_12 g0 p w d su le 0
theorem q_G_13z : c_si (q_G g0 p w d su le) 0 13 0 = q_G g0 p w 0 su le := q_G_13 g0 p w d su le 0
theorem m_146 (y1 y2 : Int32) : fX12_clause_146 y1 y2 (q_G g0 p w d su le) = some (q_G g0 p w d (y1 + y2) le) := by
  unfold fX12_clause_146
  rw [c_let_d, c_let_d, q_G_14]
end Z
def q_resC (g0 : c_G) (su le : Int32) (S : Except Nat (((Nat → Int32) → Int32) × Option Int32 × Nat)) (o : Option c_G) : Prop :=
  match S with
  | .ok (u, y, q) => ∃ d, o = some (q_G g0 q 1 d (su + u (g0.1 8)) (y.getD le))
  | .error q => ∃ d su' le', o = some (q_G g0 q 0 d su' le')
def s_okC (n p : Nat) (S : Except Nat (((Nat → Int32) → Int32) × Option Int32 × Nat)) : Prop :=
  match S with
  | .ok (_, _, q) => p ≤ q ∧ q ≤ n
  | .error q => p ≤ q ∧ q ≤ n
theorem s_wd_ok {t : Nat → Int32} {n : Nat} : ∀ (l : List Int32) (p : Nat), p ≤ n → match s_wd t n l p with
    | .ok q => p ≤ q ∧ q ≤ n
    | .error q => p ≤ q ∧ q ≤ n
  | [], p, hp => ⟨Nat.le_refl _, hp⟩
  | c :: l, p, hp => by
    unfold s_wd
    by_cases h : s_at t n p c = true
    · have hl : p < n := (s_at_iff.mp h).1
      have ih := s_wd_ok (t := t) l (p + 1) hl
      rw [if_pos h]
      cases e : s_wd t n l (p + 1) with
      | ok q => rw [e] at ih; exact ⟨by have := ih.1; omega, ih.2⟩
      | error q => rw [e] at ih; exact ⟨by have := ih.1; omega, ih.2⟩
    · rw [if_neg h]
      exact ⟨Nat.le_refl _, hp⟩
theorem s_wd_app {t : Nat → Int32} {n : Nat} (c : Int32) : ∀ (l : List Int32) (p : Nat), s_wd t n (l ++ [c]) p = match s_wd t n l p with
    | .ok q => if s_at t n q c = true then .ok (q + 1) else .error q
    | .error q => .error q
  | [], p => rfl
  | x :: l, p => by
    show (if s_at t n p x = true then s_wd t n (l ++ [c]) (p + 1) else .error p) = match (if s_at t n p x = true then s_wd t n l (p + 1) else .error p) with
      | .ok q => if s_at t n q c = true then .ok (q + 1) else .error q
      | .error q => .error q
    by_cases h : s_at t n p x = true
    · rw [if_pos h, if_pos h]
      exact s_wd_app c l (p + 1)
    · rw [if_neg h, if_neg h]
theorem m_85D {g0 : c_G} {p d w : Nat} {su le : Int32} : ∃ d' su' le', fX12_clause_85 (nI w) (q_G g0 p 0 d su le) = some (q_G g0 p 0 d' su' le') := by
  unfold fX12_clause_85
  rw [m_takesD, Option.bind_some, m_numberD, c_b2s]
  by_cases h : nI w = 2
  · rw [if_pos h, c_let_d, q_G_15]
    exact ⟨_, _, _, rfl⟩
  · rw [if_neg h, m_takesD, Option.bind_some, c_let_d, q_G_13z, m_exprD, c_b2s, if_pos rfl, m_146]
    exact ⟨_, _, _, rfl⟩
/-- what stands behind the word of suit or jar -/
def s_E (t : Nat → Int32) (n : Nat) (sg : Int32) (q : Nat) : Except Nat (((Nat → Int32) → Int32) × Option Int32 × Nat) :=
  if s_at t n q 32 = true then (match s_num t n (q + 1) with
    | .error q => .error q
    | .ok (x, q) => if s_at t n q 32 = true then (match s_any t n (s_fac t n 4) (q + 1) with
      | .error q => .error q
      | .ok (v, q) => .ok (fun e => if v e = true then sg * x else 0, none, q)) else .error q) else .error q
def s_Ln (t : Nat → Int32) (n : Nat) (q : Nat) : Except Nat (((Nat → Int32) → Int32) × Option Int32 × Nat) :=
  if s_at t n q 32 = true then (match s_num t n (q + 1) with
    | .error q => .error q
    | .ok (x, q) => .ok (fun _ => 0, some x, q)) else .error q
theorem m_85E {g0 : c_G} {t : Nat → Int32} {n q d w : Nat} {su le : Int32} (B : q_B g0 t n) (hq : q ≤ n) (sg : Int32) (hw : (w = 0 ∧ sg = 1) ∨ (w = 1 ∧ sg = -1)) : s_okC n q (s_E t n sg q) ∧ q_resC g0 su le (s_E t n sg q) (fX12_clause_85 (nI w) (q_G g0 q 1 d su le)) := by
  have h2 : ¬ nI w = 2 := by rcases hw with ⟨rfl, -⟩ | ⟨rfl, -⟩ <;> decide
  have hD := fun (p : Nat) (d : Nat) (su le : Int32) => m_85D (g0 := g0) (p := p) (d := d) (w := w) (su := su) (le := le)
  unfold fX12_clause_85 at hD
  unfold s_E fX12_clause_85
  rw [m_takes B hq, Option.bind_some]
  by_cases h32 : s_at t n q 32 = true
  · have hl : q < n := (s_at_iff.mp h32).1
    rw [if_pos h32, if_pos h32, m_number B hl]
    have ho := s_num_ok (t := t) (n := n) (p := q + 1) hl
    cases en : s_num t n (q + 1) with
    | error z =>
      rw [en] at ho
      subst ho
      refine ⟨⟨by omega, hl⟩, ?_⟩
      obtain ⟨d', su', le', h⟩ := hD (q + 1) d su le
      rw [m_takesD, Option.bind_some, m_numberD] at h
      exact ⟨d', su', le', h⟩
    | ok z =>
      obtain ⟨x, z⟩ := z
      rw [en] at ho
      have o1 : q + 1 < z := ho.1
      have o2 : z ≤ n := ho.2
      show s_okC n q (if s_at t n z 32 = true then _ else .error z) ∧ q_resC g0 su le (if s_at t n z 32 = true then _ else .error z) (c_b2 (some (q_G g0 z 1 d su le, x)) _)
      rw [c_b2s, if_neg h2, m_takes B o2, Option.bind_some]
      by_cases hz : s_at t n z 32 = true
      · have hzl : z < n := (s_at_iff.mp hz).1
        rw [if_pos hz, if_pos hz, c_let_d, q_G_13z]
        obtain ⟨ok, res⟩ := m_expr (su := su) (le := le) B (z + 1) hzl
        cases e : s_any t n (s_fac t n 4) (z + 1) with
        | error y =>
          rw [e] at ok res
          obtain ⟨r, hr, eq⟩ := res
          refine ⟨⟨by have := ok.1; omega, ok.2⟩, ?_⟩
          rw [eq, c_b2s, m_146, m_146, m_146]
          have go : ∀ sx, q_resC g0 su le (.error y) (some (q_G g0 y 0 0 sx le)) := fun _ => ⟨_, _, _, rfl⟩
          exact q_if1 (R := q_resC g0 su le (.error y)) (go _) (q_if1 (R := q_resC g0 su le (.error y)) (go _) (go _))
        | ok y =>
          obtain ⟨v, y⟩ := y
          rw [e] at ok res
          have eq : fG3 40 0 (q_G g0 (z + 1) 1 0 su le) = some (q_G g0 y 1 0 su le, if v (g0.1 8) = true then 1 else 0) := res
          have ok1 : z + 1 < y := ok.1
          refine ⟨⟨by omega, ok.2⟩, 0, ?_⟩
          show c_b2 _ _ = some (q_G g0 y 1 0 (su + (if v (g0.1 8) = true then sg * x else 0)) le)
          rw [eq, c_b2s, q_g14, m_146, m_146, m_146]
          by_cases hv : v (g0.1 8) = true
          · rw [if_pos hv, if_neg i10, if_pos hv]
            rcases hw with ⟨rfl, rfl⟩ | ⟨rfl, rfl⟩
            · rw [if_pos (show nI 0 = 0 from rfl), Int32.one_mul]
            · rw [if_neg (show ¬ nI 1 = 0 by decide), Int32.neg_eq_neg_one_mul x]
          · rw [if_neg hv, if_pos rfl, if_neg hv]
      · rw [if_neg hz, if_neg hz, c_let_d, q_G_13z, m_exprD, c_b2s, if_pos rfl, m_146]
        exact ⟨⟨by omega, o2⟩, _, _, _, rfl⟩
  · rw [if_neg h32, if_neg h32]
    refine ⟨⟨Nat.le_refl _, hq⟩, ?_⟩
    obtain ⟨d', su', le', h⟩ := hD q d su le
    rw [m_takesD, Option.bind_some] at h
    exact ⟨d', su', le', h⟩
theorem m_85L {g0 : c_G} {t : Nat → Int32} {n q d : Nat} {su le : Int32} (B : q_B g0 t n) (hq : q ≤ n) : s_okC n q (s_Ln t n q) ∧ q_resC g0 su le (s_Ln t n q) (fX12_clause_85 (nI 2) (q_G g0 q 1 d su le)) := by
  have h2 : nI 2 = 2 := rfl
  have hD := fun (p : Nat) (d : Nat) (su le : Int32) => m_85D (g0 := g0) (p := p) (d := d) (w := 2) (su := su) (le := le)
  unfold fX12_clause_85 at hD
  unfold s_Ln fX12_clause_85
  rw [m_takes B hq, Option.bind_some]
  by_cases h32 : s_at t n q 32 = true
  · have hl : q < n := (s_at_iff.mp h32).1
    rw [if_pos h32, if_pos h32, m_number B hl]
    have ho := s_num_ok (t := t) (n := n) (p := q + 1) hl
    cases en : s_num t n (q + 1) with
    | error z =>
      rw [en] at ho
      subst ho
      refine ⟨⟨by omega, hl⟩, ?_⟩
      obtain ⟨d', su', le', h⟩ := hD (q + 1) d su le
      rw [m_takesD, Option.bind_some, m_numberD] at h
      exact ⟨d', su', le', h⟩
    | ok z =>
      obtain ⟨x, z⟩ := z
      rw [en] at ho
      have o1 : q + 1 < z := ho.1
      have o2 : z ≤ n := ho.2
      refine ⟨⟨by omega, o2⟩, d, ?_⟩
      show c_b2 (some (q_G g0 z 1 d su le, x)) _ = some (q_G g0 z 1 d (su + 0) x)
      rw [c_b2s, if_pos h2, c_let_d, q_G_15, Int32.add_zero]
  · rw [if_neg h32, if_neg h32]
    refine ⟨⟨Nat.le_refl _, hq⟩, ?_⟩
    obtain ⟨d', su', le', h⟩ := hD q d su le
    rw [m_takesD, Option.bind_some] at h
    exact ⟨d', su', le', h⟩
/-- the letters of a word from a place on -/
def q_isW (r : Nat → Int32) : List Int32 → Nat → Prop
  | [], k => k = 5 ∨ (k < 5 ∧ r k = 0)
  | c :: l, k => k < 5 ∧ r k = c ∧ ¬ c = 0 ∧ q_isW r l (k + 1)
theorem m_47D {g0 : c_G} {w d p : Nat} {su le : Int32} (hw : w < 3) : ∀ (l : List Int32) (k F : Nat), q_isW (fun k => g0.1 11 (5 * w + k)) l k → l.length < F → fX12_clause_47 F (nI w) (nI k) (q_G g0 p 0 d su le) = fX12_clause_85 (nI w) (q_G g0 p 0 d su le)
  | [], k, F + 1, h, hF => by
    rw [fX12_clause_47]
    rcases h with rfl | ⟨h1, h2⟩
    · rw [if_pos (show (5 : Int32) ≤ nI 5 by decide)]
    · have e : (5 : Int32) * nI w + nI k = nI (5 * w + k) := by
        show nI 5 * nI w + _ = _
        rw [pk_mul, nI_add]
      rw [if_neg (show ¬ (5 : Int32) ≤ nI k from nI_ge (b := 5) h1 (by decide)), e, p_in (show 5 * w + k < 15 by omega) (by decide), if_pos rfl, nI_clamp (by omega), q_gr g0 p 0 d su le (a := 11) (by decide), if_pos h2]
  | c :: l, k, F + 1, h, hF => by
    obtain ⟨h1, h2, h3, h4⟩ := h
    have h2' : g0.1 11 (5 * w + k) = c := h2
    have e : (5 : Int32) * nI w + nI k = nI (5 * w + k) := by
      show nI 5 * nI w + _ = _
      rw [pk_mul, nI_add]
    rw [fX12_clause_47, if_neg (show ¬ (5 : Int32) ≤ nI k from nI_ge (b := 5) h1 (by decide)), e, p_in (show 5 * w + k < 15 by omega) (by decide), if_pos rfl, nI_clamp (by omega), q_gr g0 p 0 d su le (a := 11) (by decide), h2', if_neg h3, m_takesD, Option.bind_some, c_let_d, nI_1]
    exact m_47D hw l (k + 1) F h4 (by simp at hF; omega)
theorem m_47 {g0 : c_G} {t : Nat → Int32} {n w d : Nat} {su le : Int32} (B : q_B g0 t n) (hw : w < 3) : ∀ (l : List Int32) (k p F : Nat), q_isW (fun k => g0.1 11 (5 * w + k)) l k → l.length < F → p ≤ n → fX12_clause_47 F (nI w) (nI k) (q_G g0 p 1 d su le) = fX12_clause_85 (nI w) (match s_wd t n l p with
      | .ok q => q_G g0 q 1 d su le
      | .error q => q_G g0 q 0 d su le)
  | [], k, p, F + 1, h, hF, hp => by
    show _ = fX12_clause_85 (nI w) (q_G g0 p 1 d su le)
    rw [fX12_clause_47]
    rcases h with rfl | ⟨h1, h2⟩
    · rw [if_pos (show (5 : Int32) ≤ nI 5 by decide)]
    · have e : (5 : Int32) * nI w + nI k = nI (5 * w + k) := by
        show nI 5 * nI w + _ = _
        rw [pk_mul, nI_add]
      rw [if_neg (show ¬ (5 : Int32) ≤ nI k from nI_ge (b := 5) h1 (by decide)), e, p_in (show 5 * w + k < 15 by omega) (by decide), if_pos rfl, nI_clamp (by omega), q_gr g0 p 1 d su le (a := 11) (by decide), if_pos h2]
  | c :: l, k, p, F + 1, h, hF, hp => by
    obtain ⟨h1, h2, h3, h4⟩ := h
    have h2' : g0.1 11 (5 * w + k) = c := h2
    have e : (5 : Int32) * nI w + nI k = nI (5 * w + k) := by
      show nI 5 * nI w + _ = _
      rw [pk_mul, nI_add]
    have hF' : l.length < F := by simp at hF; omega
    rw [fX12_clause_47, if_neg (show ¬ (5 : Int32) ≤ nI k from nI_ge (b := 5) h1 (by decide)), e, p_in (show 5 * w + k < 15 by omega) (by decide), if_pos rfl, nI_clamp (by omega), q_gr g0 p 1 d su le (a := 11) (by decide), h2', if_neg h3, m_takes B hp, Option.bind_some, c_let_d, nI_1]
    unfold s_wd
    by_cases hs : s_at t n p c = true
    · rw [if_pos hs, if_pos hs]
      exact m_47 B hw l (k + 1) (p + 1) F h4 hF' (s_at_iff.mp hs).1
    · rw [if_neg hs, if_neg hs]
      exact m_47D hw l (k + 1) F h4 hF'
theorem m_clauseL {g0 : c_G} {t : Nat → Int32} {n p d : Nat} {su le : Int32} (B : q_B g0 t n) (hp : p ≤ n) : fX12_clause (q_G g0 p 1 d su le) = if s_at t n p 115 = true then fX12_clause_47 c_F (nI 0) (nI 0) (q_G g0 p 1 d su le) else if s_at t n p 106 = true then fX12_clause_47 c_F (nI 1) (nI 0) (q_G g0 p 1 d su le) else if s_at t n p 108 = true then fX12_clause_47 c_F (nI 2) (nI 0) (q_G g0 p 1 d su le) else some (q_G g0 p 0 d su le) := by
  have k0 := B.2.2.2.2.1
  have t0 : g0.1 10 0 = 115 := k0 0 (by decide)
  have t1 : g0.1 10 1 = 106 := k0 1 (by decide)
  have t2 : g0.1 10 2 = 108 := k0 2 (by decide)
  have step : ∀ (F k : Nat) (y : Int32), k < 3 → fX12_clause_4 (F + 1) y (nI k) (q_G g0 p 1 d su le) = fX12_clause_4 F (if s_at t n p (g0.1 10 k) = true then nI k else y) (nI (k + 1)) (q_G g0 p 1 d su le) := by
    intro F k y hk
    rw [fX12_clause_4, if_neg (show ¬ (3 : Int32) ≤ nI k from nI_ge (b := 3) hk (by decide)), p_in hk (by decide), if_pos rfl, nI_clamp (by omega), q_gr g0 p 1 d su le (a := 10) (by decide), m_isAt B hp, Option.bind_some]
    unfold fX12_clause_27
    by_cases q : s_at t n p (g0.1 10 k) = true
    · rw [if_pos q, if_neg i10, c_let_d, nI_1, if_pos q]
    · rw [if_neg q, if_pos rfl, c_let_d, nI_1, if_neg q]
  have fin : ∀ (F : Nat) (y : Int32), fX12_clause_4 (F + 1) y (nI 3) (q_G g0 p 1 d su le) = if y = -1 then some (q_G g0 p 0 d su le) else fX12_clause_47 c_F y 0 (q_G g0 p 1 d su le) := by
    intro F y
    rw [fX12_clause_4, if_pos (show (3 : Int32) ≤ nI 3 by decide), c_let_d, q_G_12z]
  have hx : ∀ c, s_at t n p c = true → t p = c := fun c z => (s_at_iff.mp z).2
  have ne : ∀ a b : Int32, ¬ a = b → s_at t n p a = true → ¬ s_at t n p b = true := fun a b hab z1 z2 => hab ((hx a z1).symm.trans (hx b z2))
  unfold fX12_clause
  rw [show c_F = 4995 + 5 from rfl, show (0 : Int32) = nI 0 from rfl, step _ 0 _ (by decide), step _ 1 _ (by decide), step _ 2 _ (by decide), fin, t0, t1, t2]
  by_cases h0 : s_at t n p 115 = true
  · rw [if_neg (ne 115 108 (by decide) h0), if_neg (ne 115 106 (by decide) h0), if_pos h0, if_neg (show ¬ nI 0 = -1 by decide), if_pos h0]
    rfl
  · rw [if_neg h0, if_neg h0]
    by_cases h1 : s_at t n p 106 = true
    · rw [if_neg (ne 106 108 (by decide) h1), if_pos h1, if_neg (show ¬ nI 1 = -1 by decide), if_pos h1]
      rfl
    · rw [if_neg h1, if_neg h1]
      by_cases h2 : s_at t n p 108 = true
      · rw [if_pos h2, if_neg (show ¬ nI 2 = -1 by decide), if_pos h2]
        rfl
      · rw [if_neg h2, if_pos rfl, if_neg h2]
/-- a clause by its word -/
theorem s_clause_E {t : Nat → Int32} {n p : Nat} : s_clause t n p = if s_at t n p 115 = true then (match s_wd t n [115, 117, 105, 116] p with
      | .ok q => s_E t n 1 q
      | .error q => .error q) else if s_at t n p 106 = true then (match s_wd t n [106, 97, 114] p with
      | .ok q => s_E t n (-1) q
      | .error q => .error q) else (match s_wd t n [108, 101, 97, 114, 110] p with
      | .ok q => s_Ln t n q
      | .error q => .error q) := by
  have a1 := s_wd_app (t := t) (n := n) 32 [115, 117, 105, 116] p
  have a2 := s_wd_app (t := t) (n := n) 32 [106, 97, 114] p
  have a3 := s_wd_app (t := t) (n := n) 32 [108, 101, 97, 114, 110] p
  simp only [List.cons_append, List.nil_append] at a1 a2 a3
  unfold s_clause
  simp only [a1, a2, a3]
  by_cases h0 : s_at t n p 115 = true
  · rw [if_pos h0, if_pos h0]
    cases s_wd t n [115, 117, 105, 116] p with
    | error q => rfl
    | ok q =>
      unfold s_E
      by_cases h : s_at t n q 32 = true
      · simp only [h, ↓reduceIte]
        rfl
      · simp only [h, ↓reduceIte]
        rfl
  · rw [if_neg h0, if_neg h0]
    by_cases h1 : s_at t n p 106 = true
    · rw [if_pos h1, if_pos h1]
      cases s_wd t n [106, 97, 114] p with
      | error q => rfl
      | ok q =>
        unfold s_E
        by_cases h : s_at t n q 32 = true
        · simp only [h, ↓reduceIte]
          rfl
        · simp only [h, ↓reduceIte]
          rfl
    · rw [if_neg h1, if_neg h1]
      cases s_wd t n [108, 101, 97, 114, 110] p with
      | error q => rfl
      | ok q =>
        unfold s_Ln
        by_cases h : s_at t n q 32 = true
        · simp only [h, ↓reduceIte]
          rfl
        · simp only [h, ↓reduceIte]
          rfl
theorem s_okC_mono {n p p' : Nat} {S : Except Nat (((Nat → Int32) → Int32) × Option Int32 × Nat)} (h : s_okC n p S) (hp : p' ≤ p) : s_okC n p' S := by
  cases S with
  | error q => exact ⟨Nat.le_trans hp h.1, h.2⟩
  | ok z => exact ⟨Nat.le_trans hp h.1, h.2⟩
theorem m_clause {g0 : c_G} {t : Nat → Int32} {n p d : Nat} {su le : Int32} (B : q_B g0 t n) (hp : p ≤ n) : s_okC n p (s_clause t n p) ∧ q_resC g0 su le (s_clause t n p) (fX12_clause (q_G g0 p 1 d su le)) := by
  have k0 := B.2.2.2.2.2.1
  have T : ∀ j, j < 15 → g0.1 11 j = ([115, 117, 105, 116, 0, 106, 97, 114, 0, 0, 108, 101, 97, 114, 110] : List Int32).getD j 0 := k0
  have w0 : q_isW (fun k => g0.1 11 (5 * 0 + k)) [115, 117, 105, 116] 0 := ⟨by decide, T 0 (by decide), by decide, by decide, T 1 (by decide), by decide, by decide, T 2 (by decide), by decide, by decide, T 3 (by decide), by decide, Or.inr ⟨by decide, T 4 (by decide)⟩⟩
  have w1 : q_isW (fun k => g0.1 11 (5 * 1 + k)) [106, 97, 114] 0 := ⟨by decide, T 5 (by decide), by decide, by decide, T 6 (by decide), by decide, by decide, T 7 (by decide), by decide, Or.inr ⟨by decide, T 8 (by decide)⟩⟩
  have w2 : q_isW (fun k => g0.1 11 (5 * 2 + k)) [108, 101, 97, 114, 110] 0 := ⟨by decide, T 10 (by decide), by decide, by decide, T 11 (by decide), by decide, by decide, T 12 (by decide), by decide, by decide, T 13 (by decide), by decide, by decide, T 14 (by decide), by decide, Or.inl rfl⟩
  rw [s_clause_E, m_clauseL B hp]
  have dead : ∀ q w, p ≤ q → q ≤ n → s_okC n p (.error q) ∧ q_resC g0 su le (.error q) (fX12_clause_85 (nI w) (q_G g0 q 0 d su le)) := fun q w h1 h2 => ⟨⟨h1, h2⟩, m_85D⟩
  by_cases h0 : s_at t n p 115 = true
  · rw [if_pos h0, if_pos h0, m_47 B (by decide) [115, 117, 105, 116] 0 p c_F w0 (by decide) hp]
    have ho := s_wd_ok (t := t) (n := n) [115, 117, 105, 116] p hp
    cases e : s_wd t n [115, 117, 105, 116] p with
    | error q => rw [e] at ho; exact dead q 0 ho.1 ho.2
    | ok q =>
      rw [e] at ho
      obtain ⟨z1, z2⟩ := m_85E (d := d) (su := su) (le := le) B ho.2 1 (w := 0) (Or.inl ⟨rfl, rfl⟩)
      exact ⟨s_okC_mono z1 ho.1, z2⟩
  · rw [if_neg h0, if_neg h0]
    by_cases h1 : s_at t n p 106 = true
    · rw [if_pos h1, if_pos h1, m_47 B (by decide) [106, 97, 114] 0 p c_F w1 (by decide) hp]
      have ho := s_wd_ok (t := t) (n := n) [106, 97, 114] p hp
      cases e : s_wd t n [106, 97, 114] p with
      | error q => rw [e] at ho; exact dead q 1 ho.1 ho.2
      | ok q =>
        rw [e] at ho
        obtain ⟨z1, z2⟩ := m_85E (d := d) (su := su) (le := le) B ho.2 (-1) (w := 1) (Or.inr ⟨rfl, rfl⟩)
        exact ⟨s_okC_mono z1 ho.1, z2⟩
    · rw [if_neg h1, if_neg h1]
      by_cases h2 : s_at t n p 108 = true
      · rw [if_pos h2, m_47 B (by decide) [108, 101, 97, 114, 110] 0 p c_F w2 (by decide) hp]
        have ho := s_wd_ok (t := t) (n := n) [108, 101, 97, 114, 110] p hp
        cases e : s_wd t n [108, 101, 97, 114, 110] p with
        | error q => rw [e] at ho; exact dead q 2 ho.1 ho.2
        | ok q =>
          rw [e] at ho
          obtain ⟨z1, z2⟩ := m_85L (d := d) (su := su) (le := le) B ho.2
          exact ⟨s_okC_mono z1 ho.1, z2⟩
      · rw [if_neg h2]
        have e : s_wd t n [108, 101, 97, 114, 110] p = .error p := by
          unfold s_wd
          rw [if_neg h2]
        rw [e]
        exact ⟨⟨Nat.le_refl _, hp⟩, _, _, _, rfl⟩
/-! the whole text -/
def q_resA (g0 : c_G) (n : Nat) (su0 : Int32) (S : Except Nat (((Nat → Int32) → Int32) × Int32)) (o : Option (c_G × Int32)) : Prop :=
  match S with
  | .ok (W, L) => ∃ d, o = some (q_G g0 n 1 d (su0 + W (g0.1 8)) L, 1)
  | .error q => q ≤ n ∧ ∃ w d su le, o = some (q_G g0 q w d su le, 0)
theorem m_66D {g0 : c_G} {q d : Nat} {su le : Int32} : fX12_readAll_66 (q_G g0 q 0 d su le) = some (q_G g0 q 0 d su le, 0) := by
  unfold fX12_readAll_66
  rw [q_g12, if_pos (show nI 0 = 0 from rfl)]
theorem m_31D {g0 : c_G} {q d f : Nat} {su le x : Int32} : fX12_readAll_31 (f + 1) x (q_G g0 q 0 d su le) = some (q_G g0 q 0 d su le, 0) := by
  rw [fX12_readAll_31]
  split
  · exact m_66D
  · rw [m_isAtD, Option.bind_some, if_pos rfl]
    exact m_66D
theorem m_66 {g0 : c_G} {t : Nat → Int32} {n q d : Nat} {su le : Int32} (B : q_B g0 t n) (hq : q ≤ n) : fX12_readAll_66 (q_G g0 q 1 d su le) = some (q_G g0 q 1 d su le, if q = n then 1 else 0) := by
  have hn := B.1
  unfold fX12_readAll_66
  rw [q_g12, q_g11, q_g10, B.2.1, if_neg (show ¬ nI 1 = 0 by decide)]
  by_cases e : q = n
  · subst e
    rw [if_pos rfl, if_pos rfl]
  · rw [if_neg (fun z => e ((nI_eq (by omega) (by omega)).mp z)), if_neg e]
theorem m_allL {g0 : c_G} {t : Nat → Int32} {n : Nat} {su0 : Int32} (B : q_B g0 t n) : ∀ (k many p F d : Nat) (w : (Nat → Int32) → Int32) (z : Int32), many + k + 1 = 10 → k < F → p ≤ n →
    q_resA g0 n su0 (s_all t n (k + 1) w z p) ((fX12_clause (q_G g0 p 1 d (su0 + w (g0.1 8)) z)).bind fun g => fX12_readAll_31 F (nI (many + 1)) g) := by
  intro k
  induction k with
  | zero =>
    intro many p F d w z h1 h2 hp
    obtain ⟨F, rfl⟩ : ∃ x, F = x + 1 := ⟨F - 1, by omega⟩
    obtain ⟨ok, res⟩ := m_clause (d := d) (su := su0 + w (g0.1 8)) (le := z) B hp
    unfold s_all
    cases e : s_clause t n p with
    | error q =>
      rw [e] at ok res
      obtain ⟨d', su', le', eq⟩ := res
      rw [eq, Option.bind_some]
      exact ⟨ok.2, _, _, _, _, m_31D⟩
    | ok y =>
      obtain ⟨u, y, q⟩ := y
      rw [e] at ok res
      obtain ⟨d', eq⟩ := res
      have okq : q ≤ n := ok.2
      rw [eq, Option.bind_some, fX12_readAll_31, if_pos (show (10 : Int32) ≤ nI (many + 1) from nI_le (a := 10) (by omega) (by omega)), m_66 B okq]
      show q_resA g0 n su0 (if n ≤ q then .ok (fun e => w e + u e, y.getD z) else if 0 = 0 then .error q else _) _
      by_cases hq : n ≤ q
      · obtain rfl : q = n := by omega
        rw [if_pos hq, if_pos rfl]
        exact ⟨d', by rw [Int32.add_assoc]⟩
      · rw [if_neg hq, if_pos rfl, if_neg (by omega)]
        exact ⟨okq, _, _, _, _, rfl⟩
  | succ k ih =>
    intro many p F d w z h1 h2 hp
    obtain ⟨F, rfl⟩ : ∃ x, F = x + 1 := ⟨F - 1, by omega⟩
    obtain ⟨ok, res⟩ := m_clause (d := d) (su := su0 + w (g0.1 8)) (le := z) B hp
    rw [s_all]
    cases e : s_clause t n p with
    | error q =>
      rw [e] at ok res
      obtain ⟨d', su', le', eq⟩ := res
      rw [eq, Option.bind_some]
      exact ⟨ok.2, _, _, _, _, m_31D⟩
    | ok y =>
      obtain ⟨u, y, q⟩ := y
      rw [e] at ok res
      obtain ⟨d', eq⟩ := res
      have okq : q ≤ n := ok.2
      rw [eq, Option.bind_some, fX12_readAll_31, if_neg (show ¬ (10 : Int32) ≤ nI (many + 1) from nI_ge (b := 10) (by omega) (by decide)), m_isAt B okq, Option.bind_some]
      show q_resA g0 n su0 (if n ≤ q then .ok (fun e => w e + u e, y.getD z) else if k + 1 = 0 then .error q else if s_at t n q 59 = true then s_all t n (k + 1) (fun e => w e + u e) (y.getD z) (q + 1) else .error q) _
      by_cases hq : n ≤ q
      · obtain rfl : q = n := by omega
        rw [if_pos hq, if_neg s_atn, if_pos rfl, m_66 B okq, if_pos rfl]
        exact ⟨d', by rw [Int32.add_assoc]⟩
      · rw [if_neg hq, if_neg (by omega)]
        by_cases hs : s_at t n q 59 = true
        · rw [if_pos hs, if_pos hs, if_neg i10, c_let_d, c_let_d, q_g11, nI_1, q_G_11]
          have := ih (many + 1) (q + 1) F d' (fun e => w e + u e) (y.getD z) (by omega) (by omega) (s_at_iff.mp hs).1
          rw [← Int32.add_assoc] at this
          rw [show nI (many + 1) + 1 = nI (many + 1 + 1) from nI_1 _] at *
          exact this
        · rw [if_neg hs, if_neg hs, if_pos rfl, m_66 B okq, if_neg (by omega)]
          exact ⟨okq, _, _, _, _, rfl⟩
theorem q_nat (x : Int32) : ∃ d : Nat, x = nI d := ⟨x.toBitVec.toNat, by
  apply Int32.toBitVec_inj.mp
  apply BitVec.eq_of_toNat_eq
  rw [pk_tn x.toBitVec.isLt]⟩
theorem q_G_start (g : c_G) {d : Nat} (x : Int32) (hd : g.1 0 13 = nI d) : c_si (c_si (c_si (c_si g 0 11 0) 0 12 1) 0 14 x) 0 15 0 = q_G g 0 1 d x 0 := by
  refine Prod.ext (funext fun a => funext fun j => ?_) rfl
  rw [p_si, p_si, p_si, p_si]
  show _ = if a = 0 then (if j = 11 then nI 0 else if j = 12 then nI 1 else if j = 13 then nI d else if j = 14 then x else if j = 15 then 0 else g.1 0 j) else g.1 a j
  by_cases e : a = 0
  · subst e
    simp only [true_and, ↓reduceIte]
    by_cases h15 : j = 15
    · subst h15; rfl
    · by_cases h14 : j = 14
      · subst h14; rfl
      · by_cases h12 : j = 12
        · subst h12; rfl
        · by_cases h11 : j = 11
          · subst h11; rfl
          · by_cases h13 : j = 13
            · subst h13; simp [hd]
            · simp [h11, h12, h13, h14, h15]
  · simp [e]
theorem m_readAll {g : c_G} {t : Nat → Int32} {n : Nat} (B : q_B g t n) : q_resA g n (g.1 8 4) (s_text t n) (fX12_readAll g) := by
  obtain ⟨d, hd⟩ := q_nat (g.1 0 13)
  have h := m_allL (su0 := g.1 8 4) B 9 0 0 c_F d (fun _ => 0) 0 (by decide) (by decide) (Nat.zero_le _)
  unfold fX12_readAll
  rw [c_let_d, c_let_d, c_let_d, c_let_d, p_si_ne _ _ _ _ (by omega), p_si_ne _ _ _ _ (by omega), q_G_start g _ hd]
  rw [show g.1 8 4 + (fun _ : Nat → Int32 => (0 : Int32)) (g.1 8) = g.1 8 4 from Int32.add_zero _] at h
  exact h
