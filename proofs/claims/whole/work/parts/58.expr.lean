/-! PURE: the reference reads an expression as it is meant -/
theorem c_b2s {α β : Type} (g : c_G) (r : α) (k : c_G → α → Option β) : c_b2 (some (g, r)) k = k g r := rfl
theorem q_if1 {α : Type} {P : Prop} [Decidable P] {R : α → Prop} {x y : α} (hx : R x) (hy : R y) : R (if P then x else y) := by
  split
  · exact hx
  · exact hy
theorem q_dec {d : Nat} (h : d < 5) : nI (d + 1) - 1 = nI d := by
  rcases (show d = 0 ∨ d = 1 ∨ d = 2 ∨ d = 3 ∨ d = 4 by omega) with rfl | rfl | rfl | rfl | rfl <;> decide
theorem m_106 {g0 : c_G} {t : Nat → Int32} {n p d a r : Nat} {su le : Int32} (B : q_B g0 t n) (hp : p ≤ n) (ha : a < 6) (c x2 : Int32) (hr : (r = 0 ∧ x2 = -1) ∨ (r = 1 ∧ x2 = 0) ∨ (r = 2 ∧ x2 = 1)) (hs : s_at t n p c = true) :
    q_res g0 d su le (match s_num t n (p + 1) with
      | .error q => .error q
      | .ok (x, q) => .ok (fun e => s_cmp r (e a) x, q)) (fX12_test_106 (nI a) x2 c (q_G g0 p 1 d su le)) := by
  have ha6 : c_in (nI a) 6 = true := p_in ha (by decide)
  unfold fX12_test_106
  rw [m_takes B hp, Option.bind_some, if_pos hs, m_number B (by have := (s_at_iff.mp hs).1; omega)]
  cases s_num t n (p + 1) with
  | error q =>
    show ∃ r, c_bo r = true ∧ c_b2 (some (q_G g0 q 0 d su le, (0 : Int32))) _ = some (q_G g0 q 0 d su le, r)
    rw [c_b2s]
    rcases hr with ⟨-, rfl⟩ | ⟨-, rfl⟩ | ⟨-, rfl⟩
    · simp only [show ¬ (0 : Int32) ≤ -1 by decide, ha6, ↓reduceIte]
      split <;> exact ⟨_, rfl, rfl⟩
    · simp only [show (0 : Int32) ≤ 0 by decide, ha6, ↓reduceIte]
      split <;> exact ⟨_, rfl, rfl⟩
    · simp only [show (0 : Int32) ≤ 1 by decide, show ¬ (1 : Int32) ≤ 0 by decide, ha6, ↓reduceIte]
      split <;> exact ⟨_, rfl, rfl⟩
  | ok z =>
    obtain ⟨x, q⟩ := z
    show c_b2 (some (q_G g0 q 1 d su le, x)) _ = some (q_G g0 q 1 d su le, if s_cmp r (g0.1 8 a) x = true then 1 else 0)
    rw [c_b2s]
    rcases hr with ⟨rfl, rfl⟩ | ⟨rfl, rfl⟩ | ⟨rfl, rfl⟩
    · simp only [show ¬ (0 : Int32) ≤ -1 by decide, ha6, nI_clamp (show a < 2 ^ 31 by omega), q_gr g0 q 1 d su le (a := 8) (by decide), ↓reduceIte]
      rw [show s_cmp 0 (g0.1 8 a) x = decide (g0.1 8 a < x) from rfl]
      by_cases z : g0.1 8 a < x
      · rw [if_neg (p_lnl z), if_pos (decide_eq_true z)]
      · rw [if_pos (Int32.not_lt.mp z), if_neg (fun y => z (of_decide_eq_true y))]
    · simp only [show (0 : Int32) ≤ 0 by decide, ha6, nI_clamp (show a < 2 ^ 31 by omega), q_gr g0 q 1 d su le (a := 8) (by decide), ↓reduceIte]
      rw [show s_cmp 1 (g0.1 8 a) x = decide (g0.1 8 a = x) from rfl]
      by_cases z : g0.1 8 a = x
      · rw [if_pos z, if_pos (decide_eq_true z)]
      · rw [if_neg z, if_neg (fun y => z (of_decide_eq_true y))]
    · simp only [show (0 : Int32) ≤ 1 by decide, show ¬ (1 : Int32) ≤ 0 by decide, ha6, nI_clamp (show a < 2 ^ 31 by omega), q_gr g0 q 1 d su le (a := 8) (by decide), ↓reduceIte]
      rw [show s_cmp 2 (g0.1 8 a) x = decide (x < g0.1 8 a) from rfl]
      by_cases z : x < g0.1 8 a
      · rw [if_neg (p_lnl z), if_pos (decide_eq_true z)]
      · rw [if_pos (Int32.not_lt.mp z), if_neg (fun y => z (of_decide_eq_true y))]
/-- the sign of a relation isn't there -/
theorem m_106n {g0 : c_G} {t : Nat → Int32} {n p d a : Nat} {su le : Int32} (B : q_B g0 t n) (hp : p ≤ n) (ha : a < 6) (hs : ¬ s_at t n p 61 = true) :
    ∃ r, c_bo r = true ∧ fX12_test_106 (nI a) 0 61 (q_G g0 p 1 d su le) = some (q_G g0 p 0 d su le, r) := by
  unfold fX12_test_106
  rw [m_takes B hp, Option.bind_some, if_neg hs, m_numberD, c_b2s]
  simp only [show (0 : Int32) ≤ 0 by decide, p_in ha (show 6 < 2 ^ 31 by decide), ↓reduceIte]
  split <;> exact ⟨_, rfl, rfl⟩
theorem m_test {g0 : c_G} {t : Nat → Int32} {n p d : Nat} {su le : Int32} (B : q_B g0 t n) (hp : p ≤ n) : q_res g0 d su le (s_test t n p) (fX12_test (q_G g0 p 1 d su le)) := by
  unfold fX12_test
  rw [show c_F = 4993 + 7 from rfl, m_testL B hp 0 4993]
  unfold s_test
  cases e1 : s_let t n p with
  | none =>
    refine ⟨0, rfl, ?_⟩
    show fX12_test_4 (4993 + 1) (-1) 6 (q_G g0 p 1 d su le) = _
    rw [fX12_test_4, if_pos (by decide), if_pos rfl, c_let_d, ← nI_0, q_G_12]
  | some a =>
    obtain ⟨ha, hl0⟩ := s_let_lt e1
    have hl : p + 1 ≤ n := hl0
    show q_res g0 d su le (match s_rel t n (p + 1) with
      | none => .error (p + 1)
      | some r => match s_num t n (p + 1 + 1) with
        | .error q => .error q
        | .ok (x, q) => .ok (fun e => s_cmp r (e a) x, q)) (fX12_test_4 (4993 + 1) (nI a) 6 (q_G g0 p 1 d su le))
    rw [fX12_test_4, if_pos (by decide), if_neg (p_mN (show a < 2 ^ 31 by omega)), c_let_d, c_let_d, q_g11, nI_1, q_G_11, m_isAt B hl, Option.bind_some]
    unfold s_rel
    by_cases h60 : s_at t n (p + 1) 60 = true
    · rw [if_pos h60, if_pos h60, if_neg i10]
      unfold fX12_test_84
      rw [if_neg (show ¬ (0 : Int32) ≤ -1 by decide)]
      exact m_106 B hl ha 60 (-1) (Or.inl ⟨rfl, rfl⟩) h60
    · rw [if_neg h60, if_neg h60, if_pos rfl, m_isAt B hl, Option.bind_some]
      have hx : ∀ c, s_at t n (p + 1) c = true → t (p + 1) = c := fun c z => (s_at_iff.mp z).2
      by_cases h62 : s_at t n (p + 1) 62 = true
      · have h61 : ¬ s_at t n (p + 1) 61 = true := fun z => by
          have := (hx _ z).symm.trans (hx _ h62)
          exact absurd this (by decide)
        rw [if_pos h62, if_pos h62, if_neg i10, if_neg h61]
        unfold fX12_test_84
        rw [if_pos (show (0 : Int32) ≤ 1 by decide), if_neg (show ¬ (1 : Int32) ≤ 0 by decide)]
        exact m_106 B hl ha 62 1 (Or.inr (Or.inr ⟨rfl, rfl⟩)) h62
      · rw [if_neg h62, if_neg h62, if_pos rfl]
        unfold fX12_test_84
        rw [if_pos (show (0 : Int32) ≤ 0 by decide), if_pos (show (0 : Int32) ≤ 0 by decide)]
        by_cases h61 : s_at t n (p + 1) 61 = true
        · rw [if_pos h61]
          exact m_106 B hl ha 61 0 (Or.inr (Or.inl ⟨rfl, rfl⟩)) h61
        · rw [if_neg h61]
          exact m_106n B hl ha h61
theorem m_testD {g0 : c_G} {p d : Nat} {su le : Int32} : fX12_test (q_G g0 p 0 d su le) = some (q_G g0 p 0 d su le, 0) := by
  have step : ∀ (F k : Nat), k < 6 → fX12_test_4 (F + 1) (-1) (nI k) (q_G g0 p 0 d su le) = fX12_test_4 F (-1) (nI (k + 1)) (q_G g0 p 0 d su le) := by
    intro F k hk
    rw [fX12_test_4, if_neg (show ¬ (6 : Int32) ≤ nI k from nI_ge (b := 6) hk (by decide)), p_in hk (by decide), if_pos rfl, m_isAtD, Option.bind_some, if_pos rfl]
    unfold fX12_test_28
    rw [c_let_d, nI_1]
  unfold fX12_test
  rw [show c_F = 4993 + 7 from rfl, show (0 : Int32) = nI 0 from rfl, step _ 0 (by decide), step _ 1 (by decide), step _ 2 (by decide), step _ 3 (by decide), step _ 4 (by decide), step _ 5 (by decide), fX12_test_4, if_pos (by decide), if_pos rfl, c_let_d, show (0 : Int32) = nI 0 from rfl, q_G_12]
/-! loops over & and | -/
def s_okw (n p : Nat) (S : Except Nat (s_V × Nat)) : Prop :=
  match S with
  | .ok (_, q) => p ≤ q ∧ q ≤ n
  | .error q => p ≤ q ∧ q ≤ n
theorem s_okw_mono {n p p' : Nat} {S : Except Nat (s_V × Nat)} (h : s_okw n p S) (hp : p' ≤ p) : s_okw n p' S := by
  cases S with
  | error q => exact ⟨Nat.le_trans hp h.1, h.2⟩
  | ok z => exact ⟨Nat.le_trans hp h.1, h.2⟩
def q_FM (g0 : c_G) (n d : Nat) (su le : Int32) (S : Nat → Except Nat (s_V × Nat)) (f : c_G → Option (c_G × Int32)) : Prop := ∀ p, p ≤ n → s_ok n p (S p) ∧ q_res g0 d su le (S p) (f (q_G g0 p 1 d su le))
theorem m_both5D (F : Nat → c_G → Option (c_G × Int32)) {g0 : c_G} {p d f : Nat} {su le b : Int32} (hb : c_bo b = true) : fX12_both_5 F (f + 1) b (q_G g0 p 0 d su le) = some (q_G g0 p 0 d su le, b) := by
  rw [fX12_both_5, m_isAtD, Option.bind_some, if_pos rfl, if_pos hb]
theorem m_any5D (F : Nat → c_G → Option (c_G × Int32)) {g0 : c_G} {p d f : Nat} {su le b : Int32} (hb : c_bo b = true) : fX12_any_5 F (f + 1) b (q_G g0 p 0 d su le) = some (q_G g0 p 0 d su le, b) := by
  rw [fX12_any_5, m_isAtD, Option.bind_some, if_pos rfl, if_pos hb]
theorem s_atn {t : Nat → Int32} {n : Nat} {c : Int32} : ¬ s_at t n n c = true := fun z => Nat.lt_irrefl n (s_at_iff.mp z).1
theorem m_bothL {F : Nat → c_G → Option (c_G × Int32)} {g0 : c_G} {t : Nat → Int32} {n d : Nat} {su le : Int32} (B : q_B g0 t n) {S : Nat → Except Nat (s_V × Nat)} (hF : q_FM g0 n d su le S (F 2)) :
    ∀ (k p f : Nat) (v : s_V), n - p ≤ k → k < f → p ≤ n → s_okw n p (s_bothL t n S k v p) ∧ q_res g0 d su le (s_bothL t n S k v p) (fX12_both_5 F f (if v (g0.1 8) = true then 1 else 0) (q_G g0 p 1 d su le)) := by
  have stop : ∀ (p f : Nat) (v : s_V), p ≤ n → ¬ s_at t n p 38 = true → fX12_both_5 F (f + 1) (if v (g0.1 8) = true then 1 else 0) (q_G g0 p 1 d su le) = some (q_G g0 p 1 d su le, if v (g0.1 8) = true then 1 else 0) := by
    intro p f v hp hs
    rw [fX12_both_5, m_isAt B hp, Option.bind_some, if_neg hs, if_pos rfl, if_pos c_bo01]
  intro k
  induction k with
  | zero =>
    intro p f v h1 h2 hp
    obtain ⟨f, rfl⟩ : ∃ x, f = x + 1 := ⟨f - 1, by omega⟩
    obtain rfl : p = n := by omega
    exact ⟨⟨Nat.le_refl _, Nat.le_refl _⟩, stop p f v hp s_atn⟩
  | succ k ih =>
    intro p f v h1 h2 hp
    obtain ⟨f, rfl⟩ : ∃ x, f = x + 1 := ⟨f - 1, by omega⟩
    unfold s_bothL
    by_cases hs : s_at t n p 38 = true
    · have hl : p < n := (s_at_iff.mp hs).1
      obtain ⟨ok, res⟩ := hF (p + 1) hl
      rw [if_pos hs, fX12_both_5, m_isAt B hp, Option.bind_some, if_pos hs, if_neg i10, c_let_d, c_let_d, q_g11, nI_1, q_G_11]
      cases e : S (p + 1) with
      | error q =>
        rw [e] at ok res
        obtain ⟨r, hr, eq⟩ := res
        obtain ⟨f, rfl⟩ : ∃ x, f = x + 1 := ⟨f - 1, by omega⟩
        refine ⟨⟨by have := ok.1; omega, ok.2⟩, ?_⟩
        rw [eq, c_b2s]
        unfold fX12_both_41 fX12_both_42
        show q_res g0 d su le (.error q) _
        have go : ∀ b, c_bo b = true → q_res g0 d su le (.error q) (fX12_both_5 F (f + 1) b (q_G g0 q 0 d su le)) := fun b hb => ⟨b, hb, m_both5D F hb⟩
        exact q_if1 (R := q_res g0 d su le (.error q)) (go 0 rfl) (q_if1 (R := q_res g0 d su le (.error q)) (go 0 rfl) (go 1 rfl))
      | ok z =>
        obtain ⟨w, q⟩ := z
        rw [e] at ok res
        have eq : F 2 (q_G g0 (p + 1) 1 d su le) = some (q_G g0 q 1 d su le, if w (g0.1 8) = true then 1 else 0) := res
        have ok1 : p + 1 < q := ok.1
        obtain ⟨o1, o2⟩ := ih q f (fun e => v e && w e) (by omega) (by omega) ok.2
        refine ⟨s_okw_mono o1 (by omega), ?_⟩
        rw [eq, c_b2s]
        unfold fX12_both_41 fX12_both_42
        have ee : (if (if v (g0.1 8) = true then (1 : Int32) else 0) = 0 then fX12_both_5 F f 0 (q_G g0 q 1 d su le) else if (if w (g0.1 8) = true then (1 : Int32) else 0) = 0 then fX12_both_5 F f 0 (q_G g0 q 1 d su le) else fX12_both_5 F f 1 (q_G g0 q 1 d su le)) = fX12_both_5 F f (if (v (g0.1 8) && w (g0.1 8)) = true then 1 else 0) (q_G g0 q 1 d su le) := by
          by_cases hv : v (g0.1 8) = true <;> by_cases hw : w (g0.1 8) = true <;> simp [hv, hw]
        rw [ee]
        exact o2
    · rw [if_neg hs]
      exact ⟨⟨Nat.le_refl _, hp⟩, stop p f v hp hs⟩
theorem m_both {F : Nat → c_G → Option (c_G × Int32)} {g0 : c_G} {t : Nat → Int32} {n d : Nat} {su le : Int32} (B : q_B g0 t n) {S : Nat → Except Nat (s_V × Nat)} (hF : q_FM g0 n d su le S (F 2)) : q_FM g0 n d su le (s_both t n S) (fX12_both F) := by
  intro p hp
  obtain ⟨ok, res⟩ := hF p hp
  unfold s_both fX12_both
  cases e : S p with
  | error q =>
    rw [e] at ok res
    obtain ⟨r, hr, eq⟩ := res
    refine ⟨ok, r, hr, ?_⟩
    rw [eq, c_b2s]
    exact m_both5D F hr
  | ok z =>
    obtain ⟨v, q⟩ := z
    rw [e] at ok res
    have eq : F 2 (q_G g0 p 1 d su le) = some (q_G g0 q 1 d su le, if v (g0.1 8) = true then 1 else 0) := res
    have ok1 : p < q := ok.1
    have hn := B.1
    obtain ⟨o1, o2⟩ := m_bothL B hF n q c_F v (by omega) (show n < 5000 by omega) ok.2
    rw [eq, c_b2s]
    refine ⟨?_, o2⟩
    show s_ok n p (s_bothL t n S n v q)
    cases e2 : s_bothL t n S n v q with
    | error z => rw [e2] at o1; exact ⟨by have := o1.1; omega, o1.2⟩
    | ok z => rw [e2] at o1; exact ⟨Nat.lt_of_lt_of_le ok1 o1.1, o1.2⟩
theorem m_anyL {F : Nat → c_G → Option (c_G × Int32)} {g0 : c_G} {t : Nat → Int32} {n d : Nat} {su le : Int32} (B : q_B g0 t n) {S : Nat → Except Nat (s_V × Nat)} (hF : q_FM g0 n d su le (s_both t n S) (F 1)) :
    ∀ (k p f : Nat) (v : s_V), n - p ≤ k → k < f → p ≤ n → s_okw n p (s_anyL t n S k v p) ∧ q_res g0 d su le (s_anyL t n S k v p) (fX12_any_5 F f (if v (g0.1 8) = true then 1 else 0) (q_G g0 p 1 d su le)) := by
  have stop : ∀ (p f : Nat) (v : s_V), p ≤ n → ¬ s_at t n p 124 = true → fX12_any_5 F (f + 1) (if v (g0.1 8) = true then 1 else 0) (q_G g0 p 1 d su le) = some (q_G g0 p 1 d su le, if v (g0.1 8) = true then 1 else 0) := by
    intro p f v hp hs
    rw [fX12_any_5, m_isAt B hp, Option.bind_some, if_neg hs, if_pos rfl, if_pos c_bo01]
  intro k
  induction k with
  | zero =>
    intro p f v h1 h2 hp
    obtain ⟨f, rfl⟩ : ∃ x, f = x + 1 := ⟨f - 1, by omega⟩
    obtain rfl : p = n := by omega
    exact ⟨⟨Nat.le_refl _, Nat.le_refl _⟩, stop p f v hp s_atn⟩
  | succ k ih =>
    intro p f v h1 h2 hp
    obtain ⟨f, rfl⟩ : ∃ x, f = x + 1 := ⟨f - 1, by omega⟩
    unfold s_anyL
    by_cases hs : s_at t n p 124 = true
    · have hl : p < n := (s_at_iff.mp hs).1
      obtain ⟨ok, res⟩ := hF (p + 1) hl
      rw [if_pos hs, fX12_any_5, m_isAt B hp, Option.bind_some, if_pos hs, if_neg i10, c_let_d, c_let_d, q_g11, nI_1, q_G_11]
      cases e : s_both t n S (p + 1) with
      | error q =>
        rw [e] at ok res
        obtain ⟨r, hr, eq⟩ := res
        obtain ⟨f, rfl⟩ : ∃ x, f = x + 1 := ⟨f - 1, by omega⟩
        refine ⟨⟨by have := ok.1; omega, ok.2⟩, ?_⟩
        rw [eq, c_b2s]
        unfold fX12_any_37 fX12_any_42
        show q_res g0 d su le (.error q) _
        have go : ∀ b, c_bo b = true → q_res g0 d su le (.error q) (fX12_any_5 F (f + 1) b (q_G g0 q 0 d su le)) := fun b hb => ⟨b, hb, m_any5D F hb⟩
        exact q_if1 (R := q_res g0 d su le (.error q)) (q_if1 (R := q_res g0 d su le (.error q)) (go 0 rfl) (go 1 rfl)) (go 1 rfl)
      | ok z =>
        obtain ⟨w, q⟩ := z
        rw [e] at ok res
        have eq : F 1 (q_G g0 (p + 1) 1 d su le) = some (q_G g0 q 1 d su le, if w (g0.1 8) = true then 1 else 0) := res
        have ok1 : p + 1 < q := ok.1
        obtain ⟨o1, o2⟩ := ih q f (fun e => v e || w e) (by omega) (by omega) ok.2
        refine ⟨s_okw_mono o1 (by omega), ?_⟩
        rw [eq, c_b2s]
        unfold fX12_any_37 fX12_any_42
        have ee : (if (if v (g0.1 8) = true then (1 : Int32) else 0) = 0 then (if (if w (g0.1 8) = true then (1 : Int32) else 0) = 0 then fX12_any_5 F f 0 (q_G g0 q 1 d su le) else fX12_any_5 F f 1 (q_G g0 q 1 d su le)) else fX12_any_5 F f 1 (q_G g0 q 1 d su le)) = fX12_any_5 F f (if (v (g0.1 8) || w (g0.1 8)) = true then 1 else 0) (q_G g0 q 1 d su le) := by
          by_cases hv : v (g0.1 8) = true <;> by_cases hw : w (g0.1 8) = true <;> simp [hv, hw]
        rw [ee]
        exact o2
    · rw [if_neg hs]
      exact ⟨⟨Nat.le_refl _, hp⟩, stop p f v hp hs⟩
theorem m_any {F : Nat → c_G → Option (c_G × Int32)} {g0 : c_G} {t : Nat → Int32} {n d : Nat} {su le : Int32} (B : q_B g0 t n) {S : Nat → Except Nat (s_V × Nat)} (hF : q_FM g0 n d su le (s_both t n S) (F 1)) : q_FM g0 n d su le (s_any t n S) (fX12_any F) := by
  intro p hp
  obtain ⟨ok, res⟩ := hF p hp
  unfold s_any fX12_any
  cases e : s_both t n S p with
  | error q =>
    rw [e] at ok res
    obtain ⟨r, hr, eq⟩ := res
    refine ⟨ok, r, hr, ?_⟩
    rw [eq, c_b2s]
    exact m_any5D F hr
  | ok z =>
    obtain ⟨v, q⟩ := z
    rw [e] at ok res
    have eq : F 1 (q_G g0 p 1 d su le) = some (q_G g0 q 1 d su le, if v (g0.1 8) = true then 1 else 0) := res
    have ok1 : p < q := ok.1
    have hn := B.1
    obtain ⟨o1, o2⟩ := m_anyL B hF n q c_F v (by omega) (show n < 5000 by omega) ok.2
    rw [eq, c_b2s]
    refine ⟨?_, o2⟩
    show s_ok n p (s_anyL t n S n v q)
    cases e2 : s_anyL t n S n v q with
    | error z => rw [e2] at o1; exact ⟨by have := o1.1; omega, o1.2⟩
    | ok z => rw [e2] at o1; exact ⟨Nat.lt_of_lt_of_le ok1 o1.1, o1.2⟩
/-! a factor -/
theorem m_124 (F : Nat → c_G → Option (c_G × Int32)) {g0 : c_G} {t : Nat → Int32} {n p d : Nat} {su le : Int32} (B : q_B g0 t n) (hp : p ≤ n) : s_ok n p (s_test t n p) ∧ q_res g0 d su le (s_test t n p) (fX12_factor_124 F (q_G g0 p 1 d su le)) := by
  refine ⟨s_test_ok hp, ?_⟩
  have h := m_test (d := d) (su := su) (le := le) B hp
  unfold fX12_factor_124
  cases e : s_test t n p with
  | error q =>
    rw [e] at h
    obtain ⟨r, hr, eq⟩ := h
    exact ⟨r, hr, by rw [eq, c_b2s, if_pos hr]⟩
  | ok z =>
    obtain ⟨v, q⟩ := z
    rw [e] at h
    have eq : fX12_test (q_G g0 p 1 d su le) = some (q_G g0 q 1 d su le, if v (g0.1 8) = true then 1 else 0) := h
    show c_b2 _ _ = _
    rw [eq, c_b2s, if_pos c_bo01]
theorem m_49 (F : Nat → c_G → Option (c_G × Int32)) {g0 : c_G} {q w d : Nat} {su le b : Int32} (hd : d < 5) (hb : c_bo b = true) : fX12_factor_49 F b (q_G g0 q w (d + 1) su le) = some (q_G g0 q w d su le, b) := by
  unfold fX12_factor_49
  rw [c_let_d, c_let_d, q_g13, q_dec hd, q_G_13, if_pos hb]
theorem fG3_0 (f : Nat) (g : c_G) : fG3 (f + 1) 0 g = fX12_any (fG3 f) g := rfl
theorem fG3_1 (f : Nat) (g : c_G) : fG3 (f + 1) 1 g = fX12_both (fG3 f) g := rfl
theorem fG3_2 (f : Nat) (g : c_G) : fG3 (f + 1) 2 g = fX12_factor (fG3 f) g := rfl
theorem m_factor {g0 : c_G} {t : Nat → Int32} {n : Nat} {su le : Int32} (B : q_B g0 t n) : ∀ (k d f : Nat), d + k = 4 → 1 + 3 * k ≤ f → q_FM g0 n d su le (s_fac t n k) (fG3 f 2)
  | 0, d, f, hd, hf => by
    intro p hp
    obtain ⟨f, rfl⟩ : ∃ x, f = x + 1 := ⟨f - 1, by omega⟩
    obtain rfl : d = 4 := by omega
    have e : fG3 (f + 1) 2 (q_G g0 p 1 4 su le) = fX12_factor_124 (fG3 f) (q_G g0 p 1 4 su le) := by
      rw [fG3_2]
      unfold fX12_factor fX12_factor_63
      rw [q_g13, if_pos (show (4 : Int32) ≤ nI 4 by decide), if_pos (show (4 : Int32) ≤ nI 4 by decide)]
    show s_ok n p (s_test t n p) ∧ q_res g0 4 su le (s_test t n p) (fG3 (f + 1) 2 (q_G g0 p 1 4 su le))
    rw [e]
    exact m_124 (fG3 f) B hp
  | k + 1, d, f, hd, hf => by
    intro p hp
    obtain ⟨f, rfl⟩ : ∃ x, f = x + 1 := ⟨f - 1, by omega⟩
    have hd4 : ¬ (4 : Int32) ≤ nI d := nI_ge (b := 4) (by omega) (by decide)
    have i1 := m_factor (su := su) (le := le) B k (d + 1) f (by omega) (by omega)
    obtain ⟨f2, hf2⟩ : ∃ x, f = x + 2 := ⟨f - 2, by omega⟩
    have i2 : q_FM g0 n (d + 1) su le (s_any t n (s_fac t n k)) (fG3 f 0) := by
      subst hf2
      have j0 := m_factor (su := su) (le := le) B k (d + 1) f2 (by omega) (by omega)
      have j1 : q_FM g0 n (d + 1) su le (s_both t n (s_fac t n k)) (fG3 (f2 + 1) 1) := m_both B j0
      exact m_any B j1
    show s_ok n p (s_fac t n (k + 1) p) ∧ q_res g0 d su le (s_fac t n (k + 1) p) (fX12_factor (fG3 f) (q_G g0 p 1 d su le))
    unfold s_fac fX12_factor
    rw [q_g13, if_neg hd4, m_isAt B hp, Option.bind_some]
    by_cases h33 : s_at t n p 33 = true
    · have hl : p < n := (s_at_iff.mp h33).1
      obtain ⟨ok, res⟩ := i1 (p + 1) hl
      rw [if_pos h33, if_pos h33, if_neg i10, c_let_d, c_let_d, c_let_d, c_let_d, q_g11, nI_1, q_G_11, q_g13, nI_1, q_G_13]
      cases e : s_fac t n k (p + 1) with
      | error q =>
        rw [e] at ok res
        obtain ⟨r, hr, eq⟩ := res
        refine ⟨⟨by have := ok.1; omega, ok.2⟩, ?_⟩
        rw [eq, c_b2s]
        show q_res g0 d su le (.error q) _
        split
        · exact ⟨1, rfl, m_49 _ (by omega) rfl⟩
        · exact ⟨0, rfl, m_49 _ (by omega) rfl⟩
      | ok z =>
        obtain ⟨v, q⟩ := z
        rw [e] at ok res
        have eq : fG3 f 2 (q_G g0 (p + 1) 1 (d + 1) su le) = some (q_G g0 q 1 (d + 1) su le, if v (g0.1 8) = true then 1 else 0) := res
        refine ⟨⟨by have := ok.1; omega, ok.2⟩, ?_⟩
        show c_b2 _ _ = some (q_G g0 q 1 d su le, if (!v (g0.1 8)) = true then 1 else 0)
        rw [eq, c_b2s]
        by_cases hv : v (g0.1 8) = true
        · rw [if_pos hv, if_neg i10, m_49 _ (by omega) rfl, hv]; rfl
        · rw [if_neg hv, if_pos rfl, m_49 _ (by omega) rfl, show v (g0.1 8) = false by simpa using hv]; rfl
    · rw [if_neg h33, if_neg h33, if_pos rfl]
      unfold fX12_factor_63
      rw [q_g13, if_neg hd4, m_isAt B hp, Option.bind_some]
      by_cases h40 : s_at t n p 40 = true
      · have hl : p < n := (s_at_iff.mp h40).1
        obtain ⟨ok, res⟩ := i2 (p + 1) hl
        rw [if_pos h40, if_pos h40, if_neg i10, c_let_d, c_let_d, c_let_d, c_let_d, q_g11, nI_1, q_G_11, q_g13, nI_1, q_G_13]
        cases e : s_any t n (s_fac t n k) (p + 1) with
        | error q =>
          rw [e] at ok res
          obtain ⟨r, hr, eq⟩ := res
          refine ⟨⟨by have := ok.1; omega, ok.2⟩, r, hr, ?_⟩
          rw [eq, c_b2s, c_let_d, c_let_d, q_g13, q_dec (by omega), q_G_13, m_takesD, Option.bind_some, if_pos hr]
        | ok z =>
          obtain ⟨v, q⟩ := z
          rw [e] at ok res
          have eq : fG3 f 0 (q_G g0 (p + 1) 1 (d + 1) su le) = some (q_G g0 q 1 (d + 1) su le, if v (g0.1 8) = true then 1 else 0) := res
          have okq : q ≤ n := ok.2
          have okp : p + 1 < q := ok.1
          rw [eq, c_b2s, c_let_d, c_let_d, q_g13, q_dec (by omega), q_G_13, m_takes B okq, Option.bind_some, if_pos c_bo01]
          by_cases h41 : s_at t n q 41 = true
          · rw [if_pos h41]
            show s_ok n p (if s_at t n q 41 = true then .ok (v, q + 1) else .error q) ∧ q_res g0 d su le (if s_at t n q 41 = true then .ok (v, q + 1) else .error q) _
            rw [if_pos h41]
            exact ⟨⟨by omega, (s_at_iff.mp h41).1⟩, rfl⟩
          · rw [if_neg h41]
            show s_ok n p (if s_at t n q 41 = true then .ok (v, q + 1) else .error q) ∧ q_res g0 d su le (if s_at t n q 41 = true then .ok (v, q + 1) else .error q) _
            rw [if_neg h41]
            exact ⟨⟨by omega, okq⟩, _, c_bo01, rfl⟩
      · rw [if_neg h40, if_neg h40, if_pos rfl]
        exact m_124 (fG3 f) B hp
theorem m_expr {g0 : c_G} {t : Nat → Int32} {n : Nat} {su le : Int32} (B : q_B g0 t n) : q_FM g0 n 0 su le (s_any t n (s_fac t n 4)) (fG3 40 0) := by
  have j0 := m_factor (su := su) (le := le) B 4 0 38 rfl (by decide)
  have j1 : q_FM g0 n 0 su le (s_both t n (s_fac t n 4)) (fG3 39 1) := m_both B j0
  exact m_any B j1
theorem m_exprD {g0 : c_G} {p : Nat} {su le : Int32} : fG3 40 0 (q_G g0 p 0 0 su le) = some (q_G g0 p 0 0 su le, 0) := by
  have h0 : ¬ (4 : Int32) ≤ nI 0 := by decide
  have e2 : fG3 38 2 (q_G g0 p 0 0 su le) = some (q_G g0 p 0 0 su le, 0) := by
    rw [fG3_2 37]
    unfold fX12_factor fX12_factor_63 fX12_factor_124
    rw [q_g13, if_neg h0, m_isAtD, Option.bind_some, if_pos rfl, if_neg h0, m_isAtD, Option.bind_some, if_pos rfl, m_testD, c_b2s, if_pos (show c_bo 0 = true from rfl)]
  have e1 : fG3 39 1 (q_G g0 p 0 0 su le) = some (q_G g0 p 0 0 su le, 0) := by
    rw [fG3_1 38]
    unfold fX12_both
    rw [e2, c_b2s]
    exact m_both5D _ rfl
  rw [fG3_0 39]
  unfold fX12_any
  rw [e1, c_b2s]
  exact m_any5D _ rfl
