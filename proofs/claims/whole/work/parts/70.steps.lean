/-! PURE: the class reads an expression, a clause, a text -/
def q_FC (g0 : c_G) (w n : Nat) (le : Int32) (p st : Nat) (S : Except Nat (s_V × Nat)) (D : Nat) (g : c_G) (o : Option (c_G × Int32)) : Prop :=
  match S with
  | .ok (v, q) => ∃ g' st', o = some (q_mv g' w q, 1) ∧ q_Bs g0 w n le g' st' ∧ st' + p ≤ q + st ∧ q_Fr g g' w st st' v D
  | .error q => ∃ g' st', o = some (q_mv g' w q, 0) ∧ q_Bs g0 w n le g' st' ∧ st' + p ≤ q + st
def q_FA (g0 : c_G) (w n : Nat) (le : Int32) (S : Nat → Except Nat (s_V × Nat)) (D : Nat) (f : c_G → Option (c_G × Int32)) : Prop :=
  ∀ g st p, q_Bs g0 w n le g st → st ≤ p → p ≤ n → s_ok n p (S p) ∧ q_FC g0 w n le p st (S p) D g (f (q_mv g w p))
theorem p_N0 {x : Int32} {n : Nat} (h : p_N x n) (hn : n < 2 ^ 31) : (0 : Int32) ≤ x := by
  obtain ⟨k, hk, rfl⟩ := h
  exact nI_pos' (by omega)
theorem x_test {g0 : c_G} {w n : Nat} {le : Int32} {t : Nat → Int32} (T : q_Tt g0 w t n) : q_FA g0 w n le (s_test t n) 29 (fun g => fX10_test g w) := by
  intro g st p h hst hp
  refine ⟨s_test_ok hp, ?_⟩
  have hn := T.2.1
  show q_FC g0 w n le p st (s_test t n p) 29 g (fX10_test (q_mv g w p) w)
  unfold fX10_test s_test
  rw [if_pos T.1, (x_oneOf T h hp).1]
  cases e1 : s_let t n p with
  | none =>
    exact ⟨g, st, by rw [c_b2s, if_neg (show ¬ (0 : Int32) ≤ -1 by decide)], h, by omega⟩
  | some a =>
    obtain ⟨ha, hl0⟩ := s_let_lt e1
    have hl : p + 1 ≤ n := hl0
    show q_FC g0 w n le p st (match s_rel t n (p + 1) with
      | none => .error (p + 1)
      | some r => match s_num t n (p + 2) with
        | .error q => .error q
        | .ok (x, q) => .ok (fun e => s_cmp r (e a) x, q)) 29 g (c_b2 (some (q_mv g w (p + 1), nI a)) _)
    rw [c_b2s, if_pos (nI_pos' (by omega)), (x_oneOf T h hl).2]
    cases e2 : s_rel t n (p + 1) with
    | none =>
      exact ⟨g, st, by rw [c_b2s, if_neg (show ¬ (0 : Int32) ≤ -1 by decide)], h, by omega⟩
    | some r =>
      obtain ⟨hr, hl20⟩ := s_rel_lt e2
      have hl2 : p + 2 ≤ n := hl20
      show q_FC g0 w n le p st (match s_num t n (p + 2) with
        | .error q => .error q
        | .ok (x, q) => .ok (fun e => s_cmp r (e a) x, q)) 29 g (c_b2 (some (q_mv g w (p + 1 + 1), nI r)) _)
      rw [c_b2s, if_pos (nI_pos' (by omega)), x_digits T h hl2]
      have ho := s_num_ok (t := t) (n := n) (p := p + 2) hl2
      cases e3 : s_num t n (p + 2) with
      | error q =>
        rw [e3] at ho
        exact ⟨g, st, by rw [c_b2s, if_neg (show ¬ (0 : Int32) ≤ -1 by decide)], h, by omega⟩
      | ok z =>
        obtain ⟨x, q⟩ := z
        rw [e3] at ho
        have o1 : p + 2 < q := ho.1
        have o2 : q ≤ n := ho.2
        refine ⟨q_step g w st (nI a) (nI r) x, st + 1, ?_, q_step_Bs h ⟨a, by omega, rfl⟩ ⟨r, hr, rfl⟩ x, by omega, q_Fr_test ha hr⟩
        show c_b2 (some (q_mv g w q, x)) _ = _
        rw [c_b2s, if_pos (p_N0 (s_num_N e3) (by decide)), x_step T.1 h (by omega), Option.bind_some]
theorem q_Fr_rf {g : c_G} {w st : Nat} : st ≤ st ∧ ∀ i, i < st → g.1 (w + 1) i = g.1 (w + 1) i ∧ g.1 (w + 2) i = g.1 (w + 2) i ∧ g.1 (w + 3) i = g.1 (w + 3) i := ⟨Nat.le_refl _, fun _ _ => ⟨rfl, rfl, rfl⟩⟩
theorem x_bothL {F : Nat → c_G → Nat → Int32 → Option (c_G × Int32)} {g0 : c_G} {w n D : Nat} {le : Int32} {t : Nat → Int32} (T : q_Tt g0 w t n) (hD : D ≤ 28) {S : Nat → Except Nat (s_V × Nat)} (a1 x1 : Int32) (hF : q_FA g0 w n le S (D + 1) (fun g => F 2 g w x1)) {gs : c_G} {st0 p0 : Nat} (h00 : st0 ≤ p0) :
    ∀ (k p i f : Nat) (v : s_V) (g : c_G) (st : Nat), n - p ≤ k → k < f → p ≤ n → i ≤ p → q_Bs g0 w n le g st → st + p0 ≤ p + st0 → q_Fr gs g w st0 st v D →
      s_okw n p (s_bothL t n S k v p) ∧ q_FC g0 w n le p0 st0 (s_bothL t n S k v p) D gs (fX10_both_12 F w a1 f x1 (nI i) (q_mv g w p)) := by
  have hn := T.2.1
  have stop : ∀ (p i f : Nat) (v : s_V) (g : c_G) (st : Nat), p ≤ n → i ≤ p → q_Bs g0 w n le g st → st + p0 ≤ p + st0 → q_Fr gs g w st0 st v D → ¬ s_at t n p 38 = true → q_FC g0 w n le p0 st0 (.ok (v, p)) D gs (fX10_both_12 F w a1 (f + 1) x1 (nI i) (q_mv g w p)) := by
    intro p i f v g st hp hi h hc hfr hs
    refine ⟨g, st, ?_, h, hc, hfr⟩
    rw [fX10_both_12]
    by_cases q : (100 : Int32) ≤ nI i
    · rw [if_pos q]
    · rw [if_neg q, x_eat T h hp, if_neg hs, c_b2s, if_pos rfl]
  intro k
  induction k with
  | zero =>
    intro p i f v g st h1 h2 hp hi h hc hfr
    obtain ⟨f, rfl⟩ : ∃ x, f = x + 1 := ⟨f - 1, by omega⟩
    obtain rfl : p = n := by omega
    exact ⟨⟨Nat.le_refl _, Nat.le_refl _⟩, stop p i f v g st hp hi h hc hfr s_atn⟩
  | succ k ih =>
    intro p i f v g st h1 h2 hp hi h hc hfr
    obtain ⟨f, rfl⟩ : ∃ x, f = x + 1 := ⟨f - 1, by omega⟩
    unfold s_bothL
    by_cases hs : s_at t n p 38 = true
    · have hl : p + 1 ≤ n := (s_at_iff.mp hs).1
      obtain ⟨ok, res⟩ := hF g st (p + 1) h (by omega) hl
      rw [if_pos hs, fX10_both_12, if_neg (show ¬ (100 : Int32) ≤ nI i from nI_ge (b := 100) (by omega) (by decide)), x_eat T h hp, if_pos hs, c_b2s, if_neg i10]
      cases e : S (p + 1) with
      | error q =>
        rw [e] at ok res
        obtain ⟨g', st', eq, b, cc⟩ := res
        have eq' : F 2 (q_mv g w (p + 1)) w x1 = some (q_mv g' w q, 0) := eq
        have ok1 : p + 1 ≤ q := ok.1
        refine ⟨⟨by omega, ok.2⟩, g', st', ?_, b, by omega⟩
        rw [eq', c_b2s, if_pos rfl]
      | ok z =>
        obtain ⟨v2, q⟩ := z
        rw [e] at ok res
        obtain ⟨g', st', eq, b, cc, fr⟩ := res
        have eq' : F 2 (q_mv g w (p + 1)) w x1 = some (q_mv g' w q, 1) := eq
        have ok1 : p + 1 < q := ok.1
        have ok2 : q ≤ n := ok.2
        obtain ⟨o1, o2⟩ := ih q (i + 1) f (fun e => v e && v2 e) (q_step g' w st' 7 0 0) (st' + 1) (by omega) (by omega) ok2 (by omega) (q_step_Bs b ⟨7, by decide, rfl⟩ ⟨0, by decide, rfl⟩ 0) (by omega) (q_Fr_join hfr fr (Nat.le_refl _) hD 7 and (Or.inl ⟨rfl, rfl⟩))
        refine ⟨s_okw_mono o1 (by omega), ?_⟩
        rw [eq', c_b2s, if_neg i10, x_step T.1 b (by omega), Option.bind_some, c_let_d, nI_1]
        exact o2
    · rw [if_neg hs]
      exact ⟨⟨Nat.le_refl _, hp⟩, stop p i f v g st hp hi h hc hfr hs⟩
theorem x_both {F : Nat → c_G → Nat → Int32 → Option (c_G × Int32)} {g0 : c_G} {w n D : Nat} {le : Int32} {t : Nat → Int32} (T : q_Tt g0 w t n) (hD : D ≤ 28) {S : Nat → Except Nat (s_V × Nat)} (a1 : Int32) (hF : q_FA g0 w n le S (D + 1) (fun g => F 2 g w a1)) : q_FA g0 w n le (s_both t n S) D (fun g => fX10_both F g w a1) := by
  intro g st p h hst hp
  have hn := T.2.1
  obtain ⟨ok, res⟩ := hF g st p h hst hp
  show s_ok n p (s_both t n S p) ∧ q_FC g0 w n le p st (s_both t n S p) D g (fX10_both F (q_mv g w p) w a1)
  unfold s_both fX10_both
  rw [if_pos T.1]
  cases e : S p with
  | error q =>
    rw [e] at ok res
    obtain ⟨g', st', eq, b, cc⟩ := res
    have eq' : F 2 (q_mv g w p) w a1 = some (q_mv g' w q, 0) := eq
    refine ⟨ok, g', st', ?_, b, cc⟩
    rw [eq', c_b2s, if_pos rfl]
  | ok z =>
    obtain ⟨v, q⟩ := z
    rw [e] at ok res
    obtain ⟨g', st', eq, b, cc, fr⟩ := res
    have eq' : F 2 (q_mv g w p) w a1 = some (q_mv g' w q, 1) := eq
    have ok1 : p < q := ok.1
    obtain ⟨o1, o2⟩ := x_bothL T hD a1 a1 hF hst n q 0 c_F v g' st' (by omega) (show n < 5000 by omega) ok.2 (Nat.zero_le _) b cc (fr.le (by omega))
    rw [nI_0] at o2
    rw [eq', c_b2s, if_neg i10]
    refine ⟨?_, o2⟩
    show s_ok n p (s_bothL t n S n v q)
    cases e2 : s_bothL t n S n v q with
    | error z => rw [e2] at o1; exact ⟨by have := o1.1; omega, o1.2⟩
    | ok z => rw [e2] at o1; exact ⟨Nat.lt_of_lt_of_le ok1 o1.1, o1.2⟩
theorem x_anyL {F : Nat → c_G → Nat → Int32 → Option (c_G × Int32)} {g0 : c_G} {w n D : Nat} {le : Int32} {t : Nat → Int32} (T : q_Tt g0 w t n) (hD : D ≤ 28) {S : Nat → Except Nat (s_V × Nat)} (a1 x1 : Int32) (hF : q_FA g0 w n le (s_both t n S) (D + 1) (fun g => F 1 g w x1)) {gs : c_G} {st0 p0 : Nat} (h00 : st0 ≤ p0) :
    ∀ (k p i f : Nat) (v : s_V) (g : c_G) (st : Nat), n - p ≤ k → k < f → p ≤ n → i ≤ p → q_Bs g0 w n le g st → st + p0 ≤ p + st0 → q_Fr gs g w st0 st v D →
      s_okw n p (s_anyL t n S k v p) ∧ q_FC g0 w n le p0 st0 (s_anyL t n S k v p) D gs (fX10_either_12 F w a1 f x1 (nI i) (q_mv g w p)) := by
  have hn := T.2.1
  have stop : ∀ (p i f : Nat) (v : s_V) (g : c_G) (st : Nat), p ≤ n → i ≤ p → q_Bs g0 w n le g st → st + p0 ≤ p + st0 → q_Fr gs g w st0 st v D → ¬ s_at t n p 124 = true → q_FC g0 w n le p0 st0 (.ok (v, p)) D gs (fX10_either_12 F w a1 (f + 1) x1 (nI i) (q_mv g w p)) := by
    intro p i f v g st hp hi h hc hfr hs
    refine ⟨g, st, ?_, h, hc, hfr⟩
    rw [fX10_either_12]
    by_cases q : (100 : Int32) ≤ nI i
    · rw [if_pos q]
    · rw [if_neg q, x_eat T h hp, if_neg hs, c_b2s, if_pos rfl]
  intro k
  induction k with
  | zero =>
    intro p i f v g st h1 h2 hp hi h hc hfr
    obtain ⟨f, rfl⟩ : ∃ x, f = x + 1 := ⟨f - 1, by omega⟩
    obtain rfl : p = n := by omega
    exact ⟨⟨Nat.le_refl _, Nat.le_refl _⟩, stop p i f v g st hp hi h hc hfr s_atn⟩
  | succ k ih =>
    intro p i f v g st h1 h2 hp hi h hc hfr
    obtain ⟨f, rfl⟩ : ∃ x, f = x + 1 := ⟨f - 1, by omega⟩
    unfold s_anyL
    by_cases hs : s_at t n p 124 = true
    · have hl : p + 1 ≤ n := (s_at_iff.mp hs).1
      obtain ⟨ok, res⟩ := hF g st (p + 1) h (by omega) hl
      rw [if_pos hs, fX10_either_12, if_neg (show ¬ (100 : Int32) ≤ nI i from nI_ge (b := 100) (by omega) (by decide)), x_eat T h hp, if_pos hs, c_b2s, if_neg i10]
      cases e : s_both t n S (p + 1) with
      | error q =>
        rw [e] at ok res
        obtain ⟨g', st', eq, b, cc⟩ := res
        have eq' : F 1 (q_mv g w (p + 1)) w x1 = some (q_mv g' w q, 0) := eq
        have ok1 : p + 1 ≤ q := ok.1
        refine ⟨⟨by omega, ok.2⟩, g', st', ?_, b, by omega⟩
        rw [eq', c_b2s, if_pos rfl]
      | ok z =>
        obtain ⟨v2, q⟩ := z
        rw [e] at ok res
        obtain ⟨g', st', eq, b, cc, fr⟩ := res
        have eq' : F 1 (q_mv g w (p + 1)) w x1 = some (q_mv g' w q, 1) := eq
        have ok1 : p + 1 < q := ok.1
        have ok2 : q ≤ n := ok.2
        obtain ⟨o1, o2⟩ := ih q (i + 1) f (fun e => v e || v2 e) (q_step g' w st' 8 0 0) (st' + 1) (by omega) (by omega) ok2 (by omega) (q_step_Bs b ⟨8, by decide, rfl⟩ ⟨0, by decide, rfl⟩ 0) (by omega) (q_Fr_join hfr fr (Nat.le_refl _) hD 8 or (Or.inr ⟨rfl, rfl⟩))
        refine ⟨s_okw_mono o1 (by omega), ?_⟩
        rw [eq', c_b2s, if_neg i10, x_step T.1 b (by omega), Option.bind_some, c_let_d, nI_1]
        exact o2
    · rw [if_neg hs]
      exact ⟨⟨Nat.le_refl _, hp⟩, stop p i f v g st hp hi h hc hfr hs⟩
theorem x_any {F : Nat → c_G → Nat → Int32 → Option (c_G × Int32)} {g0 : c_G} {w n D : Nat} {le : Int32} {t : Nat → Int32} (T : q_Tt g0 w t n) (hD : D ≤ 28) {S : Nat → Except Nat (s_V × Nat)} (a1 : Int32) (hF : q_FA g0 w n le (s_both t n S) (D + 1) (fun g => F 1 g w a1)) : q_FA g0 w n le (s_any t n S) D (fun g => fX10_either F g w a1) := by
  intro g st p h hst hp
  have hn := T.2.1
  obtain ⟨ok, res⟩ := hF g st p h hst hp
  show s_ok n p (s_any t n S p) ∧ q_FC g0 w n le p st (s_any t n S p) D g (fX10_either F (q_mv g w p) w a1)
  unfold s_any fX10_either
  rw [if_pos T.1]
  cases e : s_both t n S p with
  | error q =>
    rw [e] at ok res
    obtain ⟨g', st', eq, b, cc⟩ := res
    have eq' : F 1 (q_mv g w p) w a1 = some (q_mv g' w q, 0) := eq
    refine ⟨ok, g', st', ?_, b, cc⟩
    rw [eq', c_b2s, if_pos rfl]
  | ok z =>
    obtain ⟨v, q⟩ := z
    rw [e] at ok res
    obtain ⟨g', st', eq, b, cc, fr⟩ := res
    have eq' : F 1 (q_mv g w p) w a1 = some (q_mv g' w q, 1) := eq
    have ok1 : p < q := ok.1
    obtain ⟨o1, o2⟩ := x_anyL T hD a1 a1 hF hst n q 0 c_F v g' st' (by omega) (show n < 5000 by omega) ok.2 (Nat.zero_le _) b cc (fr.le (by omega))
    rw [nI_0] at o2
    rw [eq', c_b2s, if_neg i10]
    refine ⟨?_, o2⟩
    show s_ok n p (s_anyL t n S n v q)
    cases e2 : s_anyL t n S n v q with
    | error z => rw [e2] at o1; exact ⟨by have := o1.1; omega, o1.2⟩
    | ok z => rw [e2] at o1; exact ⟨Nat.lt_of_lt_of_le ok1 o1.1, o1.2⟩
/-! a factor -/
def q_odd (b : Bool) (S : Except Nat (s_V × Nat)) : Except Nat (s_V × Nat) :=
  match S with
  | .ok (v, q) => .ok (fun e => if b = true then !v e else v e, q)
  | .error q => .error q
theorem x_67 (F : Nat → c_G → Nat → Int32 → Option (c_G × Int32)) {g0 : c_G} {w n : Nat} {le : Int32} {t : Nat → Int32} (T : q_Tt g0 w t n) (a1 : Int32) {dp wi : Nat} (hd : dp ≤ wi) (hw : wi ≤ 4) {g : c_G} {st : Nat} (h : q_Bs g0 w n le g st) (hst : st < 100) (p : Nat) {y : Int32} (hy : c_bo y = true) :
    fX10_factor_67 F w a1 (nI dp) (nI wi) y (q_mv g w p) = if (wi - dp) % 2 = 1 then some (q_mv (q_step g w st 6 0 0) w p, y) else some (q_mv g w p, y) := by
  have e : (nI wi - nI dp) - (nI wi - nI dp) / (2 : Int32) * (2 : Int32) = nI ((wi - dp) % 2) := by
    rw [pk_sub hd]
    exact pk_rem (d := 2) (by omega) (by decide) (by decide)
  unfold fX10_factor_67
  rw [e]
  by_cases q : (wi - dp) % 2 = 1
  · rw [if_pos q, q, if_pos (show nI 1 = (1 : Int32) from rfl), x_step T.1 h hst, Option.bind_some, if_pos hy]
  · rw [if_neg q, show (wi - dp) % 2 = 0 by omega, if_neg (show ¬ nI 0 = (1 : Int32) by decide), if_pos hy]
theorem x_67FC (F : Nat → c_G → Nat → Int32 → Option (c_G × Int32)) {g0 : c_G} {w n : Nat} {le : Int32} {t : Nat → Int32} (T : q_Tt g0 w t n) (a1 : Int32) {dp wi : Nat} (hd : dp ≤ wi) (hw : wi ≤ 4) {gs g : c_G} {p0 st0 st q D : Nat} (hD : D ≤ 29) (h00 : st0 ≤ p0) (hq : q ≤ n) (h : q_Bs g0 w n le g st) (hc : st + (p0 + (wi - dp)) ≤ q + st0) :
    (∀ v, q_Fr gs g w st0 st v D → q_FC g0 w n le p0 st0 (q_odd ((wi - dp) % 2 == 1) (.ok (v, q))) D gs (fX10_factor_67 F w a1 (nI dp) (nI wi) 1 (q_mv g w q))) ∧ q_FC g0 w n le p0 st0 (.error q) D gs (fX10_factor_67 F w a1 (nI dp) (nI wi) 0 (q_mv g w q)) := by
  have hn := T.2.1
  by_cases o : (wi - dp) % 2 = 1
  · have hst : st < 100 := by omega
    refine ⟨fun v fr => ?_, ?_⟩
    · rw [x_67 F T a1 hd hw h hst q rfl, if_pos o, o]
      exact ⟨_, st + 1, rfl, q_step_Bs h ⟨6, by decide, rfl⟩ ⟨0, by decide, rfl⟩ 0, by omega, q_Fr_not fr hD⟩
    · rw [x_67 F T a1 hd hw h hst q rfl, if_pos o]
      exact ⟨_, st + 1, rfl, q_step_Bs h ⟨6, by decide, rfl⟩ ⟨0, by decide, rfl⟩ 0, by omega⟩
  · have e : (nI wi - nI dp) - (nI wi - nI dp) / (2 : Int32) * (2 : Int32) = nI ((wi - dp) % 2) := by
      rw [pk_sub hd]
      exact pk_rem (d := 2) (by omega) (by decide) (by decide)
    have e67 : ∀ y, c_bo y = true → fX10_factor_67 F w a1 (nI dp) (nI wi) y (q_mv g w q) = some (q_mv g w q, y) := fun y hy => by
      unfold fX10_factor_67
      rw [e, show (wi - dp) % 2 = 0 by omega, if_neg (show ¬ nI 0 = (1 : Int32) by decide), if_pos hy]
    refine ⟨fun v fr => ?_, ?_⟩
    · rw [e67 1 rfl, show (wi - dp) % 2 = 0 by omega]
      exact ⟨g, st, rfl, h, by omega, fr⟩
    · rw [e67 0 rfl]
      exact ⟨g, st, rfl, h, by omega⟩
theorem x_63 (F : Nat → c_G → Nat → Int32 → Option (c_G × Int32)) {g0 : c_G} {w n : Nat} {le : Int32} {t : Nat → Int32} (T : q_Tt g0 w t n) (a1 : Int32) {dp wi : Nat} (hd : dp ≤ wi) (hw : wi ≤ 4) {g : c_G} {p0 st D : Nat} (hD : D ≤ 29) (h00 : st ≤ p0) (hp : p0 + (wi - dp) ≤ n) (h : q_Bs g0 w n le g st) :
    s_ok n (p0 + (wi - dp)) (s_test t n (p0 + (wi - dp))) ∧ q_FC g0 w n le p0 st (q_odd ((wi - dp) % 2 == 1) (s_test t n (p0 + (wi - dp)))) D g (fX10_factor_63 F w a1 (nI dp) (nI wi) (q_mv g w (p0 + (wi - dp)))) := by
  obtain ⟨ok, res⟩ := x_test (le := le) T g st (p0 + (wi - dp)) h (by omega) hp
  refine ⟨ok, ?_⟩
  unfold fX10_factor_63
  cases e : s_test t n (p0 + (wi - dp)) with
  | error q =>
    rw [e] at ok res
    obtain ⟨g', st', eq, b, cc⟩ := res
    have eq' : fX10_test (q_mv g w (p0 + (wi - dp))) w = some (q_mv g' w q, 0) := eq
    rw [eq', c_b2s]
    exact (x_67FC F T a1 hd hw (gs := g) (D := D) hD h00 ok.2 b (by omega)).2
  | ok z =>
    obtain ⟨v, q⟩ := z
    rw [e] at ok res
    obtain ⟨g', st', eq, b, cc, fr⟩ := res
    have eq' : fX10_test (q_mv g w (p0 + (wi - dp))) w = some (q_mv g' w q, 1) := eq
    rw [eq', c_b2s]
    exact (x_67FC F T a1 hd hw (gs := g) (D := D) hD h00 ok.2 b (by omega)).1 v (fr.le hD)
theorem q_odd_ok {b : Bool} {n p : Nat} {S : Except Nat (s_V × Nat)} (h : s_ok n p S) : s_ok n p (q_odd b S) := by
  cases S with
  | error q => exact h
  | ok z => exact h
theorem x_facL {F : Nat → c_G → Nat → Int32 → Option (c_G × Int32)} {g0 : c_G} {w n : Nat} {le : Int32} {t : Nat → Int32} (T : q_Tt g0 w t n) (a1 : Int32) {dp K : Nat} (hK : dp + K = 4) (hE : ∀ k wi, k < K → wi + k = 4 → q_FA g0 w n le (s_any t n (s_fac t n k)) (27 - 2 * k) (fun g => F 0 g w (nI wi))) {g : c_G} {p0 st : Nat} (h00 : st ≤ p0) (h : q_Bs g0 w n le g st) :
    ∀ (k wi f : Nat), wi + k = 4 → dp ≤ wi → k < f → p0 + (wi - dp) ≤ n → s_ok n (p0 + (wi - dp)) (s_fac t n k (p0 + (wi - dp))) ∧ q_FC g0 w n le p0 st (q_odd ((wi - dp) % 2 == 1) (s_fac t n k (p0 + (wi - dp)))) (29 - 2 * K) g (fX10_factor_2 F w a1 f (nI dp) (nI wi) (q_mv g w (p0 + (wi - dp)))) := by
  have hn := T.2.1
  intro k
  induction k with
  | zero =>
    intro wi f hw hd hf hp
    obtain ⟨f, rfl⟩ : ∃ x, f = x + 1 := ⟨f - 1, by omega⟩
    have h4 : (4 : Int32) ≤ nI wi := nI_le (a := 4) (by omega) (by omega)
    rw [fX10_factor_2, if_pos h4]
    unfold fX10_factor_22
    rw [if_pos h4]
    exact x_63 F T a1 hd (by omega) (by omega) h00 hp h
  | succ k ih =>
    intro wi f hw hd hf hp
    obtain ⟨f, rfl⟩ : ∃ x, f = x + 1 := ⟨f - 1, by omega⟩
    have h4 : ¬ (4 : Int32) ≤ nI wi := nI_ge (b := 4) (by omega) (by decide)
    rw [fX10_factor_2, if_neg h4, x_eat T h hp]
    unfold s_fac
    by_cases h33 : s_at t n (p0 + (wi - dp)) 33 = true
    · have hl : p0 + (wi - dp) + 1 ≤ n := (s_at_iff.mp h33).1
      have ep : p0 + (wi + 1 - dp) = p0 + (wi - dp) + 1 := by omega
      obtain ⟨o1, o2⟩ := ih (wi + 1) f (by omega) (by omega) (by omega) (by omega)
      rw [ep] at o1 o2
      rw [if_pos h33, if_pos h33, c_b2s, if_neg i10, c_let_d, nI_1]
      cases e : s_fac t n k (p0 + (wi - dp) + 1) with
      | error q =>
        rw [e] at o1 o2
        exact ⟨⟨by have := o1.1; omega, o1.2⟩, o2⟩
      | ok z =>
        obtain ⟨v, q⟩ := z
        rw [e] at o1 o2
        refine ⟨⟨by have := o1.1; omega, o1.2⟩, ?_⟩
        obtain ⟨g', st', z1, z2, z3, z4⟩ := o2
        refine ⟨g', st', z1, z2, z3, z4.cg fun e => ?_⟩
        by_cases o : (wi - dp) % 2 = 1
        · rw [show (wi + 1 - dp) % 2 = 0 by omega, o]
          simp
        · rw [show (wi + 1 - dp) % 2 = 1 by omega, show (wi - dp) % 2 = 0 by omega]
          simp
    · rw [if_neg h33, if_neg h33, c_b2s, if_pos rfl]
      unfold fX10_factor_22
      rw [if_neg h4, x_eat T h hp]
      by_cases h40 : s_at t n (p0 + (wi - dp)) 40 = true
      · have hl : p0 + (wi - dp) + 1 ≤ n := (s_at_iff.mp h40).1
        obtain ⟨ok, res⟩ := hE k (wi + 1) (by omega) (by omega) g st (p0 + (wi - dp) + 1) h (by omega) hl
        rw [if_pos h40, if_pos h40, c_b2s, if_neg i10, nI_1]
        cases e : s_any t n (s_fac t n k) (p0 + (wi - dp) + 1) with
        | error q =>
          rw [e] at ok res
          obtain ⟨g', st', eq, b, cc⟩ := res
          have eq' : F 0 (q_mv g w (p0 + (wi - dp) + 1)) w (nI (wi + 1)) = some (q_mv g' w q, 0) := eq
          refine ⟨⟨by have := ok.1; omega, ok.2⟩, ?_⟩
          rw [eq', c_b2s, if_pos rfl]
          exact (x_67FC F T a1 hd (by omega) (gs := g) (D := 29 - 2 * K) (by omega) h00 ok.2 b (by omega)).2
        | ok z =>
          obtain ⟨v, q⟩ := z
          rw [e] at ok res
          obtain ⟨g', st', eq, b, cc, fr⟩ := res
          have eq' : F 0 (q_mv g w (p0 + (wi - dp) + 1)) w (nI (wi + 1)) = some (q_mv g' w q, 1) := eq
          have okq : q ≤ n := ok.2
          have okp : p0 + (wi - dp) + 1 < q := ok.1
          rw [eq', c_b2s, if_neg i10, x_eat T b okq]
          by_cases h41 : s_at t n q 41 = true
          · rw [if_pos h41, c_b2s, if_neg i10]
            show s_ok n _ (if s_at t n q 41 = true then .ok (v, q + 1) else .error q) ∧ q_FC g0 w n le p0 st (q_odd _ (if s_at t n q 41 = true then .ok (v, q + 1) else .error q)) _ g _
            rw [if_pos h41]
            exact ⟨⟨by omega, (s_at_iff.mp h41).1⟩, (x_67FC F T a1 hd (by omega) (gs := g) (D := 29 - 2 * K) (by omega) h00 (s_at_iff.mp h41).1 b (by omega)).1 v (fr.le (by omega))⟩
          · rw [if_neg h41, c_b2s, if_pos rfl]
            show s_ok n _ (if s_at t n q 41 = true then .ok (v, q + 1) else .error q) ∧ q_FC g0 w n le p0 st (q_odd _ (if s_at t n q 41 = true then .ok (v, q + 1) else .error q)) _ g _
            rw [if_neg h41]
            exact ⟨⟨by omega, okq⟩, (x_67FC F T a1 hd (by omega) (gs := g) (D := 29 - 2 * K) (by omega) h00 okq b (by omega)).2⟩
      · rw [if_neg h40, if_neg h40, c_b2s, if_pos rfl]
        exact x_63 F T a1 hd (by omega) (by omega) h00 hp h
theorem fG1_0 (f : Nat) (g : c_G) (w : Nat) (a : Int32) : fG1 (f + 1) 0 g w a = fX10_either (fG1 f) g w a := rfl
theorem fG1_1 (f : Nat) (g : c_G) (w : Nat) (a : Int32) : fG1 (f + 1) 1 g w a = fX10_both (fG1 f) g w a := rfl
theorem fG1_2 (f : Nat) (g : c_G) (w : Nat) (a : Int32) : fG1 (f + 1) 2 g w a = fX10_factor (fG1 f) g w a := rfl
theorem q_FA.of {g0 : c_G} {w n D : Nat} {le : Int32} {S : Nat → Except Nat (s_V × Nat)} {f f' : c_G → Option (c_G × Int32)} (h : q_FA g0 w n le S D f) (e : ∀ g, f' g = f g) : q_FA g0 w n le S D f' := by
  intro g st p z1 z2 z3
  rw [e]
  exact h g st p z1 z2 z3
theorem x_fac {g0 : c_G} {w n : Nat} {le : Int32} {t : Nat → Int32} (T : q_Tt g0 w t n) : ∀ (K k dp f : Nat), k ≤ K → dp + k = 4 → 3 * k + 1 ≤ f → q_FA g0 w n le (s_fac t n k) (29 - 2 * k) (fun g => fG1 f 2 g w (nI dp)) := by
  intro K
  induction K with
  | zero =>
    intro k dp f hk hd hf
    obtain rfl : k = 0 := by omega
    obtain ⟨f, rfl⟩ : ∃ x, f = x + 1 := ⟨f - 1, by omega⟩
    refine q_FA.of (f := fun g => fX10_factor (fG1 f) g w (nI dp)) ?_ fun g => fG1_2 f g w _
    intro g st p h hst hp
    have hl := x_facL (F := fG1 f) (le := le) T (nI dp) (dp := dp) (K := 0) hd (fun k wi hk _ => by omega) hst h 0 dp c_F hd (Nat.le_refl _) (by decide) (by omega)
    show s_ok n p (s_fac t n 0 p) ∧ q_FC g0 w n le p st (s_fac t n 0 p) _ g (fX10_factor (fG1 f) (q_mv g w p) w (nI dp))
    unfold fX10_factor
    rw [if_pos T.1]
    rw [show p + (dp - dp) = p by omega, show (dp - dp) % 2 = 0 by omega] at hl
    refine ⟨hl.1, ?_⟩
    have h2 := hl.2
    cases e : s_fac t n 0 p with
    | error q => rw [e] at h2; exact h2
    | ok z => rw [e] at h2; exact h2
  | succ K ih =>
    intro k dp f hk hd hf
    by_cases hk2 : k ≤ K
    · exact ih k dp f hk2 hd hf
    · obtain rfl : k = K + 1 := by omega
      obtain ⟨f, rfl⟩ : ∃ x, f = x + 3 := ⟨f - 3, by omega⟩
      have hE : ∀ k wi, k < K + 1 → wi + k = 4 → q_FA g0 w n le (s_any t n (s_fac t n k)) (27 - 2 * k) (fun g => fG1 (f + 2) 0 g w (nI wi)) := by
        intro k wi hk hw
        have j0 := ih k wi f (by omega) hw (by omega)
        have e1 : 29 - 2 * k = (28 - 2 * k) + 1 := by omega
        rw [e1] at j0
        have j1 : q_FA g0 w n le (s_both t n (s_fac t n k)) (28 - 2 * k) (fun g => fG1 (f + 1) 1 g w (nI wi)) := (x_both (F := fG1 f) T (by omega) (nI wi) j0).of fun g => fG1_1 f g w _
        have e2 : 28 - 2 * k = (27 - 2 * k) + 1 := by omega
        rw [e2] at j1
        exact (x_any (F := fG1 (f + 1)) T (by omega) (nI wi) j1).of fun g => fG1_0 (f + 1) g w _
      refine q_FA.of (f := fun g => fX10_factor (fG1 (f + 2)) g w (nI dp)) ?_ fun g => fG1_2 (f + 2) g w _
      intro g st p h hst hp
      have hl := x_facL (F := fG1 (f + 2)) (le := le) T (nI dp) (dp := dp) (K := K + 1) hd hE hst h (K + 1) dp c_F hd (Nat.le_refl _) (show K + 1 < 5000 by omega) (by omega)
      show s_ok n p (s_fac t n (K + 1) p) ∧ q_FC g0 w n le p st (s_fac t n (K + 1) p) _ g (fX10_factor (fG1 (f + 2)) (q_mv g w p) w (nI dp))
      unfold fX10_factor
      rw [if_pos T.1]
      rw [show p + (dp - dp) = p by omega, show (dp - dp) % 2 = 0 by omega] at hl
      refine ⟨hl.1, ?_⟩
      have h2 := hl.2
      cases e : s_fac t n (K + 1) p with
      | error q => rw [e] at h2; exact h2
      | ok z => rw [e] at h2; exact h2
theorem x_expr {g0 : c_G} {w n : Nat} {le : Int32} {t : Nat → Int32} (T : q_Tt g0 w t n) : q_FA g0 w n le (s_any t n (s_fac t n 4)) 19 (fun g => fG1 40 0 g w 0) := by
  have j0 : q_FA g0 w n le (s_fac t n 4) 21 (fun g => fG1 38 2 g w 0) := x_fac T 4 4 0 38 (Nat.le_refl _) rfl (by decide)
  have j1 : q_FA g0 w n le (s_both t n (s_fac t n 4)) 20 (fun g => fG1 39 1 g w 0) := (x_both (F := fG1 38) T (by decide) 0 j0).of fun g => fG1_1 38 g w _
  exact (x_any (F := fG1 39) T (by decide) 0 j1).of fun g => fG1_0 39 g w _
