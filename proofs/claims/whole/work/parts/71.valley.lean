/-! PURE: the class reads a clause, a text; valley -/
theorem q_len0 (g : c_G) : fJ0_length_8abf5 TC g 0 = some (nI 4) := rfl
theorem q_len1 (g : c_G) : fJ0_length_8abf5 TC g 1 = some (nI 3) := rfl
theorem q_len2 (g : c_G) : fJ0_length_8abf5 TC g 2 = some (nI 6) := rfl
def q_chO (k : Nat) (i : Int32) : Option Int32 := (fJ0_charAt_5068e TC g00 k i).map (·.2)
theorem q_ch00 (g : c_G) (k : Nat) (i : Int32) {c : Int32} (h : q_chO k i = some c) : fJ0_charAt_5068e TC g k i = some (g, c) := by
  unfold q_chO at h
  have key : fJ0_charAt_5068e TC g k i = (fJ0_charAt_5068e TC g00 k i).map (fun z => (g, z.2)) := by
    unfold fJ0_charAt_5068e fJ1_charAt_3b067 fJ0_checkIndex_df160 fJ3_checkIndex_8e157 fJ0_isLatin1_aae02
    repeat' split
    all_goals simp_all [c_b2]
    all_goals repeat' split
    all_goals simp_all
  rw [key]
  cases e : fJ0_charAt_5068e TC g00 k i with
  | none => rw [e] at h; cases h
  | some z =>
    rw [e] at h
    have : z.2 = c := Option.some.inj h
    rw [← this]
    rfl
/-- the letters of a constant from a place on -/
def q_isP (a : Nat) (len : Nat) : List Int32 → Nat → Prop
  | [], i => i = len
  | c :: l, i => i < len ∧ q_chO a (nI i) = some c ∧ q_isP a len l (i + 1)
theorem q_P0 : q_isP 0 4 [117, 105, 116, 32] 0 := ⟨by decide, by decide +kernel, by decide, by decide +kernel, by decide, by decide +kernel, by decide, by decide +kernel, rfl⟩
theorem q_P1 : q_isP 1 3 [97, 114, 32] 0 := ⟨by decide, by decide +kernel, by decide, by decide +kernel, by decide, by decide +kernel, rfl⟩
theorem q_P2 : q_isP 2 6 [108, 101, 97, 114, 110, 32] 0 := ⟨by decide, by decide +kernel, by decide, by decide +kernel, by decide, by decide +kernel, by decide, by decide +kernel, by decide, by decide +kernel, by decide, by decide +kernel, rfl⟩
theorem x_phraseL {g0 g : c_G} {w n st a len : Nat} {le : Int32} {t : Nat → Int32} (T : q_Tt g0 w t n) (h : q_Bs g0 w n le g st) (hlen : len < 100) (hL : ∀ g, fJ0_length_8abf5 TC g a = some (nI len)) : ∀ (l : List Int32) (i p F : Nat), q_isP a len l i → l.length < F → p ≤ n → fX10_phrase_2 w a F (nI i) (q_mv g w p) = some (match s_wd t n l p with
      | .ok q => (q_mv g w q, 1)
      | .error q => (q_mv g w q, 0))
  | [], i, p, F + 1, hl, hF, hp => by
    have e : i = len := hl
    rw [fX10_phrase_2, hL, Option.bind_some, if_pos (nI_le (by omega) (by omega))]
    rfl
  | c :: l, i, p, F + 1, hl, hF, hp => by
    obtain ⟨h1, h2, h3⟩ := hl
    rw [fX10_phrase_2, hL, Option.bind_some, if_neg (nI_ge (by omega) (by omega)), q_ch00 _ a _ h2, c_b2s, x_eat T h hp]
    unfold s_wd
    by_cases hs : s_at t n p c = true
    · rw [if_pos hs, if_pos hs, c_b2s, if_neg i10, c_let_d, nI_1]
      exact x_phraseL T h hlen hL l (i + 1) (p + 1) F h3 (by simp at hF; omega) (s_at_iff.mp hs).1
    · rw [if_neg hs, if_neg hs, c_b2s, if_pos rfl]
theorem x_phrase {g0 g : c_G} {w n st p : Nat} {le : Int32} {t : Nat → Int32} (T : q_Tt g0 w t n) (h : q_Bs g0 w n le g st) (hp : p ≤ n) {a len : Nat} {l : List Int32} (ha : a < 5) (hlen : len < 100) (hL : ∀ g, fJ0_length_8abf5 TC g a = some (nI len)) (hl : q_isP a len l 0) (hl2 : l.length < 5000) : fX10_phrase (q_mv g w p) w a = some (match s_wd t n l p with
      | .ok q => (q_mv g w q, 1)
      | .error q => (q_mv g w q, 0)) := by
  unfold fX10_phrase
  rw [if_pos T.1, if_pos ha, ← nI_0]
  exact x_phraseL T h hlen hL l 0 p c_F hl hl2 hp
/-- a clause's steps: what it adds, with an empty stack before and behind -/
def q_FK (g0 : c_G) (w n : Nat) (le : Int32) (p st : Nat) (S : Except Nat (((Nat → Int32) → Int32) × Option Int32 × Nat)) (g : c_G) (o : Option (c_G × Int32)) : Prop :=
  match S with
  | .ok (u, y, q) => ∃ g' st', o = some (q_mv g' w q, 1) ∧ q_Bs g0 w n (y.getD le) g' st' ∧ st' + p ≤ q + st ∧ (st ≤ st' ∧ ∀ i, i < st → g'.1 (w + 1) i = g.1 (w + 1) i ∧ g'.1 (w + 2) i = g.1 (w + 2) i ∧ g'.1 (w + 3) i = g.1 (w + 3) i) ∧ (p_N le 100 → p_N (y.getD le) 100) ∧ ∀ (e : Nat → Int32) (W : Int32), s_st (g'.1 (w + 1)) (g'.1 (w + 2)) (g'.1 (w + 3)) e (st' - st) st (W, 0) = (W + u e, 0)
  | .error q => ∃ g' st', o = some (q_mv g' w q, 0) ∧ q_Bs g0 w n le g' st'
theorem x_weight {g0 g g' : c_G} {w n st st' p q D : Nat} {le x y sg : Int32} {v : s_V} (h : q_Bs g0 w n le g' st') (fr : q_Fr g g' w st st' v D) (hst : st' < 100) (hV : c_isV w = true) (hy : y = sg * x) (hsg : sg = 1 ∨ sg = -1) (e : Nat → Int32) (W : Int32) :
    s_st ((q_step g' w st' 9 0 y).1 (w + 1)) ((q_step g' w st' 9 0 y).1 (w + 2)) ((q_step g' w st' 9 0 y).1 (w + 3)) e (st' + 1 - st) st (W, 0) = (W + (if v e = true then sg * x else 0), 0) := by
  obtain ⟨r1, r2, r3⟩ := q_step_r (g := g') (w := w) (st := st') (a := 9) (b := 0) (c := y)
  have hs := fr.1
  have f2 := fr.2.2 e 0 W (Nat.pow_pos (by decide))
  rw [nI_0] at f2
  rw [show st' + 1 - st = (st' - st) + 1 by omega, s_st_add, r1, r2, r3, s_st_cg (op' := g'.1 (w + 1)) (rel' := g'.1 (w + 2)) (num' := g'.1 (w + 3)) (st' - st) st _ (fun j z1 z2 => ⟨pk_un (by omega), pk_un (by omega), pk_un (by omega)⟩), f2, show st + (st' - st) = st' by omega]
  show s_stp _ _ _ e st' _ = _
  unfold s_stp
  rw [pk_us, pk_us, if_neg (show ¬ (9 : Int32) = 6 by decide), if_neg (show ¬ (9 : Int32) = 7 by decide), if_neg (show ¬ (9 : Int32) = 8 by decide), if_pos rfl]
  refine Prod.ext ?_ rfl
  show W + (nI (2 * 0 + q_b (v e)) &&& 1) * y = _
  rw [q_low (by decide), hy]
  by_cases z : v e = true
  · rw [if_pos z, z, show nI (q_b true) = 1 from rfl, Int32.one_mul]
  · rw [if_neg z, show v e = false by simpa using z, show nI (q_b false) = 0 from rfl, Int32.zero_mul]
theorem x_81 {g0 : c_G} {w n : Nat} {le : Int32} {t : Nat → Int32} (T : q_Tt g0 w t n) {g : c_G} {st p0 q : Nat} (h : q_Bs g0 w n le g st) (hst : st ≤ p0) (hp : p0 ≤ q) (hq : q ≤ n) (x1 x sg : Int32) (hx : (x1 = 1 ∧ sg = 1) ∨ (x1 = 0 ∧ sg = -1)) :
    s_okC n q (if s_at t n q 32 = true then (match s_any t n (s_fac t n 4) (q + 1) with
      | .error q => .error q
      | .ok (v, q) => .ok (fun e => if v e = true then sg * x else 0, none, q)) else .error q) ∧
    q_FK g0 w n le p0 st (if s_at t n q 32 = true then (match s_any t n (s_fac t n 4) (q + 1) with
      | .error q => .error q
      | .ok (v, q) => .ok (fun e => if v e = true then sg * x else 0, none, q)) else .error q) g (fX10_clause_81 w x1 x (q_mv g w q)) := by
  have hn := T.2.1
  unfold fX10_clause_81
  rw [x_eat T h hq]
  by_cases h32 : s_at t n q 32 = true
  · have hl : q + 1 ≤ n := (s_at_iff.mp h32).1
    obtain ⟨ok, res⟩ := x_expr (le := le) T g st (q + 1) h (by omega) hl
    rw [if_pos h32, if_pos h32, c_b2s, if_neg i10]
    cases e : s_any t n (s_fac t n 4) (q + 1) with
    | error z =>
      rw [e] at ok res
      obtain ⟨g', st', eq, b, cc⟩ := res
      have eq' : fG1 40 0 (q_mv g w (q + 1)) w 0 = some (q_mv g' w z, 0) := eq
      refine ⟨⟨by have := ok.1; omega, ok.2⟩, g', st', ?_, b⟩
      rw [eq', c_b2s, if_pos rfl]
    | ok z =>
      obtain ⟨v, z⟩ := z
      rw [e] at ok res
      obtain ⟨g', st', eq, b, cc, fr⟩ := res
      have eq' : fG1 40 0 (q_mv g w (q + 1)) w 0 = some (q_mv g' w z, 1) := eq
      have ok1 : q + 1 < z := ok.1
      have ok2 : z ≤ n := ok.2
      have hst' : st' < 100 := by omega
      have fin : ∀ y, y = sg * x → q_FK g0 w n le p0 st (.ok (fun e => if v e = true then sg * x else 0, none, z)) g (fX10_clause_114 w 9 0 y (q_mv g' w z)) := by
        intro y hy
        refine ⟨q_step g' w st' 9 0 y, st' + 1, ?_, q_step_Bs b ⟨9, by decide, rfl⟩ ⟨0, by decide, rfl⟩ y, by omega, ⟨by have := fr.1; omega, fun i hi => ?_⟩, fun z => z, fun e W => x_weight (p := p0) (q := z) b fr hst' T.1 hy (hx.imp (·.2) (·.2)) e W⟩
        · unfold fX10_clause_114
          rw [x_step T.1 b hst', Option.bind_some]
        · obtain ⟨r1, r2, r3⟩ := q_step_r (g := g') (w := w) (st := st') (a := 9) (b := 0) (c := y)
          have hs := fr.1
          rw [r1, r2, r3, pk_un (by omega), pk_un (by omega), pk_un (by omega)]
          exact fr.2.1 i hi
      refine ⟨⟨by omega, ok2⟩, ?_⟩
      rw [eq', c_b2s, if_neg i10]
      rcases hx with ⟨rfl, rfl⟩ | ⟨rfl, rfl⟩
      · rw [if_neg i10]
        exact fin x (Int32.one_mul x).symm
      · rw [if_pos rfl]
        exact fin (-x) (Int32.neg_eq_neg_one_mul x)
  · rw [if_neg h32, if_neg h32, c_b2s, if_pos rfl]
    exact ⟨⟨Nat.le_refl _, hq⟩, g, st, rfl, h⟩
/-- the words of a clause, their blank among them -/
theorem s_clause_W {t : Nat → Int32} {n p : Nat} : s_clause t n p = if s_at t n p 115 = true then (match s_wd t n [117, 105, 116, 32] (p + 1) with
      | .error q => .error q
      | .ok q => match s_num t n q with
        | .error q => .error q
        | .ok (x, q) => if s_at t n q 32 = true then (match s_any t n (s_fac t n 4) (q + 1) with
          | .error q => .error q
          | .ok (v, q) => .ok (fun e => if v e = true then 1 * x else 0, none, q)) else .error q) else if s_at t n p 106 = true then (match s_wd t n [97, 114, 32] (p + 1) with
      | .error q => .error q
      | .ok q => match s_num t n q with
        | .error q => .error q
        | .ok (x, q) => if s_at t n q 32 = true then (match s_any t n (s_fac t n 4) (q + 1) with
          | .error q => .error q
          | .ok (v, q) => .ok (fun e => if v e = true then -1 * x else 0, none, q)) else .error q) else (match s_wd t n [108, 101, 97, 114, 110, 32] p with
      | .error q => .error q
      | .ok q => match s_num t n q with
        | .error q => .error q
        | .ok (x, q) => .ok (fun _ => 0, some x, q)) := by
  unfold s_clause
  by_cases h0 : s_at t n p 115 = true
  · rw [if_pos h0, if_pos h0]
    have e : s_wd t n [115, 117, 105, 116, 32] p = s_wd t n [117, 105, 116, 32] (p + 1) := by
      rw [s_wd, if_pos h0]
    simp only [e]
    rfl
  · rw [if_neg h0, if_neg h0]
    by_cases h1 : s_at t n p 106 = true
    · rw [if_pos h1, if_pos h1]
      have e : s_wd t n [106, 97, 114, 32] p = s_wd t n [97, 114, 32] (p + 1) := by
        rw [s_wd, if_pos h1]
      simp only [e]
      rfl
    · rw [if_neg h1, if_neg h1]
      rfl
theorem x_47 {g0 : c_G} {w n : Nat} {le : Int32} {t : Nat → Int32} (T : q_Tt g0 w t n) {g : c_G} {st p0 q : Nat} (h : q_Bs g0 w n le g st) (hst : st ≤ p0) (hp : p0 ≤ q) (hq : q ≤ n) (x1 x2 sg : Int32) (a len : Nat) (l : List Int32) (ha : a < 5) (hlen : len < 100) (hL : ∀ g, fJ0_length_8abf5 TC g a = some (nI len)) (hl : q_isP a len l 0) (hl2 : l.length < 5000) (hx : (x1 = 1 ∧ sg = 1) ∨ (x1 = 0 ∧ sg = -1)) (hx2 : x1 = 1 ∨ x2 = 1) :
    s_okC n p0 (match s_wd t n l q with
      | .error q => .error q
      | .ok q => match s_num t n q with
        | .error q => .error q
        | .ok (x, q) => if s_at t n q 32 = true then (match s_any t n (s_fac t n 4) (q + 1) with
          | .error q => .error q
          | .ok (v, q) => .ok (fun e => if v e = true then sg * x else 0, none, q)) else .error q) ∧
    q_FK g0 w n le p0 st (match s_wd t n l q with
      | .error q => .error q
      | .ok q => match s_num t n q with
        | .error q => .error q
        | .ok (x, q) => if s_at t n q 32 = true then (match s_any t n (s_fac t n 4) (q + 1) with
          | .error q => .error q
          | .ok (v, q) => .ok (fun e => if v e = true then sg * x else 0, none, q)) else .error q) g (fX10_clause_47 w x1 x2 a (q_mv g w q)) := by
  unfold fX10_clause_47
  rw [x_phrase T h hq ha hlen hL hl hl2]
  have ho := s_wd_ok (t := t) (n := n) l q hq
  cases e : s_wd t n l q with
  | error z =>
    rw [e] at ho
    have ho1 : q ≤ z := ho.1
    exact ⟨⟨by omega, ho.2⟩, g, st, by rw [c_b2s, if_pos rfl], h⟩
  | ok z =>
    rw [e] at ho
    have ho1 : q ≤ z := ho.1
    have ho2 : z ≤ n := ho.2
    show s_okC n p0 (match s_num t n z with
        | .error q => .error q
        | .ok (x, q) => if s_at t n q 32 = true then (match s_any t n (s_fac t n 4) (q + 1) with
          | .error q => .error q
          | .ok (v, q) => .ok (fun e => if v e = true then sg * x else 0, none, q)) else .error q) ∧
      q_FK g0 w n le p0 st (match s_num t n z with
        | .error q => .error q
        | .ok (x, q) => if s_at t n q 32 = true then (match s_any t n (s_fac t n 4) (q + 1) with
          | .error q => .error q
          | .ok (v, q) => .ok (fun e => if v e = true then sg * x else 0, none, q)) else .error q) g (c_b2 (some (q_mv g w z, 1)) _)
    rw [c_b2s, if_neg i10, x_digits T h ho2]
    have hm := s_num_ok (t := t) (n := n) (p := z) ho2
    cases e2 : s_num t n z with
    | error y =>
      rw [e2] at hm
      have hm' : y = z := hm
      exact ⟨⟨by omega, by omega⟩, g, st, by rw [c_b2s, if_neg (show ¬ (0 : Int32) ≤ -1 by decide)], h⟩
    | ok y =>
      obtain ⟨x, y⟩ := y
      rw [e2] at hm
      have hm1 : z < y := hm.1
      have hm2 : y ≤ n := hm.2
      obtain ⟨o1, o2⟩ := x_81 T h hst (show p0 ≤ y by omega) hm2 x1 x sg hx
      show s_okC n p0 (if s_at t n y 32 = true then (match s_any t n (s_fac t n 4) (y + 1) with
          | .error q => .error q
          | .ok (v, q) => .ok (fun e => if v e = true then sg * x else 0, none, q)) else .error y) ∧ q_FK g0 w n le p0 st (if s_at t n y 32 = true then (match s_any t n (s_fac t n 4) (y + 1) with
          | .error q => .error q
          | .ok (v, q) => .ok (fun e => if v e = true then sg * x else 0, none, q)) else .error y) g (c_b2 (some (q_mv g w y, x)) _)
      refine ⟨s_okC_mono o1 (by omega), ?_⟩
      rw [c_b2s, if_pos (p_N0 (s_num_N e2) (by decide))]
      by_cases q1 : x1 = 0
      · rw [if_pos q1]
        rcases hx2 with hx2 | hx2
        · rw [q1] at hx2
          exact absurd hx2 (by decide)
        · rw [if_neg (show ¬ x2 = 0 by rw [hx2]; decide)]
          exact o2
      · rw [if_neg q1]
        exact o2
theorem x_clause {g0 : c_G} {w n : Nat} {le : Int32} {t : Nat → Int32} (T : q_Tt g0 w t n) {g : c_G} {st p : Nat} (h : q_Bs g0 w n le g st) (hst : st ≤ p) (hp : p ≤ n) : s_okC n p (s_clause t n p) ∧ q_FK g0 w n le p st (s_clause t n p) g (fX10_clause (q_mv g w p) w) := by
  rw [s_clause_W]
  unfold fX10_clause
  rw [if_pos T.1, x_eat T h hp]
  by_cases h0 : s_at t n p 115 = true
  · have hl : p + 1 ≤ n := (s_at_iff.mp h0).1
    rw [if_pos h0, if_pos h0, c_b2s, if_neg i10]
    unfold fX10_clause_24 fX10_clause_25
    rw [if_neg i10]
    exact x_47 T h hst (Nat.le_succ p) hl 1 0 1 0 4 _ (by decide) (by decide) q_len0 q_P0 (by decide) (Or.inl ⟨rfl, rfl⟩) (Or.inl rfl)
  · rw [if_neg h0, if_neg h0, c_b2s, if_pos rfl, x_eat T h hp]
    by_cases h1 : s_at t n p 106 = true
    · have hl : p + 1 ≤ n := (s_at_iff.mp h1).1
      rw [if_pos h1, if_pos h1, c_b2s, if_neg i10]
      unfold fX10_clause_25
      rw [if_pos rfl, if_neg i10]
      exact x_47 T h hst (Nat.le_succ p) hl 0 1 (-1) 1 3 _ (by decide) (by decide) q_len1 q_P1 (by decide) (Or.inr ⟨rfl, rfl⟩) (Or.inr rfl)
    · rw [if_neg h1, if_neg h1, c_b2s, if_pos rfl]
      unfold fX10_clause_24 fX10_clause_25 fX10_clause_47
      rw [if_pos rfl, if_pos rfl, x_phrase T h hp (a := 2) (by decide) (by decide) q_len2 q_P2 (by decide)]
      have ho := s_wd_ok (t := t) (n := n) [108, 101, 97, 114, 110, 32] p hp
      cases e : s_wd t n [108, 101, 97, 114, 110, 32] p with
      | error z =>
        rw [e] at ho
        exact ⟨ho, g, st, by rw [c_b2s, if_pos rfl], h⟩
      | ok z =>
        rw [e] at ho
        have ho1 : p ≤ z := ho.1
        have ho2 : z ≤ n := ho.2
        show s_okC n p (match s_num t n z with
          | .error q => .error q
          | .ok (x, q) => .ok (fun _ => 0, some x, q)) ∧ q_FK g0 w n le p st (match s_num t n z with
          | .error q => .error q
          | .ok (x, q) => .ok (fun _ => 0, some x, q)) g (c_b2 (some (q_mv g w z, 1)) _)
        rw [c_b2s, if_neg i10, x_digits T h ho2]
        have hm := s_num_ok (t := t) (n := n) (p := z) ho2
        cases e2 : s_num t n z with
        | error y =>
          rw [e2] at hm
          have hm' : y = z := hm
          exact ⟨⟨by omega, by omega⟩, g, st, by rw [c_b2s, if_neg (show ¬ (0 : Int32) ≤ -1 by decide)], h⟩
        | ok y =>
          obtain ⟨x, y⟩ := y
          rw [e2] at hm
          have hm1 : z < y := hm.1
          have hm2 : y ≤ n := hm.2
          obtain ⟨b1, b2, b3, b4, b5, b6⟩ := h
          refine ⟨⟨by omega, hm2⟩, c_si g w 7 x, st, ?_, ⟨fun a z1 z2 z3 z4 => funext fun j => ?_, b2, ?_, ?_, p_si_at _ _ _ _, fun i hi => ?_⟩, by omega, ⟨Nat.le_refl _, fun i hi => ?_⟩, fun _ => s_num_N e2, fun e W => ?_⟩
          · show c_b2 (some (q_mv g w y, x)) _ = _
            rw [c_b2s, if_pos (p_N0 (s_num_N e2) (by decide)), if_pos rfl, if_pos rfl, c_let_d]
            unfold q_mv
            rw [c_si_cm g _ _ (show ¬ (w = w ∧ 2 = 7) by omega)]
          · rw [p_si_ne _ _ _ _ (by omega), b1 a z1 z2 z3 z4]
          · rw [p_si_ne _ _ _ _ (by omega)]; exact b3
          · rw [p_si_ne _ _ _ _ (by omega)]; exact b4
          · rw [p_si_ne _ _ _ _ (by omega), p_si_ne _ _ _ _ (by omega)]; exact b6 i hi
          · rw [p_si_ne _ _ _ _ (by omega), p_si_ne _ _ _ _ (by omega), p_si_ne _ _ _ _ (by omega)]; exact ⟨rfl, rfl, rfl⟩
          · rw [Nat.sub_self]
            show (W, (0 : Int32)) = (W + 0, 0)
            rw [Int32.add_zero]
/-! the text -/
def q_FP (g0 : c_G) (w : Nat) (S : Except Nat (((Nat → Int32) → Int32) × Int32)) (o : Option (c_G × Int32)) : Prop :=
  match S with
  | .ok (W, L) => ∃ g', o = some (g', -1) ∧ (∀ a, a ≠ w → a ≠ w + 1 → a ≠ w + 2 → a ≠ w + 3 → a < 124 → g'.1 a = g0.1 a) ∧ g'.2 = g0.2 ∧ p_W g' w W ∧ g'.1 w 7 = L ∧ p_N L 100
  | .error q => ∃ g', o = some (g', nI q) ∧ (∀ a, a ≠ w → a ≠ w + 1 → a ≠ w + 2 → a ≠ w + 3 → a < 124 → g'.1 a = g0.1 a) ∧ g'.2 = g0.2
theorem q_mv_fr {g0 g : c_G} {w n st p : Nat} {le : Int32} (h : q_Bs g0 w n le g st) : (∀ a, a ≠ w → a ≠ w + 1 → a ≠ w + 2 → a ≠ w + 3 → a < 124 → (q_mv g w p).1 a = g0.1 a) ∧ (q_mv g w p).2 = g0.2 := ⟨fun a z1 z2 z3 z4 _ => by rw [show (q_mv g w p).1 a = g.1 a from c_sr_ne z1, h.1 a z1 z2 z3 z4], h.2.1⟩
theorem x_parseL {g0 : c_G} {w n : Nat} {t : Nat → Int32} (T : q_Tt g0 w t n) (a1 : Int32) : ∀ (k i F : Nat) (g : c_G) (st p : Nat) (le : Int32) (wa : (Nat → Int32) → Int32), i + k = 10 → k < F → q_Bs g0 w n le g st → st ≤ p → p ≤ n → p_N le 100 → (∀ e, s_st (g.1 (w + 1)) (g.1 (w + 2)) (g.1 (w + 3)) e st 0 (0, 0) = (wa e, 0)) → q_FP g0 w (s_all t n (k + 1) wa le p) (fX10_parse_34 w a1 (F + 1) (nI i) (q_mv g w p)) := by
  have hn := T.2.1
  intro k
  induction k with
  | zero =>
    intro i F g st p le wa hi hF h hst hp hle hwa
    obtain rfl : i = 10 := by omega
    obtain ⟨ok, res⟩ := x_clause T h hst hp
    rw [fX10_parse_34, if_neg (show ¬ (10 : Int32) < nI 10 by decide)]
    unfold s_all
    cases e : s_clause t n p with
    | error q =>
      rw [e] at ok res
      obtain ⟨g', st', eq, b⟩ := res
      rw [eq, c_b2s, if_pos rfl, q_mv_at]
      exact ⟨_, rfl, q_mv_fr b⟩
    | ok z =>
      obtain ⟨u, y, q⟩ := z
      rw [e] at ok res
      obtain ⟨g', st', eq, b, cc, ⟨s1, s2⟩, hN, hs⟩ := res
      have okq : q ≤ n := ok.2
      rw [eq, c_b2s, if_neg i10, q_mv_at, q_mv_ne _ _ _ (show ¬ (w = w ∧ 1 = 2) by omega), b.2.2.1]
      show q_FP g0 w (if n ≤ q then .ok (fun e => wa e + u e, y.getD le) else if 0 = 0 then .error q else _) _
      by_cases hq : n ≤ q
      · rw [if_pos hq, if_neg (nI_nlt hq (by omega))]
        obtain ⟨f1, f2⟩ := q_mv_fr (p := q) b
        refine ⟨_, rfl, f1, f2, ⟨st', by omega, by rw [q_mv_ne _ _ _ (by omega)]; exact b.2.2.2.1, fun i hi => ?_, fun e => ?_⟩, by rw [q_mv_ne _ _ _ (by omega)]; exact b.2.2.2.2.1, hN hle⟩
        · rw [q_mv_ne _ _ _ (by omega), q_mv_ne _ _ _ (by omega)]
          exact b.2.2.2.2.2 i hi
        · rw [show (q_mv g' w q).1 (w + 1) = g'.1 (w + 1) from c_sr_ne (by omega), show (q_mv g' w q).1 (w + 2) = g'.1 (w + 2) from c_sr_ne (by omega), show (q_mv g' w q).1 (w + 3) = g'.1 (w + 3) from c_sr_ne (by omega), s_ev_st, show st' = st + (st' - st) by omega, s_st_add, s_st_cg (op' := g.1 (w + 1)) (rel' := g.1 (w + 2)) (num' := g.1 (w + 3)) st 0 _ (fun j _ z2 => s2 j (by omega)), hwa, Nat.zero_add, hs]
      · rw [if_neg hq, if_pos rfl, if_pos (nI_lt (by omega) (by omega)), if_pos (show nI 10 = (10 : Int32) from rfl)]
        exact ⟨_, rfl, q_mv_fr b⟩
  | succ k ih =>
    intro i F g st p le wa hi hF h hst hp hle hwa
    obtain ⟨F, rfl⟩ : ∃ f, F = f + 1 := ⟨F - 1, by omega⟩
    obtain ⟨ok, res⟩ := x_clause T h hst hp
    rw [fX10_parse_34, if_neg (show ¬ (10 : Int32) < nI i from nI_nlt (a := 10) (by omega) (by decide)), s_all]
    cases e : s_clause t n p with
    | error q =>
      rw [e] at ok res
      obtain ⟨g', st', eq, b⟩ := res
      rw [eq, c_b2s, if_pos rfl, q_mv_at]
      exact ⟨_, rfl, q_mv_fr b⟩
    | ok z =>
      obtain ⟨u, y, q⟩ := z
      rw [e] at ok res
      obtain ⟨g', st', eq, b, cc, ⟨s1, s2⟩, hN, hs⟩ := res
      have okq : q ≤ n := ok.2
      have hwa' : ∀ e, s_st (g'.1 (w + 1)) (g'.1 (w + 2)) (g'.1 (w + 3)) e st' 0 (0, 0) = (wa e + u e, 0) := fun e => by
        rw [show st' = st + (st' - st) by omega, s_st_add, s_st_cg (op' := g.1 (w + 1)) (rel' := g.1 (w + 2)) (num' := g.1 (w + 3)) st 0 _ (fun j _ z2 => s2 j (by omega)), hwa, Nat.zero_add, hs]
      rw [eq, c_b2s, if_neg i10, q_mv_at, q_mv_ne _ _ _ (show ¬ (w = w ∧ 1 = 2) by omega), b.2.2.1]
      show q_FP g0 w (if n ≤ q then .ok (fun e => wa e + u e, y.getD le) else if k + 1 = 0 then .error q else if s_at t n q 59 = true then s_all t n (k + 1) (fun e => wa e + u e) (y.getD le) (q + 1) else .error q) _
      by_cases hq : n ≤ q
      · rw [if_pos hq, if_neg (nI_nlt hq (by omega))]
        obtain ⟨f1, f2⟩ := q_mv_fr (p := q) b
        refine ⟨_, rfl, f1, f2, ⟨st', by omega, by rw [q_mv_ne _ _ _ (by omega)]; exact b.2.2.2.1, fun i hi => ?_, fun e => ?_⟩, by rw [q_mv_ne _ _ _ (by omega)]; exact b.2.2.2.2.1, hN hle⟩
        · rw [q_mv_ne _ _ _ (by omega), q_mv_ne _ _ _ (by omega)]
          exact b.2.2.2.2.2 i hi
        · rw [show (q_mv g' w q).1 (w + 1) = g'.1 (w + 1) from c_sr_ne (by omega), show (q_mv g' w q).1 (w + 2) = g'.1 (w + 2) from c_sr_ne (by omega), show (q_mv g' w q).1 (w + 3) = g'.1 (w + 3) from c_sr_ne (by omega), s_ev_st, hwa']
      · rw [if_neg hq, if_neg (by omega), if_pos (nI_lt (by omega) (by omega)), if_neg (show ¬ nI i = (10 : Int32) from fun z => by have := (nI_eq (b := 10) (by omega) (by decide)).mp z; omega), x_eat T b okq]
        by_cases h59 : s_at t n q 59 = true
        · rw [if_pos h59, if_pos h59, c_b2s, if_neg i10, c_let_d, nI_1]
          exact ih (i + 1) F g' st' (q + 1) (y.getD le) (fun e => wa e + u e) (by omega) (by omega) b (by omega) (s_at_iff.mp h59).1 (hN hle) hwa'
        · rw [if_neg h59, if_neg h59, c_b2s, if_pos rfl, q_mv_at]
          exact ⟨_, rfl, q_mv_fr b⟩
theorem q_FP.tr {g0 g1 : c_G} {w : Nat} {S : Except Nat (((Nat → Int32) → Int32) × Int32)} {o : Option (c_G × Int32)} (h1 : ∀ a, a < 124 → g1.1 a = g0.1 a) (h2 : g1.2 = g0.2) (h : q_FP g1 w S o) : q_FP g0 w S o := by
  cases S with
  | error q =>
    obtain ⟨g', e1, e2, e3⟩ := h
    exact ⟨g', e1, fun a z1 z2 z3 z4 z5 => (e2 a z1 z2 z3 z4 z5).trans (h1 a z5), e3.trans h2⟩
  | ok z =>
    obtain ⟨g', e1, e2, e3, e4⟩ := h
    exact ⟨g', e1, fun a z1 z2 z3 z4 z5 => (e2 a z1 z2 z3 z4 z5).trans (h1 a z5), e3.trans h2, e4⟩
/-- the valley keeps the text, then reads it -/
theorem x_parse {gB : c_G} {w n : Nat} {t : Nat → Int32} (hV : c_isV w = true) (hn : n ≤ 100) (hb : c_fb (gB.1 1) 100 = true) (ht : ∀ j, j < n → gB.1 1 j = t j ∧ p_N (t j) 128) : q_FP gB w (s_text t n) (fX10_parse gB w (nI n)) := by
  have hv := c_vt_ge w
  have hw := c_isV_lt hV
  unfold fX10_parse s_text
  rw [if_pos hV, if_pos hb, c_let_d, c_let_d, c_let_d, c_let_d, c_let_d]
  generalize hg0 : c_sr gB (c_vt w) (va_cpy (gB.1 1) (gB.1 (c_vt w)) ((0 : Int32)).toNatClampNeg ((0 : Int32)).toNatClampNeg ((100 : Int32)).toNatClampNeg) = g0
  have T : q_Tt g0 w t n := ⟨hV, hn, fun j hj => by
    refine ⟨?_, (ht j hj).2⟩
    rw [← hg0, c_sr_at, show ((0 : Int32)).toNatClampNeg = 0 from rfl, show ((100 : Int32)).toNatClampNeg = 100 from rfl, pk_cpy_in (Nat.zero_le _) (by omega), Nat.sub_zero, Nat.zero_add]
    exact (ht j hj).1⟩
  refine q_FP.tr (g1 := g0) (fun a h => by rw [← hg0]; exact c_sr_ne (by omega)) (by rw [← hg0]; rfl) ?_
  have e : c_si (c_si (c_si (c_si g0 w 1 (nI n)) w 2 0) w 6 0) w 7 0 = q_mv (c_si (c_si (c_si g0 w 1 (nI n)) w 6 0) w 7 0) w 0 := by
    unfold q_mv
    rw [c_si_cm (c_si g0 w 1 (nI n)) 0 0 (show ¬ (w = w ∧ 2 = 6) by omega), c_si_cm _ 0 0 (show ¬ (w = w ∧ 2 = 7) by omega), nI_0]
  rw [e]
  refine x_parseL T (nI n) 9 1 4999 _ 0 0 0 (fun _ => 0) rfl (by decide) ⟨fun a z1 z2 z3 z4 => funext fun j => ?_, rfl, ?_, ?_, p_si_at _ _ _ _, fun i hi => by omega⟩ (Nat.le_refl _) (Nat.zero_le _) ⟨0, by decide, rfl⟩ fun e => rfl
  · rw [p_si_ne _ _ _ _ (by omega), p_si_ne _ _ _ _ (by omega), p_si_ne _ _ _ _ (by omega)]
  · rw [p_si_ne _ _ _ _ (by omega), p_si_ne _ _ _ _ (by omega), p_si_at]
  · rw [p_si_ne _ _ _ _ (by omega), p_si_at]
    rfl
