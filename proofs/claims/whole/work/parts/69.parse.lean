/-! PURE: the class reads a text into steps -/
def s_stp (op rel num e : Nat → Int32) (i : Nat) (x : Int32 × Int32) : Int32 × Int32 :=
  if op i = 6 then (x.1, x.2 ^^^ 1) else if op i = 7 then (x.1, (x.2 >>> (1 : Int32)) &&& (x.2 ||| (-2))) else if op i = 8 then (x.1, (x.2 >>> (1 : Int32)) ||| (x.2 &&& 1)) else if op i = 9 then (x.1 + (x.2 &&& 1) * num i, 0) else (x.1, (x.2 <<< (1 : Int32)) ||| (if s_cmp (rel i).toNatClampNeg (e (op i).toNatClampNeg) (num i) = true then 1 else 0))
def s_st (op rel num e : Nat → Int32) : Nat → Nat → Int32 × Int32 → Int32 × Int32
  | 0, _, x => x
  | k + 1, i, x => s_st op rel num e k (i + 1) (s_stp op rel num e i x)
theorem s_ev_st (op rel num e : Nat → Int32) : ∀ (k i : Nat) (w b : Int32), s_ev op rel num e k i w b = (s_st op rel num e k i (w, b)).1
  | 0, _, _, _ => rfl
  | k + 1, i, w, b => by
    unfold s_ev s_st s_stp
    by_cases h6 : op i = 6
    · rw [if_pos h6, if_pos h6]; exact s_ev_st op rel num e k (i + 1) _ _
    · rw [if_neg h6, if_neg h6]
      by_cases h7 : op i = 7
      · rw [if_pos h7, if_pos h7]; exact s_ev_st op rel num e k (i + 1) _ _
      · rw [if_neg h7, if_neg h7]
        by_cases h8 : op i = 8
        · rw [if_pos h8, if_pos h8]; exact s_ev_st op rel num e k (i + 1) _ _
        · rw [if_neg h8, if_neg h8]
          by_cases h9 : op i = 9
          · rw [if_pos h9, if_pos h9]; exact s_ev_st op rel num e k (i + 1) _ _
          · rw [if_neg h9, if_neg h9]; exact s_ev_st op rel num e k (i + 1) _ _
theorem s_st_add (op rel num e : Nat → Int32) (k2 : Nat) : ∀ (k1 i : Nat) (x : Int32 × Int32), s_st op rel num e (k1 + k2) i x = s_st op rel num e k2 (i + k1) (s_st op rel num e k1 i x)
  | 0, i, x => by rw [Nat.zero_add]; rfl
  | k1 + 1, i, x => by
    rw [show k1 + 1 + k2 = (k1 + k2) + 1 by omega]
    show s_st op rel num e (k1 + k2) (i + 1) _ = s_st op rel num e k2 (i + (k1 + 1)) (s_st op rel num e k1 (i + 1) _)
    rw [s_st_add op rel num e k2 k1 (i + 1), show i + 1 + k1 = i + (k1 + 1) by omega]
theorem s_st_cg {op rel num op' rel' num' e : Nat → Int32} : ∀ (k i : Nat) (x : Int32 × Int32), (∀ j, i ≤ j → j < i + k → op j = op' j ∧ rel j = rel' j ∧ num j = num' j) → s_st op rel num e k i x = s_st op' rel' num' e k i x
  | 0, _, _, _ => rfl
  | k + 1, i, x, h => by
    obtain ⟨a, b, c⟩ := h i (by omega) (by omega)
    show s_st op rel num e k (i + 1) (s_stp op rel num e i x) = s_st op' rel' num' e k (i + 1) (s_stp op' rel' num' e i x)
    rw [show s_stp op rel num e i x = s_stp op' rel' num' e i x by unfold s_stp; rw [a, b, c]]
    exact s_st_cg k (i + 1) _ fun j h1 h2 => h j (by omega) (by omega)
/-! bits as a stack -/
def q_b (b : Bool) : Nat := if b = true then 1 else 0
theorem q_b_le (b : Bool) : q_b b ≤ 1 := by
  unfold q_b
  split <;> omega
theorem q_b0 (k : Nat) (b : Bool) : (2 * k + q_b b).testBit 0 = b := by
  cases b <;> simp [q_b, Nat.testBit_zero]
theorem q_bS (k : Nat) (b : Bool) (i : Nat) : (2 * k + q_b b).testBit (i + 1) = k.testBit i := by
  rw [Nat.testBit_succ, show (2 * k + q_b b) / 2 = k by unfold q_b; split <;> omega]
theorem q_shr1 {n : Nat} (h : n < 2 ^ 31) : nI n >>> (1 : Int32) = nI (n / 2) := by
  have := pk_shrN h 1 1 (by decide)
  simpa using this
theorem q_shl1 {n : Nat} (h : n < 2 ^ 31) : nI n <<< (1 : Int32) = nI (2 * n) := by
  have := pk_shlN (n := n) 1 1 (by decide) (by omega)
  rw [show n * 2 ^ 1 = 2 * n by omega] at this
  exact this
theorem q_push {k : Nat} (hk : k < 2 ^ 29) (b : Bool) : (nI k <<< (1 : Int32)) ||| (if b = true then 1 else 0) = nI (2 * k + q_b b) := by
  rw [q_shl1 (by omega), show (if b = true then (1 : Int32) else 0) = nI (2 * 0 + q_b b) by cases b <;> rfl]
  apply b_ext
  intro w hw
  rw [b_or, b_nI (by omega), b_nI (by unfold q_b; split <;> omega), b_nI (by unfold q_b; split <;> omega)]
  cases w with
  | zero =>
    rw [q_b0, q_b0]
    have := q_b0 k false
    simp only [q_b] at this
    simp at this
    simp
  | succ w =>
    rw [q_bS, q_bS]
    have := q_bS k false w
    simp only [q_b] at this
    simp at this
    simp [this]
theorem q_not {k : Nat} (hk : k < 2 ^ 29) (b : Bool) : nI (2 * k + q_b b) ^^^ 1 = nI (2 * k + q_b (!b)) := by
  have hb : ∀ b, 2 * k + q_b b < 2 ^ 32 := fun b => by unfold q_b; split <;> omega
  rw [show (1 : Int32) = nI (2 * 0 + q_b true) from rfl]
  apply b_ext
  intro w hw
  rw [b_xor, b_nI (hb b), b_nI (hb _), b_nI (by decide)]
  cases w with
  | zero => rw [q_b0, q_b0, q_b0]; cases b <;> rfl
  | succ w => rw [q_bS, q_bS, q_bS]; simp
theorem q_low {k : Nat} (hk : k < 2 ^ 30) (b : Bool) : nI (2 * k + q_b b) &&& 1 = nI (q_b b) := by
  have hb : 2 * k + q_b b < 2 ^ 32 := by unfold q_b; split <;> omega
  rw [show (1 : Int32) = nI (2 * 0 + q_b true) from rfl, show nI (q_b b) = nI (2 * 0 + q_b b) by rw [Nat.mul_zero, Nat.zero_add]]
  apply b_ext
  intro w hw
  rw [b_and, b_nI hb, b_nI (by decide), b_nI (by unfold q_b; split <;> omega)]
  cases w with
  | zero => rw [q_b0, q_b0, q_b0]; simp
  | succ w => rw [q_bS, q_bS, q_bS]; simp
theorem q_half {k : Nat} (hk : k < 2 ^ 30) (b : Bool) : nI (2 * k + q_b b) >>> (1 : Int32) = nI k := by
  have hb : 2 * k + q_b b < 2 ^ 31 := by unfold q_b; split <;> omega
  rw [q_shr1 hb, show (2 * k + q_b b) / 2 = k by unfold q_b; split <;> omega]
theorem q_orS {k : Nat} (hk : k < 2 ^ 28) (a b : Bool) : (nI (2 * (2 * k + q_b a) + q_b b) >>> (1 : Int32)) ||| (nI (2 * (2 * k + q_b a) + q_b b) &&& 1) = nI (2 * k + q_b (a || b)) := by
  have ha : 2 * k + q_b a < 2 ^ 30 := by unfold q_b; split <;> omega
  rw [q_half ha, q_low ha, show nI (q_b b) = nI (2 * 0 + q_b b) by rw [Nat.mul_zero, Nat.zero_add]]
  apply b_ext
  intro w hw
  rw [b_or, b_nI (by omega), b_nI (by unfold q_b; split <;> omega), b_nI (by unfold q_b; split <;> omega)]
  cases w with
  | zero => rw [q_b0, q_b0, q_b0]
  | succ w => rw [q_bS, q_bS, q_bS]; simp
theorem q_m2 : ∀ w, w < 32 → b_bit (-2) w = decide (w ≠ 0) := by decide +kernel
theorem q_andS {k : Nat} (hk : k < 2 ^ 28) (a b : Bool) : (nI (2 * (2 * k + q_b a) + q_b b) >>> (1 : Int32)) &&& (nI (2 * (2 * k + q_b a) + q_b b) ||| (-2)) = nI (2 * k + q_b (a && b)) := by
  have ha : 2 * k + q_b a < 2 ^ 30 := by unfold q_b; split <;> omega
  have hb : 2 * (2 * k + q_b a) + q_b b < 2 ^ 32 := by have := q_b_le b; omega
  rw [q_half ha]
  apply b_ext
  intro w hw
  rw [b_and, b_or, q_m2 w hw, b_nI (by omega), b_nI hb, b_nI (by unfold q_b; split <;> omega)]
  cases w with
  | zero => rw [q_b0, q_b0, q_b0]; simp
  | succ w => rw [q_bS, q_bS, q_bS]; simp
/-! the state of a reading: the base, moved to a place -/
def q_mv (g : c_G) (w p : Nat) : c_G := c_si g w 2 (nI p)
theorem c_si_si (g : c_G) (h k : Nat) (a b : Int32) : c_si (c_si g h k a) h k b = c_si g h k b := by
  refine Prod.ext (funext fun x => funext fun j => ?_) rfl
  rw [p_si, p_si, p_si]
  split <;> rfl
theorem c_si_cm (g : c_G) {h k h' k' : Nat} (a b : Int32) (hne : ¬ (h = h' ∧ k = k')) : c_si (c_si g h k a) h' k' b = c_si (c_si g h' k' b) h k a := by
  refine Prod.ext (funext fun x => funext fun j => ?_) rfl
  rw [p_si, p_si, p_si, p_si]
  by_cases q : x = h ∧ j = k
  · rw [if_neg (by omega), if_pos q, if_pos q]
  · rw [if_neg q, if_neg q]
theorem q_mv_mv (g : c_G) (w p q : Nat) : q_mv (q_mv g w p) w q = q_mv g w q := c_si_si _ _ _ _ _
theorem q_mv_at (g : c_G) (w p : Nat) : (q_mv g w p).1 w 2 = nI p := p_si_at _ _ _ _
theorem q_mv_ne (g : c_G) (w p : Nat) {a j : Nat} (h : ¬ (a = w ∧ j = 2)) : (q_mv g w p).1 a j = g.1 a j := p_si_ne _ _ _ _ h
def q_Bs (g0 : c_G) (w n : Nat) (le : Int32) (g : c_G) (st : Nat) : Prop :=
  (∀ a, a ≠ w → a ≠ w + 1 → a ≠ w + 2 → a ≠ w + 3 → g.1 a = g0.1 a) ∧ g.2 = g0.2 ∧ g.1 w 1 = nI n ∧ g.1 w 6 = nI st ∧ g.1 w 7 = le ∧ ∀ i, i < st → p_N (g.1 (w + 1) i) 10 ∧ p_N (g.1 (w + 2) i) 3
/-- the text that is read -/
def q_Tt (g0 : c_G) (w : Nat) (t : Nat → Int32) (n : Nat) : Prop := c_isV w = true ∧ n ≤ 100 ∧ ∀ j, j < n → g0.1 (c_vt w) j = t j ∧ p_N (t j) 128
theorem c_vt_ge (w : Nat) : 124 ≤ c_vt w := Nat.le_add_right _ _
theorem q_Bs.tx {g0 g : c_G} {w n st p : Nat} {le : Int32} {t : Nat → Int32} (T : q_Tt g0 w t n) (h : q_Bs g0 w n le g st) {j : Nat} (hj : j < n) : (q_mv g w p).1 (c_vt w) j = t j := by
  have hw := c_isV_lt T.1
  have hv := c_vt_ge w
  rw [q_mv_ne _ _ _ (by omega), h.1 (c_vt w) (by omega) (by omega) (by omega) (by omega)]
  exact (T.2.2 j hj).1
def q_step (g : c_G) (w st : Nat) (a b c : Int32) : c_G := c_si (c_si (c_si (c_si g (w + 1) st a) (w + 2) st b) (w + 3) st c) w 6 (nI (st + 1))
theorem x_eat {g0 g : c_G} {w n st p : Nat} {le : Int32} {t : Nat → Int32} (T : q_Tt g0 w t n) (h : q_Bs g0 w n le g st) (hp : p ≤ n) (c : Int32) : fX10_eat (q_mv g w p) w c = some (if s_at t n p c = true then (q_mv g w (p + 1), 1) else (q_mv g w p, 0)) := by
  have hn := T.2.1
  unfold fX10_eat
  rw [if_pos T.1, q_mv_at, q_mv_ne _ _ _ (show ¬ (w = w ∧ 1 = 2) by omega), h.2.2.1]
  by_cases q : p < n
  · rw [if_neg (nI_ge q (by omega)), p_in (show p < 100 by omega) (by decide), if_pos rfl, nI_clamp (by omega), h.tx T q]
    by_cases q2 : t p = c
    · rw [if_pos q2, if_pos (s_at_iff.mpr ⟨q, q2⟩), c_let_d, c_let_d, nI_1]
      exact congrArg some (Prod.ext (q_mv_mv g w p (p + 1)) rfl)
    · rw [if_neg q2, if_neg (fun z => q2 (s_at_iff.mp z).2)]
  · rw [if_pos (nI_le (by omega) (by omega)), if_neg (fun z => q (s_at_iff.mp z).1)]
theorem x_step {g0 g : c_G} {w n st : Nat} {le : Int32} (hV : c_isV w = true) (h : q_Bs g0 w n le g st) (hst : st < 100) (p : Nat) (a b c : Int32) : fX10_step (q_mv g w p) w a b c = some (q_mv (q_step g w st a b c) w p) := by
  have e6 : (q_mv g w p).1 w 6 = nI st := by rw [q_mv_ne _ _ _ (by omega)]; exact h.2.2.2.1
  unfold fX10_step
  rw [if_pos hV, e6, if_pos (show nI st < (100 : Int32) from nI_lt (b := 100) hst (by decide)), p_in hst (by decide), if_pos rfl, nI_clamp (by omega), c_let_d, p_si_ne _ _ _ _ (show ¬ (w = w + 1 ∧ _) by omega), e6, p_in hst (by decide), if_pos rfl, nI_clamp (by omega), c_let_d, p_si_ne _ _ _ _ (show ¬ (w = w + 2 ∧ _) by omega), p_si_ne _ _ _ _ (show ¬ (w = w + 1 ∧ _) by omega), e6, p_in hst (by decide), if_pos rfl, nI_clamp (by omega), c_let_d, p_si_ne _ _ _ _ (show ¬ (w = w + 3 ∧ _) by omega), p_si_ne _ _ _ _ (show ¬ (w = w + 2 ∧ _) by omega), p_si_ne _ _ _ _ (show ¬ (w = w + 1 ∧ _) by omega), e6, c_let_d, c_let_d, nI_1]
  unfold q_mv q_step
  rw [c_si_cm g _ _ (show ¬ (w = w + 1 ∧ 2 = st) by omega), c_si_cm _ _ _ (show ¬ (w = w + 2 ∧ 2 = st) by omega), c_si_cm _ _ _ (show ¬ (w = w + 3 ∧ 2 = st) by omega), c_si_cm _ _ _ (show ¬ (w = w ∧ 2 = 6) by omega)]
theorem q_step_r {g : c_G} {w st : Nat} {a b c : Int32} : (q_step g w st a b c).1 (w + 1) = upd (g.1 (w + 1)) st a ∧ (q_step g w st a b c).1 (w + 2) = upd (g.1 (w + 2)) st b ∧ (q_step g w st a b c).1 (w + 3) = upd (g.1 (w + 3)) st c := by
  unfold q_step
  refine ⟨funext fun j => ?_, funext fun j => ?_, funext fun j => ?_⟩
  · rw [p_si_ne _ _ _ _ (by omega), p_si_ne _ _ _ _ (by omega), p_si_ne _ _ _ _ (by omega), e_up]
  · rw [p_si_ne _ _ _ _ (by omega), p_si_ne _ _ _ _ (by omega), e_up]
    show upd (fun j => (c_si g (w + 1) st a).1 (w + 2) j) st b j = _
    rw [show (fun j => (c_si g (w + 1) st a).1 (w + 2) j) = g.1 (w + 2) from funext fun j => p_si_ne _ _ _ _ (by omega)]
  · rw [p_si_ne _ _ _ _ (by omega), e_up]
    show upd (fun j => (c_si (c_si g (w + 1) st a) (w + 2) st b).1 (w + 3) j) st c j = _
    rw [show (fun j => (c_si (c_si g (w + 1) st a) (w + 2) st b).1 (w + 3) j) = g.1 (w + 3) from funext fun j => by rw [p_si_ne _ _ _ _ (by omega), p_si_ne _ _ _ _ (by omega)]]
theorem q_step_Bs {g0 g : c_G} {w n st : Nat} {le : Int32} (h : q_Bs g0 w n le g st) {a b : Int32} (ha : p_N a 10) (hb : p_N b 3) (c : Int32) : q_Bs g0 w n le (q_step g w st a b c) (st + 1) := by
  obtain ⟨h1, h2, h3, h4, h5, h6⟩ := h
  obtain ⟨r1, r2, r3⟩ := q_step_r (g := g) (w := w) (st := st) (a := a) (b := b) (c := c)
  refine ⟨fun x z1 z2 z3 z4 => funext fun j => ?_, h2, ?_, ?_, ?_, fun i hi => ?_⟩
  · unfold q_step
    rw [p_si_ne _ _ _ _ (by omega), p_si_ne _ _ _ _ (by omega), p_si_ne _ _ _ _ (by omega), p_si_ne _ _ _ _ (by omega), h1 x z1 z2 z3 z4]
  · unfold q_step
    rw [p_si_ne _ _ _ _ (by omega), p_si_ne _ _ _ _ (by omega), p_si_ne _ _ _ _ (by omega), p_si_ne _ _ _ _ (by omega)]
    exact h3
  · unfold q_step
    rw [p_si_at]
  · unfold q_step
    rw [p_si_ne _ _ _ _ (by omega), p_si_ne _ _ _ _ (by omega), p_si_ne _ _ _ _ (by omega), p_si_ne _ _ _ _ (by omega)]
    exact h5
  · rw [r1, r2]
    by_cases e : i = st
    · subst e
      rw [pk_us, pk_us]
      exact ⟨ha, hb⟩
    · rw [pk_un e, pk_un e]
      exact h6 i (by omega)
/-- what the steps from st to st' do: x is laid on the stack -/
def q_Fr (g g' : c_G) (w st st' : Nat) (v : s_V) (D : Nat) : Prop :=
  st ≤ st' ∧ (∀ i, i < st → g'.1 (w + 1) i = g.1 (w + 1) i ∧ g'.1 (w + 2) i = g.1 (w + 2) i ∧ g'.1 (w + 3) i = g.1 (w + 3) i) ∧ ∀ (e : Nat → Int32) (k : Nat) (W : Int32), k < 2 ^ D → s_st (g'.1 (w + 1)) (g'.1 (w + 2)) (g'.1 (w + 3)) e (st' - st) st (W, nI k) = (W, nI (2 * k + q_b (v e)))
theorem q_Fr.cg {g g' : c_G} {w st st' D : Nat} {v v' : s_V} (h : q_Fr g g' w st st' v D) (hv : ∀ e, v e = v' e) : q_Fr g g' w st st' v' D := by
  refine ⟨h.1, h.2.1, fun e k W hk => ?_⟩
  rw [h.2.2 e k W hk, hv]
theorem q_Fr.le {g g' : c_G} {w st st' D D' : Nat} {v : s_V} (h : q_Fr g g' w st st' v D) (hD : D' ≤ D) : q_Fr g g' w st st' v D' :=
  ⟨h.1, h.2.1, fun e k W hk => h.2.2 e k W (Nat.lt_of_lt_of_le hk (Nat.pow_le_pow_right (by decide) hD))⟩
theorem q_Fr.keep {g g' g'' : c_G} {w st st' st'' D D' : Nat} {v v' : s_V} (h : q_Fr g g' w st st' v D) (h2 : q_Fr g' g'' w st' st'' v' D') : ∀ i, i < st' → g''.1 (w + 1) i = g'.1 (w + 1) i ∧ g''.1 (w + 2) i = g'.1 (w + 2) i ∧ g''.1 (w + 3) i = g'.1 (w + 3) i := h2.2.1
theorem q_op {a : Nat} (h : a < 6) : ¬ nI a = 6 ∧ ¬ nI a = 7 ∧ ¬ nI a = 8 ∧ ¬ nI a = 9 := by
  rcases (show a = 0 ∨ a = 1 ∨ a = 2 ∨ a = 3 ∨ a = 4 ∨ a = 5 by omega) with rfl | rfl | rfl | rfl | rfl | rfl <;> decide
/-- a test laid -/
theorem q_Fr_test {g : c_G} {w st a r : Nat} {x : Int32} (ha : a < 6) (hr : r < 3) : q_Fr g (q_step g w st (nI a) (nI r) x) w st (st + 1) (fun e => s_cmp r (e a) x) 29 := by
  obtain ⟨r1, r2, r3⟩ := q_step_r (g := g) (w := w) (st := st) (a := nI a) (b := nI r) (c := x)
  obtain ⟨n6, n7, n8, n9⟩ := q_op ha
  refine ⟨by omega, fun i hi => by rw [r1, r2, r3, pk_un (by omega), pk_un (by omega), pk_un (by omega)]; exact ⟨rfl, rfl, rfl⟩, fun e k W hk => ?_⟩
  rw [show st + 1 - st = 1 by omega, r1, r2, r3]
  show s_stp _ _ _ e st (W, nI k) = _
  unfold s_stp
  rw [pk_us, pk_us, pk_us, if_neg n6, if_neg n7, if_neg n8, if_neg n9, nI_clamp (by omega), nI_clamp (by omega)]
  exact Prod.ext rfl (q_push hk _)
theorem q_Fr_not {g g' : c_G} {w st st' D : Nat} {v : s_V} (h : q_Fr g g' w st st' v D) (hD : D ≤ 29) : q_Fr g (q_step g' w st' 6 0 0) w st (st' + 1) (fun e => !v e) D := by
  obtain ⟨r1, r2, r3⟩ := q_step_r (g := g') (w := w) (st := st') (a := 6) (b := 0) (c := 0)
  refine ⟨by have := h.1; omega, fun i hi => by rw [r1, r2, r3, pk_un (by have := h.1; omega), pk_un (by have := h.1; omega), pk_un (by have := h.1; omega)]; exact h.2.1 i hi, fun e k W hk => ?_⟩
  have hs := h.1
  rw [show st' + 1 - st = (st' - st) + 1 by omega, s_st_add, r1, r2, r3, s_st_cg (op' := g'.1 (w + 1)) (rel' := g'.1 (w + 2)) (num' := g'.1 (w + 3)) (st' - st) st _ (fun j z1 z2 => ⟨pk_un (by omega), pk_un (by omega), pk_un (by omega)⟩), h.2.2 e k W hk, show st + (st' - st) = st' by omega]
  show s_stp _ _ _ e st' _ = _
  unfold s_stp
  rw [pk_us, if_pos rfl]
  exact Prod.ext rfl (q_not (Nat.lt_of_lt_of_le hk (Nat.pow_le_pow_right (by decide) hD)) _)
theorem q_Fr_join {g g1 g2 : c_G} {w st st1 st2 D D2 : Nat} {v1 v2 : s_V} (h1 : q_Fr g g1 w st st1 v1 D) (h2 : q_Fr g1 g2 w st1 st2 v2 D2) (hD : D + 1 ≤ D2) (hD2 : D ≤ 28) (o : Int32) (f : Bool → Bool → Bool) (ho : (o = 7 ∧ f = and) ∨ (o = 8 ∧ f = or)) : q_Fr g (q_step g2 w st2 o 0 0) w st (st2 + 1) (fun e => f (v1 e) (v2 e)) D := by
  obtain ⟨r1, r2, r3⟩ := q_step_r (g := g2) (w := w) (st := st2) (a := o) (b := 0) (c := 0)
  have hs1 := h1.1
  have hs2 := h2.1
  refine ⟨by omega, fun i hi => ?_, fun e k W hk => ?_⟩
  · rw [r1, r2, r3, pk_un (by omega), pk_un (by omega), pk_un (by omega)]
    obtain ⟨a1, a2, a3⟩ := h2.2.1 i (by omega)
    rw [a1, a2, a3]
    exact h1.2.1 i hi
  have hk28 : k < 2 ^ 28 := Nat.lt_of_lt_of_le hk (Nat.pow_le_pow_right (by decide) hD2)
  have hk1 : 2 * k + q_b (v1 e) < 2 ^ D2 := by
    have h3 : 2 ^ (D + 1) ≤ 2 ^ D2 := Nat.pow_le_pow_right (by decide) hD
    rw [Nat.pow_succ] at h3
    unfold q_b
    split <;> omega
  have e1 : s_st (g2.1 (w + 1)) (g2.1 (w + 2)) (g2.1 (w + 3)) e (st1 - st) st (W, nI k) = (W, nI (2 * k + q_b (v1 e))) := by
    rw [s_st_cg (op' := g1.1 (w + 1)) (rel' := g1.1 (w + 2)) (num' := g1.1 (w + 3)) (st1 - st) st _ (fun j z1 z2 => h2.2.1 j (by omega))]
    exact h1.2.2 e k W hk
  rw [show st2 + 1 - st = ((st1 - st) + (st2 - st1)) + 1 by omega, s_st_add, r1, r2, r3, s_st_cg (op' := g2.1 (w + 1)) (rel' := g2.1 (w + 2)) (num' := g2.1 (w + 3)) ((st1 - st) + (st2 - st1)) st _ (fun j z1 z2 => ⟨pk_un (by omega), pk_un (by omega), pk_un (by omega)⟩), s_st_add, e1, show st + (st1 - st) = st1 by omega, h2.2.2 e _ W hk1, show st + (st1 - st + (st2 - st1)) = st2 by omega]
  show s_stp _ _ _ e st2 _ = _
  unfold s_stp
  rw [pk_us]
  rcases ho with ⟨rfl, rfl⟩ | ⟨rfl, rfl⟩
  · rw [if_neg (show ¬ (7 : Int32) = 6 by decide), if_pos rfl]
    exact Prod.ext rfl (q_andS hk28 _ _)
  · rw [if_neg (show ¬ (8 : Int32) = 6 by decide), if_neg (show ¬ (8 : Int32) = 7 by decide), if_pos rfl]
    exact Prod.ext rfl (q_orS hk28 _ _)
/-! numbers, letters -/
theorem q_dig48 {x : Int32} (h : (48 : Int32) ≤ x) (h2 : x ≤ 57) : ∃ d, d < 10 ∧ x = nI (48 + d) := by
  have a := Int32.le_iff_toInt_le.mp h
  have b := Int32.le_iff_toInt_le.mp h2
  have e48 : (48 : Int32).toInt = 48 := by decide
  have e57 : (57 : Int32).toInt = 57 := by decide
  rcases p_ix x (n := 58) (by decide) with q | q | ⟨k, hk, rfl⟩
  · have := Int32.lt_iff_toInt_lt.mp q
    have e0 : (0 : Int32).toInt = 0 := rfl
    omega
  · have := Int32.le_iff_toInt_le.mp q
    rw [nI_toInt (by decide)] at this
    omega
  · rw [nI_toInt (by omega)] at a b
    exact ⟨k - 48, by omega, by rw [show 48 + (k - 48) = k by omega]⟩
theorem s_dig_iff {t : Nat → Int32} {n p : Nat} : s_dig t n p = true ↔ p < n ∧ (48 : Int32) ≤ t p ∧ t p ≤ 57 := by
  simp [s_dig]
theorem s_num_N {t : Nat → Int32} {n p : Nat} {x : Int32} {q : Nat} (h : s_num t n p = .ok (x, q)) : p_N x 100 := by
  unfold s_num at h
  by_cases q1 : s_dig t n p = true
  · rw [if_pos q1] at h
    obtain ⟨d, hd, ed⟩ := q_dig48 (s_dig_iff.mp q1).2.1 (s_dig_iff.mp q1).2.2
    have e1 : t p - 48 = nI d := by
      rw [ed, show (48 : Int32) = nI 48 from rfl, pk_sub (by omega), show 48 + d - 48 = d by omega]
    by_cases q2 : s_dig t n (p + 1) = true
    · rw [if_pos q2] at h
      obtain ⟨c, hc, ec⟩ := q_dig48 (s_dig_iff.mp q2).2.1 (s_dig_iff.mp q2).2.2
      cases h
      refine ⟨10 * d + c, by omega, ?_⟩
      rw [e1, ec, show (10 : Int32) = nI 10 from rfl, pk_mul, nI_add, show (48 : Int32) = nI 48 from rfl, pk_sub (by omega), show 10 * d + (48 + c) - 48 = 10 * d + c by omega]
    · rw [if_neg q2] at h
      cases h
      exact ⟨d, by omega, e1⟩
  · rw [if_neg q1] at h
    cases h
theorem x_digits {g0 g : c_G} {w n st p : Nat} {le : Int32} {t : Nat → Int32} (T : q_Tt g0 w t n) (h : q_Bs g0 w n le g st) (hp : p ≤ n) : fX10_digits (q_mv g w p) w = some (match s_num t n p with
    | .ok (x, q) => (q_mv g w q, x)
    | .error q => (q_mv g w q, -1)) := by
  have hn := T.2.1
  have step : ∀ (F p : Nat) (x1 x2 : Int32), ¬ (2 : Int32) ≤ x2 → p ≤ n → fX10_digits_4 w (F + 1) x1 x2 (q_mv g w p) = if s_dig t n p = true then fX10_digits_4 w F ((if 0 ≤ x1 then x1 * 10 else 0) + t p - 48) (x2 + 1) (q_mv g w (p + 1)) else some (q_mv g w p, x1) := by
    intro F p x1 x2 hx hp
    rw [fX10_digits_4, if_neg hx, q_mv_at, q_mv_ne _ _ _ (show ¬ (w = w ∧ 1 = 2) by omega), h.2.2.1]
    by_cases q : p < n
    · rw [if_neg (nI_ge q (by omega)), p_in (show p < 100 by omega) (by decide), if_pos rfl, nI_clamp (by omega), h.tx T q]
      by_cases q1 : t p < 48
      · rw [if_pos q1, if_neg (fun z => p_lnl q1 (s_dig_iff.mp z).2.1)]
      · rw [if_neg q1]
        by_cases q2 : 57 < t p
        · rw [if_pos q2, if_neg (fun z => p_lnl q2 (s_dig_iff.mp z).2.2)]
        · rw [if_neg q2, if_pos (s_dig_iff.mpr ⟨q, Int32.not_lt.mp q1, Int32.not_lt.mp q2⟩)]
          unfold fX10_digits_60
          rw [q_mv_at, p_in (show p < 100 by omega) (by decide), if_pos rfl, nI_clamp (show p < 2 ^ 31 by omega), h.tx T q, c_let_d, c_let_d, c_let_d, c_let_d, c_let_d, c_let_d, c_let_d, c_let_d, nI_1, show c_si (q_mv g w p) w 2 (nI (p + 1)) = q_mv g w (p + 1) from q_mv_mv g w p (p + 1)]
          split <;> rfl
    · rw [if_pos (nI_le (by omega) (by omega)), if_neg (fun z => q (s_dig_iff.mp z).1)]
  unfold fX10_digits s_num
  rw [if_pos T.1, show c_F = 4997 + 1 + 1 + 1 from rfl, step _ p (-1) 0 (by decide) hp]
  by_cases q1 : s_dig t n p = true
  · have l1 := s_dig_lt q1
    obtain ⟨d, hd, ed⟩ := q_dig48 (s_dig_iff.mp q1).2.1 (s_dig_iff.mp q1).2.2
    have e1 : t p - 48 = nI d := by
      rw [ed, show (48 : Int32) = nI 48 from rfl, pk_sub (by omega), show 48 + d - 48 = d by omega]
    rw [if_pos q1, if_pos q1, if_neg (show ¬ (0 : Int32) ≤ -1 by decide), Int32.zero_add, step _ (p + 1) _ _ (by decide) (by omega)]
    by_cases q2 : s_dig t n (p + 1) = true
    · rw [if_pos q2, if_pos q2, if_pos (show (0 : Int32) ≤ t p - 48 by rw [e1]; exact nI_pos' (by omega)), fX10_digits_4, if_pos (by decide), Int32.mul_comm]
    · rw [if_neg q2, if_neg q2]
  · rw [if_neg q1, if_neg q1]
theorem q_ixI (a1 : Nat) (a2 a3 a4 : Int32) (g g' : c_G) : ∀ (n : Nat) (x3 x4 x5 : Int32), fJ1_indexOfChar_4cfef_7 TC a1 a2 a3 a4 n x3 x4 x5 g = fJ1_indexOfChar_4cfef_7 TC a1 a2 a3 a4 n x3 x4 x5 g'
  | 0, _, _, _ => rfl
  | n + 1, x3, x4, x5 => by
    rw [fJ1_indexOfChar_4cfef_7, fJ1_indexOfChar_4cfef_7]
    simp only [c_let_d, q_ixI a1 a2 a3 a4 g g' n]
theorem q_ix00 (g : c_G) (k : Nat) (c : Int32) : fJ0_indexOf_0f7a4 TC g k c = fJ0_indexOf_0f7a4 TC g00 k c := by
  unfold fJ0_indexOf_0f7a4 fJ0_indexOf_7cf53 fJ1_indexOf_4cfef fJ1_indexOfChar_4cfef fJ0_isLatin1_aae02 fJ0_length_8abf5 fJ0_coder_7d493
  simp only [c_let_d, q_ixI _ _ _ _ g g00]
def q_ix3 (k : Nat) : Int32 := if k = 112 then 0 else if k = 107 then 1 else if k = 118 then 2 else if k = 120 then 3 else if k = 108 then 4 else if k = 97 then 5 else -1
def q_ix4 (k : Nat) : Int32 := if k = 60 then 0 else if k = 61 then 1 else if k = 62 then 2 else -1
theorem q_ix_all : ∀ k, k < 128 → fJ0_indexOf_0f7a4 TC g00 3 (((nI k).toUInt32 % 65536).toInt32) = some (q_ix3 k) ∧ fJ0_indexOf_0f7a4 TC g00 4 (((nI k).toUInt32 % 65536).toInt32) = some (q_ix4 k) := by decide +kernel
theorem x_oneOf {g0 g : c_G} {w n st p : Nat} {le : Int32} {t : Nat → Int32} (T : q_Tt g0 w t n) (h : q_Bs g0 w n le g st) (hp : p ≤ n) : fX10_oneOf (q_mv g w p) w 3 = some (match s_let t n p with
      | some a => (q_mv g w (p + 1), nI a)
      | none => (q_mv g w p, -1)) ∧ fX10_oneOf (q_mv g w p) w 4 = some (match s_rel t n p with
      | some a => (q_mv g w (p + 1), nI a)
      | none => (q_mv g w p, -1)) := by
  have hn := T.2.1
  unfold fX10_oneOf fX10_oneOf_29
  rw [if_pos T.1, if_pos T.1, if_pos (show 3 < 5 by decide), if_pos (show 4 < 5 by decide), q_mv_at, q_mv_ne _ _ _ (show ¬ (w = w ∧ 1 = 2) by omega), h.2.2.1]
  by_cases q : p < n
  · obtain ⟨k, hk, ek⟩ := (T.2.2 p q).2
    rw [if_neg (nI_ge q (by omega)), if_neg (nI_ge q (by omega)), p_in (show p < 100 by omega) (by decide), if_pos rfl, if_pos rfl, nI_clamp (by omega), h.tx T q, q_ix00 (q_mv g w p) 3, q_ix00 (q_mv g w p) 4, ek, (q_ix_all k hk).1, (q_ix_all k hk).2, Option.bind_some, Option.bind_some, c_let_d, c_let_d, c_let_d, c_let_d, nI_1, show c_si (q_mv g w p) w 2 (nI (p + 1)) = q_mv g w (p + 1) from q_mv_mv g w p (p + 1)]
    have at1 : ∀ c : Nat, c < 128 → (s_at t n p (nI c) = true ↔ k = c) := fun c hc => by
      rw [s_at_iff, ek]
      exact ⟨fun z => (nI_eq (by omega) (by omega)).mp z.2, fun z => ⟨q, by rw [z]⟩⟩
    constructor
    · unfold s_let q_ix3
      simp only [show (s_at t n p 112 = true) = (k = 112) from propext (at1 112 (by decide)), show (s_at t n p 107 = true) = (k = 107) from propext (at1 107 (by decide)), show (s_at t n p 118 = true) = (k = 118) from propext (at1 118 (by decide)), show (s_at t n p 120 = true) = (k = 120) from propext (at1 120 (by decide)), show (s_at t n p 108 = true) = (k = 108) from propext (at1 108 (by decide)), show (s_at t n p 97 = true) = (k = 97) from propext (at1 97 (by decide))]
      by_cases c0 : k = 112
      · subst c0; rfl
      by_cases c1 : k = 107
      · subst c1; rfl
      by_cases c2 : k = 118
      · subst c2; rfl
      by_cases c3 : k = 120
      · subst c3; rfl
      by_cases c4 : k = 108
      · subst c4; rfl
      by_cases c5 : k = 97
      · subst c5; rfl
      simp only [c0, c1, c2, c3, c4, c5, ↓reduceIte]
      rfl
    · unfold s_rel q_ix4
      simp only [show (s_at t n p 60 = true) = (k = 60) from propext (at1 60 (by decide)), show (s_at t n p 61 = true) = (k = 61) from propext (at1 61 (by decide)), show (s_at t n p 62 = true) = (k = 62) from propext (at1 62 (by decide))]
      by_cases c0 : k = 60
      · subst c0; rfl
      by_cases c1 : k = 61
      · subst c1; rfl
      by_cases c2 : k = 62
      · subst c2; rfl
      simp only [c0, c1, c2, ↓reduceIte]
      rfl
  · have ne : ∀ c, ¬ s_at t n p c = true := fun c z => q (s_at_iff.mp z).1
    rw [if_pos (nI_le (by omega) (by omega)), if_pos (nI_le (by omega) (by omega))]
    unfold s_let s_rel
    simp only [ne, ↓reduceIte]
    exact ⟨rfl, rfl⟩
