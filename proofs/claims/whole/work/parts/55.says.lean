/-! PURE: what a child says, told by the row of the reference -/
def q_env (m : Nat → Int32) (c : Nat) (v : Int32) (x e : Nat) : Nat → Int32
  | 0 => nI c
  | 1 => m (24 + 9 * c)
  | 2 => v
  | 3 => nI x
  | 4 => m (4 * e)
  | _ => m (24 + 9 * c + 3) - m (24 + 9 * c + 3) / (10 : Int32) * (10 : Int32)
def q_kindfit (k sum v look age row : Int32) (x : Nat) : Int32 :=
  if k = 1 then sum + (if x < 6 then v else 0) else if k = 2 then sum / (2 : Int32) else if k = 3 then sum - (2 : Int32) * look else if k = 4 then (if age < v then 0 else sum + (if x < 6 then v else 0)) else if k = 5 then -(sum / (2 : Int32)) else if k = 6 then sum - (2 : Int32) * look + row else sum
def q_fit (m : Nat → Int32) (W : (Nat → Int32) → Int32) (c : Nat) (v : Int32) (e x : Nat) : Int32 :=
  q_kindfit (m (24 + 9 * c)) (m (4 * e) + W (q_env m c v x e)) v (m (4 * e)) (m (24 + 9 * c + 3)) (m (24 + 9 * c + (5 + x % 4))) x
def q_best (f : Nat → Int32) (P : Nat → Bool) : Nat → Nat → Int32 → Int32 → Int32
  | 0, _, b, _ => b
  | k + 1, w, b, mo => if P w = true ∧ mo < f w then q_best f P k (w + 1) (nI w) (f w) else q_best f P k (w + 1) b mo
def q_usedL (m : Nat → Int32) : Nat → Nat → Int32 → Int32
  | 0, _, b => b
  | k + 1, e, b => q_usedL m k (e + 1) (if m (4 * e + 1) = -1 then b else b ||| ((1 : Int32) <<< (m (4 * e + 1) &&& 31)))
def q_used (m : Nat → Int32) : Int32 := q_usedL m 6 0 (m 79)
def q_namedL (m : Nat → Int32) : Nat → Nat → Nat → Nat
  | 0, _, b => b
  | k + 1, e, b => q_namedL m k (e + 1) (if m (4 * e + 1) = -1 then b else b + 1)
def q_named (m : Nat → Int32) : Nat := q_namedL m 6 0 0
def q_mute (m : Nat → Int32) (e : Nat) : Bool := !decide (m (4 * e + 1) = -1) || decide (m (4 * e + 3) = 1)
def q_says (m : Nat → Int32) (W : (Nat → Int32) → Int32) (c : Nat) (v kn : Int32) (e : Nat) : Int32 :=
  if q_mute m e = true then -1 else q_best (q_fit m W c v e) (fun w => b_bit (kn &&& (q_used m ^^^ (-1))) w) 12 0 (-1) 0
theorem q_best_O (f : Nat → Int32) (P : Nat → Bool) : ∀ (k w : Nat) (b mo : Int32), w + k ≤ 12 → p_O b 12 → p_O (q_best f P k w b mo) 12
  | 0, w, b, mo, _, h => h
  | k + 1, w, b, mo, hw, h => by
    unfold q_best
    split
    · exact q_best_O f P k (w + 1) _ _ (by omega) (Or.inr ⟨w, by omega, rfl⟩)
    · exact q_best_O f P k (w + 1) _ _ (by omega) h
theorem q_says_O (m : Nat → Int32) (W : (Nat → Int32) → Int32) (c : Nat) (v kn : Int32) (e : Nat) : p_O (q_says m W c v kn e) 12 := by
  unfold q_says
  split
  · exact Or.inl rfl
  · exact q_best_O _ _ 12 0 _ _ (by decide) (Or.inl rfl)
theorem q_namedL_le (m : Nat → Int32) : ∀ (k e b : Nat), q_namedL m k e b ≤ b + k
  | 0, e, b => by show b ≤ b + 0; omega
  | k + 1, e, b => by
    unfold q_namedL
    split
    · have := q_namedL_le m k (e + 1) b; omega
    · have := q_namedL_le m k (e + 1) (b + 1); omega
theorem q_named_le (m : Nat → Int32) : q_named m ≤ 6 := by
  have := q_namedL_le m 6 0 0
  unfold q_named
  omega
/-! the class's side -/
theorem p_or5 {n : Nat} {x : Int32} (hn : n < 2 ^ 31) (hx : p_O x n) : p_or x = -5 ↔ x = -1 := by
  rcases hx with rfl | ⟨i, hi, rfl⟩
  · exact ⟨fun _ => rfl, fun _ => rfl⟩
  · rw [p_or_nI (by omega)]
    exact ⟨fun z => absurd z (p_5N (by omega)), fun z => absurd z (p_mN (by omega))⟩
theorem p_orN {x : Int32} (h : ¬ x = -1) : p_or x = x := if_neg h
theorem p_lnl {x y : Int32} (h : x < y) : ¬ y ≤ x := fun z => by
  have z1 := Int32.lt_iff_toInt_lt.mp h
  have z2 := Int32.le_iff_toInt_le.mp z
  omega
theorem c_used {g : c_G} {s : Nat} {m : Nat → Int32} (hs : p_St g s m) (hS : c_isS s = true) : fX7_used g s = some (q_used m) := by
  have loop : ∀ (k e F : Nat) (b : Int32), e + k = 6 → k < F → fX7_used_7 s F b (nI e) g = some (q_usedL m k e b) := by
    intro k
    induction k with
    | zero =>
      intro e F b he hF
      obtain ⟨F, rfl⟩ : ∃ f, F = f + 1 := ⟨F - 1, by omega⟩
      rw [fX7_used_7, if_pos (show (6 : Int32) ≤ nI e from nI_le (a := 6) (by omega) (by omega))]
      rfl
    | succ k ih =>
      intro e F b he hF
      obtain ⟨F, rfl⟩ : ∃ f, F = f + 1 := ⟨F - 1, by omega⟩
      have he6 : e < 6 := by omega
      rw [fX7_used_7, if_neg (show ¬ (6 : Int32) ≤ nI e from nI_ge (b := 6) (by omega) (by decide)), p_in he6 (by decide), if_pos rfl, nI_clamp (by omega), hs.nameC he6]
      unfold fX7_used_35 q_usedL
      by_cases q : m (4 * e + 1) = -1
      · rw [if_pos ((p_or5 (by decide) (hs.okname he6)).mpr q), if_pos q, c_let_d, nI_1]
        exact ih (e + 1) F b (by omega) (by omega)
      · rw [if_neg (fun z => q ((p_or5 (by decide) (hs.okname he6)).mp z)), if_neg q, c_let_d, c_let_d, nI_1, p_orN q]
        exact ih (e + 1) F _ (by omega) (by omega)
  unfold fX7_used
  rw [if_pos hS]
  have e4 : g.1 s 4 = m 79 := (hs.1 79).symm
  rw [e4]
  exact loop 6 0 c_F (m 79) rfl (by decide)
theorem c_named {g : c_G} {s : Nat} {m : Nat → Int32} (hs : p_St g s m) (hS : c_isS s = true) : fX7_named g s = some (nI (q_named m)) := by
  have loop : ∀ (k e F b : Nat), e + k = 6 → k < F → fX7_named_4 s F (nI b) (nI e) g = some (nI (q_namedL m k e b)) := by
    intro k
    induction k with
    | zero =>
      intro e F b he hF
      obtain ⟨F, rfl⟩ : ∃ f, F = f + 1 := ⟨F - 1, by omega⟩
      rw [fX7_named_4, if_pos (show (6 : Int32) ≤ nI e from nI_le (a := 6) (by omega) (by omega))]
      rfl
    | succ k ih =>
      intro e F b he hF
      obtain ⟨F, rfl⟩ : ∃ f, F = f + 1 := ⟨F - 1, by omega⟩
      have he6 : e < 6 := by omega
      rw [fX7_named_4, if_neg (show ¬ (6 : Int32) ≤ nI e from nI_ge (b := 6) (by omega) (by decide)), p_in he6 (by decide), if_pos rfl, nI_clamp (by omega), hs.nameC he6]
      unfold fX7_named_24 q_namedL
      by_cases q : m (4 * e + 1) = -1
      · rw [if_pos ((p_or5 (by decide) (hs.okname he6)).mpr q), if_pos q, c_let_d, nI_1]
        exact ih (e + 1) F b (by omega) (by omega)
      · rw [if_neg (fun z => q ((p_or5 (by decide) (hs.okname he6)).mp z)), if_neg q, c_let_d, c_let_d, nI_1, nI_1]
        exact ih (e + 1) F _ (by omega) (by omega)
  unfold fX7_named
  rw [if_pos hS]
  exact loop 6 0 c_F 0 rfl (by decide)
theorem p_St.okhid {g : c_G} {s : Nat} {m : Nat → Int32} (h : p_St g s m) {e : Nat} (he : e < 6) : p_N (m (4 * e + 3)) 2 := by
  have z := h.2.2.1.1 (4 * e + 3) (by omega)
  unfold p_ok at z
  rwa [if_pos (by omega), if_neg (by omega), if_neg (by omega), if_neg (by omega)] at z
theorem c_listens {g : c_G} {s : Nat} {m : Nat → Int32} (hs : p_St g s m) (hS : c_isS s = true) {e : Nat} (he : e < 6) : fX7_listens g s (nI e) = some (if q_mute m e = true then 0 else 1) := by
  unfold fX7_listens
  rw [if_pos hS, p_in he (by decide), if_pos rfl, nI_clamp (by omega), hs.nameC he, show g.1 (s + 4) e = m (4 * e + 3) by rw [hs.1, p_al_hid _ _ he]]
  obtain ⟨k, hk, ek⟩ := hs.okhid he
  unfold q_mute
  rw [ek]
  by_cases q : m (4 * e + 1) = -1
  · rw [if_pos ((p_or5 (by decide) (hs.okname he)).mpr q)]
    rcases (show k = 0 ∨ k = 1 by omega) with rfl | rfl
    · simp [q, nI]
    · simp [q, nI]
  · rw [if_neg (fun z => q ((p_or5 (by decide) (hs.okname he)).mp z))]
    simp [q]
theorem c_best (g : c_G) {h N fr : Nat} (hN : c_ia TC h = some N) (hf : fr + 12 ≤ N) (hN2 : N < 10000) (ws : Int32) : fX11_best g h (nI fr) ws = some (p_or (q_best (fun w => g.1 h (fr + w)) (b_bit ws) 12 0 (-1) 0)) := by
  have loop : ∀ (k w F : Nat) (b mo : Int32), w + k = 12 → k < F → p_O b 12 → fX11_best_9 h (nI fr) ws F (nI fr) ws (p_or b) mo (nI w) g = some (p_or (q_best (fun w => g.1 h (fr + w)) (b_bit ws) k w b mo)) := by
    intro k
    induction k with
    | zero =>
      intro w F b mo hw hF hb
      obtain ⟨F, rfl⟩ : ∃ f, F = f + 1 := ⟨F - 1, by omega⟩
      rw [fX11_best_9, if_pos (show (12 : Int32) ≤ nI w from nI_le (a := 12) (by omega) (by omega))]
      rfl
    | succ k ih =>
      intro w F b mo hw hF hb
      obtain ⟨F, rfl⟩ : ∃ f, F = f + 1 := ⟨F - 1, by omega⟩
      rw [fX11_best_9, if_neg (show ¬ (12 : Int32) ≤ nI w from nI_ge (b := 12) (by omega) (by decide)), hN]
      unfold q_best fX11_best_48
      rw [Option.bind_some, nI_add, p_in (show fr + w < N by omega) (by omega), if_pos rfl, nI_clamp (by omega)]
      by_cases q : b_bit ws w = true
      · rw [if_pos ((b_shr1 ws (by omega)).mpr q)]
        by_cases q2 : mo < g.1 h (fr + w)
        · rw [if_neg (p_lnl q2), if_pos ⟨q, q2⟩, c_let_d, nI_1]
          have := ih (w + 1) F (nI w) (g.1 h (fr + w)) (by omega) (by omega) (Or.inr ⟨w, by omega, rfl⟩)
          rwa [p_or_nI (by omega)] at this
        · rw [if_pos (Int32.not_lt.mp q2), if_neg (fun z => q2 z.2), c_let_d, nI_1]
          exact ih (w + 1) F b mo (by omega) (by omega) hb
      · rw [if_neg (fun z => q ((b_shr1 ws (by omega)).mp z)), if_neg (fun z => q z.1), c_let_d, nI_1]
        exact ih (w + 1) F b mo (by omega) (by omega) hb
  unfold fX11_best
  exact loop 12 0 c_F (-1) 0 rfl (by decide) (Or.inl rfl)
/-! the steps -/
theorem s_ev_cg {op rel num e e' : Nat → Int32} (h : ∀ k, k < 6 → e k = e' k) : ∀ (k i : Nat) (w b : Int32), (∀ j, i ≤ j → j < i + k → p_N (op j) 10) → s_ev op rel num e k i w b = s_ev op rel num e' k i w b
  | 0, i, w, b, _ => rfl
  | k + 1, i, w, b, ho => by
    have ih := fun w b => s_ev_cg (rel := rel) (num := num) h k (i + 1) w b (fun j h1 h2 => ho j (by omega) (by omega))
    unfold s_ev
    obtain ⟨o, h1, h2⟩ := ho i (by omega) (by omega)
    rw [h2]
    by_cases q6 : o = 6
    · subst q6; exact ih _ _
    · by_cases q7 : o = 7
      · subst q7; exact ih _ _
      · by_cases q8 : o = 8
        · subst q8; exact ih _ _
        · by_cases q9 : o = 9
          · subst q9; exact ih _ _
          · have ne : ∀ z, z < 100 → o ≠ z → ¬ nI o = nI z := fun z hz hne w => hne ((nI_eq (by omega) (by omega)).mp w)
            simp only [show ¬ nI o = (6 : Int32) from ne 6 (by decide) q6, show ¬ nI o = (7 : Int32) from ne 7 (by decide) q7, show ¬ nI o = (8 : Int32) from ne 8 (by decide) q8, show ¬ nI o = (9 : Int32) from ne 9 (by decide) q9, ↓reduceIte]
            rw [nI_clamp (by omega), h o (by omega), ih]
theorem p_W.cg {g : c_G} {v : Nat} {W : (Nat → Int32) → Int32} (h : p_W g v W) {e e' : Nat → Int32} (he : ∀ k, k < 6 → e k = e' k) : W e = W e' := by
  obtain ⟨st, h1, h2, h3, h4⟩ := h
  rw [← h4 e, ← h4 e']
  exact s_ev_cg he st 0 0 0 fun j _ hj => (h3 j (by omega)).1
theorem c_holds (x n : Int32) {r : Nat} (hr : r < 3) : fX10_holds x (nI r) n = if s_cmp r x n = true then 1 else 0 := by
  unfold fX10_holds
  rcases (show r = 0 ∨ r = 1 ∨ r = 2 by omega) with rfl | rfl | rfl
  · rw [if_pos (show nI 0 = (0 : Int32) from rfl), show s_cmp 0 x n = decide (x < n) from rfl]
    by_cases q : x < n
    · rw [if_neg (p_lnl q), if_pos (decide_eq_true q)]
    · rw [if_pos (Int32.not_lt.mp q), if_neg (fun z => q (of_decide_eq_true z))]
  · rw [if_neg (show ¬ nI 1 = (0 : Int32) by decide), if_pos (show nI 1 = (1 : Int32) from rfl), show s_cmp 1 x n = decide (x = n) from rfl]
    by_cases q : x = n
    · rw [if_pos q, if_pos (decide_eq_true q)]
    · rw [if_neg q, if_neg (fun z => q (of_decide_eq_true z))]
  · rw [if_neg (show ¬ nI 2 = (0 : Int32) by decide), if_neg (show ¬ nI 2 = (1 : Int32) by decide), show s_cmp 2 x n = decide (n < x) from rfl]
    by_cases q : n < x
    · rw [if_neg (p_lnl q), if_pos (decide_eq_true q)]
    · rw [if_pos (Int32.not_lt.mp q), if_neg (fun z => q (of_decide_eq_true z))]
theorem c_weight {g : c_G} {v : Nat} (hv : c_isV v = true) {W : (Nat → Int32) → Int32} (h : p_W g v W) : fX10_weight g v = some (W (g.1 3)) := by
  obtain ⟨st, h1, h2, h3, h4⟩ := h
  have loop : ∀ (k i F : Nat) (w b : Int32), i + k = st → k < F → fX10_weight_7 v F w b (nI i) g = some (s_ev (g.1 (v + 1)) (g.1 (v + 2)) (g.1 (v + 3)) (g.1 3) k i w b) := by
    intro k
    induction k with
    | zero =>
      intro i F w b hi hF
      obtain ⟨F, rfl⟩ : ∃ f, F = f + 1 := ⟨F - 1, by omega⟩
      rw [fX10_weight_7, h2, if_pos (nI_le (by omega) (by omega))]
      rfl
    | succ k ih =>
      intro i F w b hi hF
      obtain ⟨F, rfl⟩ : ∃ f, F = f + 1 := ⟨F - 1, by omega⟩
      obtain ⟨⟨o, ho, eo⟩, r, hr, er⟩ := h3 i (by omega)
      have ih' := fun w b => ih (i + 1) F w b (by omega) (by omega)
      have o1 : (1 : Int32) &&& 31 = 1 := by decide
      rw [fX10_weight_7, h2, if_neg (nI_ge (by omega) (by omega)), p_in (show i < 100 by omega) (by decide), if_pos rfl, nI_clamp (by omega), eo, er, o1]
      unfold s_ev fX10_weight_138 fX10_weight_140
      simp only [c_let_d, nI_1, eo, er]
      have ne : ∀ z, z < 100 → o ≠ z → ¬ nI o = nI z := fun z hz hne w => hne ((nI_eq (by omega) (by omega)).mp w)
      by_cases q6 : o = 6
      · subst q6; exact ih' _ _
      · by_cases q7 : o = 7
        · subst q7; exact ih' _ _
        · by_cases q8 : o = 8
          · subst q8; exact ih' _ _
          · by_cases q9 : o = 9
            · subst q9; exact ih' _ _
            · simp only [show ¬ nI o = (6 : Int32) from ne 6 (by decide) q6, show ¬ nI o = (7 : Int32) from ne 7 (by decide) q7, show ¬ nI o = (8 : Int32) from ne 8 (by decide) q8, show ¬ nI o = (9 : Int32) from ne 9 (by decide) q9, ↓reduceIte]
              rw [p_in (show o < 8 by omega) (by decide), if_pos rfl, nI_clamp (by omega), nI_clamp (show r < 2 ^ 31 by omega), c_holds _ _ hr]
              by_cases q : s_cmp r (g.1 3 o) (g.1 (v + 3) i) = true
              · rw [if_pos q, if_neg (by decide)]
                exact ih' _ _
              · rw [if_neg q, if_pos rfl]
                exact ih' _ _
  unfold fX10_weight
  rw [if_pos hv, ← h4]
  exact loop st 0 c_F 0 0 (by omega) (show st < 5000 by omega)
