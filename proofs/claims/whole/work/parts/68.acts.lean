/-! PURE: acts -/
def a_L (k : Nat) (i v x : Int32) : List Int32 × Int32 := if k = 2 ∨ k = 5 then ([30, 10], x * 3 + i) else if k = 4 then ([50, 10], -(x + i)) else if k = 6 then ([71, 10], (x + i) ^^^ v) else ([10], x + i)
def a_P0 (K : Nat) (i v x : Int32) : List Int32 × Int32 := (11 :: (a_L K i v x).1, (a_L K i v x).2 - v)
def a_P (k K : Nat) (i v x : Int32) : List Int32 × Int32 := if k = 1 then (20 :: (a_P0 K i v x).1, (a_P0 K i v x).2 ^^^ 6) else if k = 4 then (51 :: 20 :: (a_P0 K i v (x + 1)).1, (a_P0 K i v (x + 1)).2 ^^^ 6) else if k = 6 then (70 :: ((a_P0 K i v x).1 ++ [10]), (a_P0 K i v x).2 + (2 + i)) else a_P0 K i v x
def a_T0 (K : Nat) (i v x : Int32) : List Int32 × Int32 := (12 :: (a_P K K i v x).1, (a_P K K i v x).2 * 2)
def a_T (k K : Nat) (i v x : Int32) : List Int32 × Int32 := if k = 3 ∨ k = 6 then (40 :: ((a_T0 K i v x).1 ++ (a_P K K i v 1).1), (a_T0 K i v x).2 + (a_P K K i v 1).2) else if k = 5 then (60 :: (a_T0 K i v (x - i)).1, (a_T0 K i v (x - i)).2) else a_T0 K i v x
theorem a_L_len (k : Nat) (i v x : Int32) : (a_L k i v x).1.length ≤ 2 := by
  unfold a_L
  repeat' split
  all_goals simp
theorem a_P0_len (K : Nat) (i v x : Int32) : (a_P0 K i v x).1.length ≤ 3 := Nat.succ_le_succ (a_L_len K i v x)
theorem a_P_len (k K : Nat) (i v x : Int32) : (a_P k K i v x).1.length ≤ 5 := by
  have h1 := a_P0_len K i v x
  have h2 := a_P0_len K i v (x + 1)
  unfold a_P
  repeat' split
  all_goals (try simp only [List.length_cons, List.length_append, List.length_nil])
  all_goals omega
theorem a_T0_len (K : Nat) (i v x : Int32) : (a_T0 K i v x).1.length ≤ 6 := Nat.succ_le_succ (a_P_len K K i v x)
theorem a_T_len (k K : Nat) (i v x : Int32) : (a_T k K i v x).1.length ≤ 12 := by
  have h1 := a_T0_len K i v x
  have h2 := a_T0_len K i v (x - i)
  have h3 := a_P_len K K i v 1
  unfold a_T
  repeat' split
  all_goals (try simp only [List.length_cons, List.length_append])
  all_goals omega

def p1C (g : c_G) (b : Int32) : c_G := c_si (if (20 : Int32) ≤ g.1 8 2 then g else c_si g 9 (g.1 8 2).toNatClampNeg b) 8 2 (g.1 8 2 + 1)
def pC (g : c_G) : List Int32 → c_G
  | [] => g
  | b :: l => pC (p1C g b) l
theorem pC_app : ∀ (l : List Int32) (g : c_G) (l2 : List Int32), pC g (l ++ l2) = pC (pC g l) l2
  | [], _, _ => rfl
  | b :: l, g, l2 => pC_app l (p1C g b) l2
theorem pC_c (g : c_G) (b : Int32) (l : List Int32) (r : Int32) : some (pC (p1C g b) l, r) = some (pC g (b :: l), r) := rfl
/-- so many more bodies may run -/
def okC (g : c_G) (n : Nat) : Prop := ∃ r, g.1 8 2 = nI r ∧ r + n ≤ 1000
def frC (g g' : c_G) : Prop := (∀ a q, ¬ (a = 9 ∨ (a = 8 ∧ q = 2)) → g'.1 a q = g.1 a q) ∧ g'.2 = g.2
theorem frC.rf (g : c_G) : frC g g := ⟨fun _ _ _ => rfl, rfl⟩
theorem frC.tr {a b c : c_G} (h : frC a b) (h2 : frC b c) : frC a c := ⟨fun x y z => (h2.1 x y z).trans (h.1 x y z), h2.2.trans h.2⟩
theorem p1C_fr (g : c_G) (b : Int32) : frC g (p1C g b) := by
  unfold p1C
  refine ⟨fun a q z => ?_, ?_⟩
  · rw [p_si_ne _ _ _ _ (by omega)]
    split
    · rfl
    · rw [p_si_ne _ _ _ _ (by omega)]
  · show (if _ then g else _).2 = g.2
    split <;> rfl
theorem p1C_ok {g : c_G} {n : Nat} (h : okC g (n + 1)) (b : Int32) : okC (p1C g b) n := by
  obtain ⟨r, h1, h2⟩ := h
  refine ⟨r + 1, ?_, by omega⟩
  unfold p1C
  rw [p_si_at, h1, nI_1]
theorem pC_fr : ∀ (l : List Int32) (g : c_G), frC g (pC g l)
  | [], g => frC.rf g
  | b :: l, g => (p1C_fr g b).tr (pC_fr l (p1C g b))
theorem pC_ok : ∀ (l : List Int32) {g : c_G} {n : Nat}, okC g (l.length + n) → okC (pC g l) n
  | [], g, n, h => by
    rw [show ([] : List Int32).length + n = n from Nat.zero_add n] at h
    exact h
  | b :: l, g, n, h => by
    refine pC_ok l (p1C_ok ?_ b)
    rw [List.length_cons, show l.length + 1 + n = l.length + n + 1 by omega] at h
    exact h
theorem okC.le {g : c_G} {n k : Nat} (h : okC g n) (hk : k ≤ n) : okC g k := by
  obtain ⟨r, h1, h2⟩ := h
  exact ⟨r, h1, by omega⟩
theorem x_C {g : c_G} {n : Nat} (h : okC g (n + 1)) (b : Int32) : fX0_begin g b = some (p1C g b) := by
  obtain ⟨r, h1, h2⟩ := h
  unfold fX0_begin fX0_begin_22 p1C
  by_cases q : (20 : Int32) ≤ g.1 8 2
  · rw [if_pos q, if_pos q, c_let_d, c_let_d]
  · rw [if_neg q, if_neg q, c_let_d, c_let_d, c_let_d, p_si_ne _ _ _ _ (by omega)]
    have : r < 20 := by
      rw [h1] at q
      by_cases z : r < 20
      · exact z
      · exact absurd (show (20 : Int32) ≤ nI r from nI_le (a := 20) (by omega) (by omega)) q
    rw [if_pos (show c_in (g.1 8 2) 20 = true by rw [h1]; exact p_in this (by decide))]
def p1M (g : c_G) (b : Int32) : c_G := c_si (if (20 : Int32) ≤ g.1 0 27 then g else c_si g 17 (g.1 0 27).toNatClampNeg b) 0 27 (g.1 0 27 + 1)
def pM (g : c_G) : List Int32 → c_G
  | [] => g
  | b :: l => pM (p1M g b) l
theorem pM_app : ∀ (l : List Int32) (g : c_G) (l2 : List Int32), pM g (l ++ l2) = pM (pM g l) l2
  | [], _, _ => rfl
  | b :: l, g, l2 => pM_app l (p1M g b) l2
theorem pM_c (g : c_G) (b : Int32) (l : List Int32) (r : Int32) : some (pM (p1M g b) l, r) = some (pM g (b :: l), r) := rfl
/-- so many more bodies may run -/
def okM (g : c_G) (n : Nat) : Prop := ∃ r, g.1 0 27 = nI r ∧ r + n ≤ 1000
def frM (g g' : c_G) : Prop := (∀ a q, ¬ (a = 17 ∨ (a = 0 ∧ q = 27)) → g'.1 a q = g.1 a q) ∧ g'.2 = g.2
theorem frM.rf (g : c_G) : frM g g := ⟨fun _ _ _ => rfl, rfl⟩
theorem frM.tr {a b c : c_G} (h : frM a b) (h2 : frM b c) : frM a c := ⟨fun x y z => (h2.1 x y z).trans (h.1 x y z), h2.2.trans h.2⟩
theorem p1M_fr (g : c_G) (b : Int32) : frM g (p1M g b) := by
  unfold p1M
  refine ⟨fun a q z => ?_, ?_⟩
  · rw [p_si_ne _ _ _ _ (by omega)]
    split
    · rfl
    · rw [p_si_ne _ _ _ _ (by omega)]
  · show (if _ then g else _).2 = g.2
    split <;> rfl
theorem p1M_ok {g : c_G} {n : Nat} (h : okM g (n + 1)) (b : Int32) : okM (p1M g b) n := by
  obtain ⟨r, h1, h2⟩ := h
  refine ⟨r + 1, ?_, by omega⟩
  unfold p1M
  rw [p_si_at, h1, nI_1]
theorem pM_fr : ∀ (l : List Int32) (g : c_G), frM g (pM g l)
  | [], g => frM.rf g
  | b :: l, g => (p1M_fr g b).tr (pM_fr l (p1M g b))
theorem pM_ok : ∀ (l : List Int32) {g : c_G} {n : Nat}, okM g (l.length + n) → okM (pM g l) n
  | [], g, n, h => by
    rw [show ([] : List Int32).length + n = n from Nat.zero_add n] at h
    exact h
  | b :: l, g, n, h => by
    refine pM_ok l (p1M_ok ?_ b)
    rw [List.length_cons, show l.length + 1 + n = l.length + n + 1 by omega] at h
    exact h
theorem okM.le {g : c_G} {n k : Nat} (h : okM g n) (hk : k ≤ n) : okM g k := by
  obtain ⟨r, h1, h2⟩ := h
  exact ⟨r, h1, by omega⟩
theorem x_M {g : c_G} {n : Nat} (h : okM g (n + 1)) (b : Int32) : fX12_body g b = some (p1M g b, b) := by
  obtain ⟨r, h1, h2⟩ := h
  unfold fX12_body fX12_body_19 p1M
  by_cases q : (20 : Int32) ≤ g.1 0 27
  · rw [if_pos q, if_pos q, c_let_d, c_let_d]
  · rw [if_neg q, if_neg q, c_let_d, c_let_d, c_let_d, p_si_ne _ _ _ _ (by omega)]
    have : r < 20 := by
      rw [h1] at q
      by_cases z : r < 20
      · exact z
      · exact absurd (show (20 : Int32) ≤ nI r from nI_le (a := 20) (by omega) (by omega)) q
    rw [if_pos (show c_in (g.1 0 27) 20 = true by rw [h1]; exact p_in this (by decide))]
/-! the class's bodies -/
def okA (g : c_G) (i v : Int32) (n : Nat) : Prop := okC g n ∧ g.1 8 0 = i ∧ g.1 8 1 = v
theorem okA.le {g : c_G} {i v : Int32} {n k : Nat} (h : okA g i v n) (hk : k ≤ n) : okA g i v k := ⟨h.1.le hk, h.2⟩
theorem okA.p1 {g : c_G} {i v : Int32} {n : Nat} (h : okA g i v (n + 1)) (b : Int32) : okA (p1C g b) i v n := ⟨p1C_ok h.1 b, by rw [(p1C_fr g b).1 8 0 (by omega)]; exact h.2.1, by rw [(p1C_fr g b).1 8 1 (by omega)]; exact h.2.2⟩
theorem okA.p {g : c_G} {i v : Int32} {n k : Nat} (h : okA g i v (k + n)) {l : List Int32} (hl : l.length ≤ k) : okA (pC g l) i v n := ⟨pC_ok l (h.1.le (by omega)), by rw [(pC_fr l g).1 8 0 (by omega)]; exact h.2.1, by rw [(pC_fr l g).1 8 1 (by omega)]; exact h.2.2⟩
theorem xL2 {g : c_G} {i v : Int32} (h : okA g i v 1) {u : Nat} (hu : c_isK u = true) (x : Int32) : fX2_looks g u x = some (pC g [10], x + i) := by
  unfold fX2_looks
  rw [if_pos hu, x_C h.1, Option.bind_some, (p1C_fr g 10).1 8 0 (by omega), h.2.1]
  rfl
theorem xL9 {g : c_G} {i v : Int32} (h : okA g i v 2) {u : Nat} (hu : c_isK u = true) (x : Int32) : fX9_looks g u x = some (pC g [30, 10], x * 3 + i) := by
  unfold fX9_looks
  rw [if_pos hu, x_C h.1, Option.bind_some, xL2 (h.p1 30) hu, c_b2s]
  exact pC_c _ _ _ _
theorem xL {g : c_G} {i v : Int32} (h : okA g i v 2) {k : Nat} (hk : k < 7) (x : Int32) : v_looks g (20 + k) x = some (pC g (a_L k i v x).1, (a_L k i v x).2) := by
  unfold v_looks
  rcases (show k = 0 ∨ k = 1 ∨ k = 2 ∨ k = 3 ∨ k = 4 ∨ k = 5 ∨ k = 6 by omega) with rfl | rfl | rfl | rfl | rfl | rfl | rfl
  · exact xL2 (h.le (by decide)) (u := 20) rfl x
  · exact xL2 (h.le (by decide)) (u := 21) rfl x
  · exact xL9 h (u := 22) rfl x
  · exact xL2 (h.le (by decide)) (u := 23) rfl x
  · show fX3_looks g x = some (pC g [50, 10], -(x + i))
    unfold fX3_looks
    rw [x_C h.1, Option.bind_some, xL2 (h.p1 50) (u := 24) rfl, c_b2s]
    exact pC_c _ _ _ _
  · exact xL9 h (u := 25) rfl x
  · show fX8_looks g x = some (pC g [71, 10], (x + i) ^^^ v)
    unfold fX8_looks
    have h1 := (h.p1 71).p (n := 0) (k := 1) (l := [10]) (by decide)
    rw [x_C h.1, Option.bind_some, xL2 (h.p1 71) (u := 26) rfl, c_b2s, h1.2.2]
    exact pC_c _ _ _ _
theorem c_isK20 {k : Nat} (hk : k < 7) : c_isK (20 + k) = true := by
  simp only [c_isK, Bool.and_eq_true, decide_eq_true_eq]
  omega
theorem xP2 {g : c_G} {i v : Int32} (h : okA g i v 3) {k : Nat} (hk : k < 7) (x : Int32) : fX2_points g (20 + k) x = some (pC g (a_P0 k i v x).1, (a_P0 k i v x).2) := by
  unfold fX2_points
  have h1 := (h.p1 11).p (n := 0) (k := 2) (a_L_len k i v x)
  rw [if_pos (c_isK20 hk), x_C h.1, Option.bind_some, xL (h.p1 11) hk, c_b2s, h1.2.2]
  exact pC_c _ _ _ _
theorem xP1 {g : c_G} {i v : Int32} (h : okA g i v 4) {k : Nat} (hk : k < 7) (x : Int32) : fX1_points g (20 + k) x = some (pC g (20 :: (a_P0 k i v x).1), (a_P0 k i v x).2 ^^^ 6) := by
  unfold fX1_points
  rw [if_pos (c_isK20 hk), x_C h.1, Option.bind_some, xP2 (h.p1 20) hk, c_b2s]
  exact pC_c _ _ _ _
theorem xP8 {g : c_G} {i v : Int32} (h : okA g i v 5) (x : Int32) : fX8_points g x = some (pC g (a_P 6 6 i v x).1, (a_P 6 6 i v x).2) := by
  rw [show a_P 6 6 i v x = (70 :: ((a_P0 6 i v x).1 ++ [10]), (a_P0 6 i v x).2 + (2 + i)) from rfl]
  unfold fX8_points
  have h1 := (h.p1 70).p (n := 1) (k := 3) (a_P0_len 6 i v x)
  rw [x_C h.1, Option.bind_some, xP2 ((h.p1 70).le (by decide)) (k := 6) (by decide), c_b2s, xL2 h1 (u := 26) rfl, c_b2s, ← pC_app]
  exact pC_c _ _ _ _
theorem xP {g : c_G} {i v : Int32} (h : okA g i v 5) {k : Nat} (hk : k < 7) (x : Int32) : v_points g (20 + k) x = some (pC g (a_P k k i v x).1, (a_P k k i v x).2) := by
  unfold v_points
  rcases (show k = 0 ∨ k = 1 ∨ k = 2 ∨ k = 3 ∨ k = 4 ∨ k = 5 ∨ k = 6 by omega) with rfl | rfl | rfl | rfl | rfl | rfl | rfl
  · exact xP2 (h.le (by decide)) (k := 0) hk x
  · exact xP1 (h.le (by decide)) (k := 1) hk x
  · exact xP2 (h.le (by decide)) (k := 2) hk x
  · exact xP2 (h.le (by decide)) (k := 3) hk x
  · rw [show a_P 4 4 i v x = (51 :: 20 :: (a_P0 4 i v (x + 1)).1, (a_P0 4 i v (x + 1)).2 ^^^ 6) from rfl]
    show fX3_points g x = _
    unfold fX3_points
    rw [x_C h.1, Option.bind_some, xP1 (h.p1 51) (k := 4) hk, c_b2s]
    exact pC_c _ _ _ _
  · exact xP2 (h.le (by decide)) (k := 5) hk x
  · exact xP8 h x
theorem xT2 {g : c_G} {i v : Int32} (h : okA g i v 6) {k : Nat} (hk : k < 7) (x : Int32) : fX2_tells g (20 + k) x = some (pC g (a_T0 k i v x).1, (a_T0 k i v x).2) := by
  unfold fX2_tells
  rw [if_pos (c_isK20 hk), x_C h.1, Option.bind_some, xP (h.p1 12) hk, c_b2s]
  exact pC_c _ _ _ _
theorem xT6 {g : c_G} {i v : Int32} (h : okA g i v 12) {k : Nat} (hk : k = 3 ∨ k = 6) (x : Int32) : fX6_tells g (20 + k) x = some (pC g (40 :: ((a_T0 k i v x).1 ++ (a_P k k i v 1).1)), (a_T0 k i v x).2 + (a_P k k i v 1).2) := by
  have hk7 : k < 7 := by omega
  have h1 := (h.p1 40).p (n := 5) (k := 6) (a_T0_len k i v x)
  have hS : v_pointsS (pC (p1C g 40) (a_T0 k i v x).1) (20 + k) 1 = v_points (pC (p1C g 40) (a_T0 k i v x).1) (20 + k) 1 := by
    rcases hk with rfl | rfl <;> rfl
  unfold fX6_tells
  rw [if_pos (c_isK20 hk7), x_C h.1, Option.bind_some, xT2 ((h.p1 40).le (by decide)) hk7, c_b2s, hS, xP h1 hk7, c_b2s, ← pC_app]
  exact pC_c _ _ _ _
theorem xT {g : c_G} {i v : Int32} (h : okA g i v 12) {k : Nat} (hk : k < 7) (x : Int32) : v_tells g (20 + k) x = some (pC g (a_T k k i v x).1, (a_T k k i v x).2) := by
  unfold v_tells
  rcases (show k = 0 ∨ k = 1 ∨ k = 2 ∨ k = 3 ∨ k = 4 ∨ k = 5 ∨ k = 6 by omega) with rfl | rfl | rfl | rfl | rfl | rfl | rfl
  · exact xT2 (h.le (by decide)) (k := 0) hk x
  · exact xT2 (h.le (by decide)) (k := 1) hk x
  · exact xT2 (h.le (by decide)) (k := 2) hk x
  · exact xT6 h (k := 3) (Or.inl rfl) x
  · exact xT2 (h.le (by decide)) (k := 4) hk x
  · show fX4_tells g x = some (pC g (60 :: (a_T0 5 i v (x - i)).1), (a_T0 5 i v (x - i)).2)
    unfold fX4_tells
    rw [x_C h.1, Option.bind_some, (h.p1 60).2.1, xT2 ((h.p1 60).le (by decide)) (k := 5) hk, c_b2s]
    exact pC_c _ _ _ _
  · exact xT6 h (k := 6) (Or.inr rfl) x
/-! the reference's bodies -/
def okB (g : c_G) (i K : Nat) (v : Int32) (n : Nat) : Prop := okM g n ∧ p_Ks g ∧ p_Kb g ∧ i < 6 ∧ K < 7 ∧ g.1 1 (24 + 9 * i) = nI K ∧ g.1 1 (24 + 9 * i + 1) = v
theorem okB.le {g : c_G} {i K : Nat} {v : Int32} {n k : Nat} (h : okB g i K v n) (hk : k ≤ n) : okB g i K v k := ⟨h.1.le hk, h.2⟩
theorem frM.row {g g' : c_G} (h : frM g g') {a : Nat} (h1 : a ≠ 0) (h2 : a ≠ 17) : g'.1 a = g.1 a := funext fun j => h.1 a j (by omega)
theorem okB.fr {g g' : c_G} {i K : Nat} {v : Int32} {n k : Nat} (h : okB g i K v n) (h1 : okM g' k) (h2 : frM g g') : okB g' i K v k := by
  obtain ⟨a1, a2, a3, a4, a5, a6, a7⟩ := h
  exact ⟨h1, a2.eq (h2.row (by decide) (by decide)) (h2.row (by decide) (by decide)) (h2.row (by decide) (by decide)) (h2.row (by decide) (by decide)), a3.eq (h2.row (by decide) (by decide)), a4, a5, by rw [h2.row (by decide) (by decide)]; exact a6, by rw [h2.row (by decide) (by decide)]; exact a7⟩
theorem okB.p1 {g : c_G} {i K : Nat} {v : Int32} {n : Nat} (h : okB g i K v (n + 1)) (b : Int32) : okB (p1M g b) i K v n := h.fr (p1M_ok h.1 b) (p1M_fr g b)
theorem okB.p {g : c_G} {i K : Nat} {v : Int32} {n k : Nat} (h : okB g i K v (k + n)) {l : List Int32} (hl : l.length ≤ k) : okB (pM g l) i K v n := h.fr (pM_ok l (h.1.le (by omega))) (pM_fr l g)
def F5 : Type := Nat → c_G → Int32 → Int32 → Int32 → Int32 → Option (c_G × Int32)
def a_body (k a : Nat) : Int32 := ([10, 11, 12, 0, 20, 0, 30, 0, 0, 0, 0, 40, 50, 51, 0, 0, 0, 60, 71, 70, 0] : List Int32).getD (3 * k + a) 0
def a_abv (k : Nat) : Int32 := ([-1, 0, 0, 0, 1, 2, 3] : List Int32).getD k 0
theorem m_up {F : Nat → c_G → Int32 → Int32 → Int32 → Int32 → Option (c_G × Int32)} {g : c_G} {i K : Nat} {v : Int32} {n : Nat} (h : okB g i K v n) {k a : Nat} (hk : k < 7) (ha : a < 3) (hb : a_body k a = 0) (a1 a2 a3 a4 x2 x4 : Int32) (f : Nat) : fX12_byKind_3 F a1 a2 a3 a4 (f + 1) x2 (nI a) x4 (nI k) g = fX12_byKind_3 F a1 a2 a3 a4 f x2 (nI a) x4 (a_abv k) g := by
  have e : (3 : Int32) * nI k + nI a = nI (3 * k + a) := by
    show nI 3 * nI k + _ = _
    rw [pk_mul, nI_add]
  have t1 : g.1 16 (3 * k + a) = a_body k a := h.2.2.1 (3 * k + a) (by omega)
  have t2 : g.1 15 k = a_abv k := h.2.1.2.2.2.1 k hk
  rw [fX12_byKind_3, e, p_in (show 3 * k + a < 21 by omega) (by decide), if_pos rfl, nI_clamp (by omega), t1, if_pos hb, p_in hk (by decide), if_pos rfl, nI_clamp (by omega), t2]

theorem m_b10 {F : Nat → c_G → Int32 → Int32 → Int32 → Int32 → Option (c_G × Int32)} {g : c_G} {i K : Nat} {v : Int32} {n : Nat} (h : okB g i K v (n + 1)) {k a : Nat} (hk : k < 7) (ha : a < 3) (hb : a_body k a = 10) (a1 a2 a3 a4 x2 x4 : Int32) (f : Nat) : fX12_byKind_3 F a1 a2 a3 a4 (f + 1) x2 (nI a) x4 (nI k) g = some (p1M g 10, x4 + x2) := by
  have e : (3 : Int32) * nI k + nI a = nI (3 * k + a) := by
    show nI 3 * nI k + _ = _
    rw [pk_mul, nI_add]
  have t1 : g.1 16 (3 * k + a) = a_body k a := h.2.2.1 (3 * k + a) (by omega)
  have t2 : g.1 15 k = a_abv k := h.2.1.2.2.2.1 k hk
  rw [fX12_byKind_3, e, p_in (show 3 * k + a < 21 by omega) (by decide), if_pos rfl, nI_clamp (show 3 * k + a < 2 ^ 31 by omega), t1, hb, if_neg (show ¬ (10 : Int32) = 0 by decide), p_in hk (by decide), if_pos rfl, nI_clamp (show k < 2 ^ 31 by omega), t2, x_M h.1, c_b2s, if_pos (show (10 : Int32) = 10 from rfl)]
theorem m_b11 {F : Nat → c_G → Int32 → Int32 → Int32 → Int32 → Option (c_G × Int32)} {g : c_G} {i K : Nat} {v : Int32} {n : Nat} (h : okB g i K v (n + 1)) {k a : Nat} (hk : k < 7) (ha : a < 3) (hb : a_body k a = 11) (a1 a2 a3 a4 x2 x4 : Int32) (f : Nat) : fX12_byKind_3 F a1 a2 a3 a4 (f + 1) x2 (nI a) x4 (nI k) g = c_b2 (F 0 (p1M g 11) x2 0 x4 0) fun g r => (fX12_one g x2 1).bind fun r2 => some (g, r - r2) := by
  have e : (3 : Int32) * nI k + nI a = nI (3 * k + a) := by
    show nI 3 * nI k + _ = _
    rw [pk_mul, nI_add]
  have t1 : g.1 16 (3 * k + a) = a_body k a := h.2.2.1 (3 * k + a) (by omega)
  have t2 : g.1 15 k = a_abv k := h.2.1.2.2.2.1 k hk
  rw [fX12_byKind_3, e, p_in (show 3 * k + a < 21 by omega) (by decide), if_pos rfl, nI_clamp (show 3 * k + a < 2 ^ 31 by omega), t1, hb, if_neg (show ¬ (11 : Int32) = 0 by decide), p_in hk (by decide), if_pos rfl, nI_clamp (show k < 2 ^ 31 by omega), t2, x_M h.1, c_b2s, if_neg (show ¬ (11 : Int32) = 10 by decide), if_pos (show (11 : Int32) = 11 from rfl)]
theorem m_b12 {F : Nat → c_G → Int32 → Int32 → Int32 → Int32 → Option (c_G × Int32)} {g : c_G} {i K : Nat} {v : Int32} {n : Nat} (h : okB g i K v (n + 1)) {k a : Nat} (hk : k < 7) (ha : a < 3) (hb : a_body k a = 12) (a1 a2 a3 a4 x2 x4 : Int32) (f : Nat) : fX12_byKind_3 F a1 a2 a3 a4 (f + 1) x2 (nI a) x4 (nI k) g = c_b2 (F 0 (p1M g 12) x2 1 x4 0) fun g r => some (g, r * 2) := by
  have e : (3 : Int32) * nI k + nI a = nI (3 * k + a) := by
    show nI 3 * nI k + _ = _
    rw [pk_mul, nI_add]
  have t1 : g.1 16 (3 * k + a) = a_body k a := h.2.2.1 (3 * k + a) (by omega)
  have t2 : g.1 15 k = a_abv k := h.2.1.2.2.2.1 k hk
  rw [fX12_byKind_3, e, p_in (show 3 * k + a < 21 by omega) (by decide), if_pos rfl, nI_clamp (show 3 * k + a < 2 ^ 31 by omega), t1, hb, if_neg (show ¬ (12 : Int32) = 0 by decide), p_in hk (by decide), if_pos rfl, nI_clamp (show k < 2 ^ 31 by omega), t2, x_M h.1, c_b2s, if_neg (show ¬ (12 : Int32) = 10 by decide), if_neg (show ¬ (12 : Int32) = 11 by decide), if_pos (show (12 : Int32) = 12 from rfl)]
theorem m_b20 {F : Nat → c_G → Int32 → Int32 → Int32 → Int32 → Option (c_G × Int32)} {g : c_G} {i K : Nat} {v : Int32} {n : Nat} (h : okB g i K v (n + 1)) {k a : Nat} (hk : k < 7) (ha : a < 3) (hb : a_body k a = 20) (a1 a2 a3 a4 x2 x4 : Int32) (f : Nat) : fX12_byKind_3 F a1 a2 a3 a4 (f + 1) x2 (nI a) x4 (nI k) g = c_b2 (F 1 (p1M g 20) (a_abv k) x2 1 x4) fun g r => some (g, r ^^^ 6) := by
  have e : (3 : Int32) * nI k + nI a = nI (3 * k + a) := by
    show nI 3 * nI k + _ = _
    rw [pk_mul, nI_add]
  have t1 : g.1 16 (3 * k + a) = a_body k a := h.2.2.1 (3 * k + a) (by omega)
  have t2 : g.1 15 k = a_abv k := h.2.1.2.2.2.1 k hk
  rw [fX12_byKind_3, e, p_in (show 3 * k + a < 21 by omega) (by decide), if_pos rfl, nI_clamp (show 3 * k + a < 2 ^ 31 by omega), t1, hb, if_neg (show ¬ (20 : Int32) = 0 by decide), p_in hk (by decide), if_pos rfl, nI_clamp (show k < 2 ^ 31 by omega), t2, x_M h.1, c_b2s, if_neg (show ¬ (20 : Int32) = 10 by decide), if_neg (show ¬ (20 : Int32) = 11 by decide), if_neg (show ¬ (20 : Int32) = 12 by decide), if_pos (show (20 : Int32) = 20 from rfl)]
theorem m_b30 {F : Nat → c_G → Int32 → Int32 → Int32 → Int32 → Option (c_G × Int32)} {g : c_G} {i K : Nat} {v : Int32} {n : Nat} (h : okB g i K v (n + 1)) {k a : Nat} (hk : k < 7) (ha : a < 3) (hb : a_body k a = 30) (a1 a2 a3 a4 x2 x4 : Int32) (f : Nat) : fX12_byKind_3 F a1 a2 a3 a4 (f + 1) x2 (nI a) x4 (nI k) g = c_b2 (F 1 (p1M g 30) (a_abv k) x2 0 (x4 * 3)) fun g r => some (g, r) := by
  have e : (3 : Int32) * nI k + nI a = nI (3 * k + a) := by
    show nI 3 * nI k + _ = _
    rw [pk_mul, nI_add]
  have t1 : g.1 16 (3 * k + a) = a_body k a := h.2.2.1 (3 * k + a) (by omega)
  have t2 : g.1 15 k = a_abv k := h.2.1.2.2.2.1 k hk
  rw [fX12_byKind_3, e, p_in (show 3 * k + a < 21 by omega) (by decide), if_pos rfl, nI_clamp (show 3 * k + a < 2 ^ 31 by omega), t1, hb, if_neg (show ¬ (30 : Int32) = 0 by decide), p_in hk (by decide), if_pos rfl, nI_clamp (show k < 2 ^ 31 by omega), t2, x_M h.1, c_b2s, if_neg (show ¬ (30 : Int32) = 10 by decide), if_neg (show ¬ (30 : Int32) = 11 by decide), if_neg (show ¬ (30 : Int32) = 12 by decide), if_neg (show ¬ (30 : Int32) = 20 by decide), if_pos (show (30 : Int32) = 30 from rfl)]
theorem m_b40 {F : Nat → c_G → Int32 → Int32 → Int32 → Int32 → Option (c_G × Int32)} {g : c_G} {i K : Nat} {v : Int32} {n : Nat} (h : okB g i K v (n + 1)) {k a : Nat} (hk : k < 7) (ha : a < 3) (hb : a_body k a = 40) (a1 a2 a3 a4 x2 x4 : Int32) (f : Nat) : fX12_byKind_3 F a1 a2 a3 a4 (f + 1) x2 (nI a) x4 (nI k) g = c_b2 (F 1 (p1M g 40) (a_abv k) x2 2 x4) fun g r => c_b2 (F 0 g x2 1 1 0) fun g2 r2 => some (g2, r + r2) := by
  have e : (3 : Int32) * nI k + nI a = nI (3 * k + a) := by
    show nI 3 * nI k + _ = _
    rw [pk_mul, nI_add]
  have t1 : g.1 16 (3 * k + a) = a_body k a := h.2.2.1 (3 * k + a) (by omega)
  have t2 : g.1 15 k = a_abv k := h.2.1.2.2.2.1 k hk
  rw [fX12_byKind_3, e, p_in (show 3 * k + a < 21 by omega) (by decide), if_pos rfl, nI_clamp (show 3 * k + a < 2 ^ 31 by omega), t1, hb, if_neg (show ¬ (40 : Int32) = 0 by decide), p_in hk (by decide), if_pos rfl, nI_clamp (show k < 2 ^ 31 by omega), t2, x_M h.1, c_b2s, if_neg (show ¬ (40 : Int32) = 10 by decide), if_neg (show ¬ (40 : Int32) = 11 by decide), if_neg (show ¬ (40 : Int32) = 12 by decide), if_neg (show ¬ (40 : Int32) = 20 by decide), if_neg (show ¬ (40 : Int32) = 30 by decide), if_pos (show (40 : Int32) = 40 from rfl)]
theorem m_b50 {F : Nat → c_G → Int32 → Int32 → Int32 → Int32 → Option (c_G × Int32)} {g : c_G} {i K : Nat} {v : Int32} {n : Nat} (h : okB g i K v (n + 1)) {k a : Nat} (hk : k < 7) (ha : a < 3) (hb : a_body k a = 50) (a1 a2 a3 a4 x2 x4 : Int32) (f : Nat) : fX12_byKind_3 F a1 a2 a3 a4 (f + 1) x2 (nI a) x4 (nI k) g = c_b2 (F 1 (p1M g 50) (a_abv k) x2 0 x4) fun g r => some (g, -r) := by
  have e : (3 : Int32) * nI k + nI a = nI (3 * k + a) := by
    show nI 3 * nI k + _ = _
    rw [pk_mul, nI_add]
  have t1 : g.1 16 (3 * k + a) = a_body k a := h.2.2.1 (3 * k + a) (by omega)
  have t2 : g.1 15 k = a_abv k := h.2.1.2.2.2.1 k hk
  rw [fX12_byKind_3, e, p_in (show 3 * k + a < 21 by omega) (by decide), if_pos rfl, nI_clamp (show 3 * k + a < 2 ^ 31 by omega), t1, hb, if_neg (show ¬ (50 : Int32) = 0 by decide), p_in hk (by decide), if_pos rfl, nI_clamp (show k < 2 ^ 31 by omega), t2, x_M h.1, c_b2s, if_neg (show ¬ (50 : Int32) = 10 by decide), if_neg (show ¬ (50 : Int32) = 11 by decide), if_neg (show ¬ (50 : Int32) = 12 by decide), if_neg (show ¬ (50 : Int32) = 20 by decide), if_neg (show ¬ (50 : Int32) = 30 by decide), if_neg (show ¬ (50 : Int32) = 40 by decide), if_pos (show (50 : Int32) = 50 from rfl)]
theorem m_b51 {F : Nat → c_G → Int32 → Int32 → Int32 → Int32 → Option (c_G × Int32)} {g : c_G} {i K : Nat} {v : Int32} {n : Nat} (h : okB g i K v (n + 1)) {k a : Nat} (hk : k < 7) (ha : a < 3) (hb : a_body k a = 51) (a1 a2 a3 a4 x2 x4 : Int32) (f : Nat) : fX12_byKind_3 F a1 a2 a3 a4 (f + 1) x2 (nI a) x4 (nI k) g = c_b2 (F 1 (p1M g 51) (a_abv k) x2 1 (x4 + 1)) fun g r => some (g, r) := by
  have e : (3 : Int32) * nI k + nI a = nI (3 * k + a) := by
    show nI 3 * nI k + _ = _
    rw [pk_mul, nI_add]
  have t1 : g.1 16 (3 * k + a) = a_body k a := h.2.2.1 (3 * k + a) (by omega)
  have t2 : g.1 15 k = a_abv k := h.2.1.2.2.2.1 k hk
  rw [fX12_byKind_3, e, p_in (show 3 * k + a < 21 by omega) (by decide), if_pos rfl, nI_clamp (show 3 * k + a < 2 ^ 31 by omega), t1, hb, if_neg (show ¬ (51 : Int32) = 0 by decide), p_in hk (by decide), if_pos rfl, nI_clamp (show k < 2 ^ 31 by omega), t2, x_M h.1, c_b2s, if_neg (show ¬ (51 : Int32) = 10 by decide), if_neg (show ¬ (51 : Int32) = 11 by decide), if_neg (show ¬ (51 : Int32) = 12 by decide), if_neg (show ¬ (51 : Int32) = 20 by decide), if_neg (show ¬ (51 : Int32) = 30 by decide), if_neg (show ¬ (51 : Int32) = 40 by decide), if_neg (show ¬ (51 : Int32) = 50 by decide), if_pos (show (51 : Int32) = 51 from rfl)]
theorem m_b60 {F : Nat → c_G → Int32 → Int32 → Int32 → Int32 → Option (c_G × Int32)} {g : c_G} {i K : Nat} {v : Int32} {n : Nat} (h : okB g i K v (n + 1)) {k a : Nat} (hk : k < 7) (ha : a < 3) (hb : a_body k a = 60) (a1 a2 a3 a4 x2 x4 : Int32) (f : Nat) : fX12_byKind_3 F a1 a2 a3 a4 (f + 1) x2 (nI a) x4 (nI k) g = c_b2 (F 1 (p1M g 60) (a_abv k) x2 2 (x4 - x2)) fun g r => some (g, r) := by
  have e : (3 : Int32) * nI k + nI a = nI (3 * k + a) := by
    show nI 3 * nI k + _ = _
    rw [pk_mul, nI_add]
  have t1 : g.1 16 (3 * k + a) = a_body k a := h.2.2.1 (3 * k + a) (by omega)
  have t2 : g.1 15 k = a_abv k := h.2.1.2.2.2.1 k hk
  rw [fX12_byKind_3, e, p_in (show 3 * k + a < 21 by omega) (by decide), if_pos rfl, nI_clamp (show 3 * k + a < 2 ^ 31 by omega), t1, hb, if_neg (show ¬ (60 : Int32) = 0 by decide), p_in hk (by decide), if_pos rfl, nI_clamp (show k < 2 ^ 31 by omega), t2, x_M h.1, c_b2s, if_neg (show ¬ (60 : Int32) = 10 by decide), if_neg (show ¬ (60 : Int32) = 11 by decide), if_neg (show ¬ (60 : Int32) = 12 by decide), if_neg (show ¬ (60 : Int32) = 20 by decide), if_neg (show ¬ (60 : Int32) = 30 by decide), if_neg (show ¬ (60 : Int32) = 40 by decide), if_neg (show ¬ (60 : Int32) = 50 by decide), if_neg (show ¬ (60 : Int32) = 51 by decide), if_pos (show (60 : Int32) = 60 from rfl)]
theorem m_b70 {F : Nat → c_G → Int32 → Int32 → Int32 → Int32 → Option (c_G × Int32)} {g : c_G} {i K : Nat} {v : Int32} {n : Nat} (h : okB g i K v (n + 1)) {k a : Nat} (hk : k < 7) (ha : a < 3) (hb : a_body k a = 70) (a1 a2 a3 a4 x2 x4 : Int32) (f : Nat) : fX12_byKind_3 F a1 a2 a3 a4 (f + 1) x2 (nI a) x4 (nI k) g = c_b2 (F 1 (p1M g 70) (a_abv k) x2 1 x4) fun g r => c_b2 (F 1 g (a_abv k) x2 0 2) fun g2 r2 => some (g2, r + r2) := by
  have e : (3 : Int32) * nI k + nI a = nI (3 * k + a) := by
    show nI 3 * nI k + _ = _
    rw [pk_mul, nI_add]
  have t1 : g.1 16 (3 * k + a) = a_body k a := h.2.2.1 (3 * k + a) (by omega)
  have t2 : g.1 15 k = a_abv k := h.2.1.2.2.2.1 k hk
  rw [fX12_byKind_3, e, p_in (show 3 * k + a < 21 by omega) (by decide), if_pos rfl, nI_clamp (show 3 * k + a < 2 ^ 31 by omega), t1, hb, if_neg (show ¬ (70 : Int32) = 0 by decide), p_in hk (by decide), if_pos rfl, nI_clamp (show k < 2 ^ 31 by omega), t2, x_M h.1, c_b2s, if_neg (show ¬ (70 : Int32) = 10 by decide), if_neg (show ¬ (70 : Int32) = 11 by decide), if_neg (show ¬ (70 : Int32) = 12 by decide), if_neg (show ¬ (70 : Int32) = 20 by decide), if_neg (show ¬ (70 : Int32) = 30 by decide), if_neg (show ¬ (70 : Int32) = 40 by decide), if_neg (show ¬ (70 : Int32) = 50 by decide), if_neg (show ¬ (70 : Int32) = 51 by decide), if_neg (show ¬ (70 : Int32) = 60 by decide), if_pos (show (70 : Int32) = 70 from rfl)]
theorem m_b71 {F : Nat → c_G → Int32 → Int32 → Int32 → Int32 → Option (c_G × Int32)} {g : c_G} {i K : Nat} {v : Int32} {n : Nat} (h : okB g i K v (n + 1)) {k a : Nat} (hk : k < 7) (ha : a < 3) (hb : a_body k a = 71) (a1 a2 a3 a4 x2 x4 : Int32) (f : Nat) : fX12_byKind_3 F a1 a2 a3 a4 (f + 1) x2 (nI a) x4 (nI k) g = c_b2 (F 1 (p1M g 71) (a_abv k) x2 0 x4) fun g r => (fX12_one g x2 1).bind fun r2 => some (g, r ^^^ r2) := by
  have e : (3 : Int32) * nI k + nI a = nI (3 * k + a) := by
    show nI 3 * nI k + _ = _
    rw [pk_mul, nI_add]
  have t1 : g.1 16 (3 * k + a) = a_body k a := h.2.2.1 (3 * k + a) (by omega)
  have t2 : g.1 15 k = a_abv k := h.2.1.2.2.2.1 k hk
  rw [fX12_byKind_3, e, p_in (show 3 * k + a < 21 by omega) (by decide), if_pos rfl, nI_clamp (show 3 * k + a < 2 ^ 31 by omega), t1, hb, if_neg (show ¬ (71 : Int32) = 0 by decide), p_in hk (by decide), if_pos rfl, nI_clamp (show k < 2 ^ 31 by omega), t2, x_M h.1, c_b2s, if_neg (show ¬ (71 : Int32) = 10 by decide), if_neg (show ¬ (71 : Int32) = 11 by decide), if_neg (show ¬ (71 : Int32) = 12 by decide), if_neg (show ¬ (71 : Int32) = 20 by decide), if_neg (show ¬ (71 : Int32) = 30 by decide), if_neg (show ¬ (71 : Int32) = 40 by decide), if_neg (show ¬ (71 : Int32) = 50 by decide), if_neg (show ¬ (71 : Int32) = 51 by decide), if_neg (show ¬ (71 : Int32) = 60 by decide), if_neg (show ¬ (71 : Int32) = 70 by decide)]
theorem fG5_1 (f : Nat) (g : c_G) (a1 a2 a3 a4 : Int32) : fG5 (f + 1) 1 g a1 a2 a3 a4 = fX12_byKind_3 (fG5 f) a1 a2 a3 a4 (4999 + 1) a2 a3 a4 a1 g := by
  rw [fG5, if_neg (show ¬ (1 : Nat) = 0 by decide), if_pos rfl, fX12_byKind, show c_F = 4999 + 1 from rfl]
theorem fG5_0 (f : Nat) (g : c_G) (a1 a2 a3 a4 : Int32) : fG5 (f + 1) 0 g a1 a2 a3 a4 = fX12_all (fG5 f) g a1 a2 a3 := rfl
theorem yAll {g : c_G} {i K : Nat} {v : Int32} {n : Nat} (h : okB g i K v n) (f : Nat) (a x y : Int32) {o : c_G × Int32} (ho : fG5 f 1 g (nI K) (nI i) a x = some o) : fG5 (f + 1) 0 g (nI i) a x y = some o := by
  rw [fG5_0]
  unfold fX12_all
  rw [e_one g h.2.2.2.1 0 (by decide) 0 rfl, Option.bind_some, Nat.add_zero, h.2.2.2.2.2.1, ho]
  rfl
theorem y10 {g : c_G} {i K : Nat} {v : Int32} (h : okB g i K v 1) {k : Nat} (hk : k = 0 ∨ k = 1 ∨ k = 3) (f : Nat) (x : Int32) : fG5 (f + 1) 1 g (nI k) (nI i) 0 x = some (pM g [10], x + nI i) := by
  rw [fG5_1]
  rcases hk with rfl | rfl | rfl
  · exact m_b10 h (k := 0) (a := 0) (by decide) (by decide) rfl _ _ _ _ _ _ _
  · rw [show (4999 + 1 : Nat) = 4998 + 1 + 1 from rfl, ← nI_0, m_up h (k := 1) (a := 0) (by decide) (by decide) rfl]
    exact m_b10 h (k := 0) (a := 0) (by decide) (by decide) rfl _ _ _ _ _ _ _
  · rw [show (4999 + 1 : Nat) = 4998 + 1 + 1 from rfl, ← nI_0, m_up h (k := 3) (a := 0) (by decide) (by decide) rfl]
    exact m_b10 h (k := 0) (a := 0) (by decide) (by decide) rfl _ _ _ _ _ _ _
theorem yL {g : c_G} {i K : Nat} {v : Int32} (h : okB g i K v 2) {k : Nat} (hk : k < 7) (f : Nat) (x : Int32) : fG5 (f + 2) 1 g (nI k) (nI i) 0 x = some (pM g (a_L k (nI i) v x).1, (a_L k (nI i) v x).2) := by
  rcases (show k = 0 ∨ k = 1 ∨ k = 2 ∨ k = 3 ∨ k = 4 ∨ k = 5 ∨ k = 6 by omega) with rfl | rfl | rfl | rfl | rfl | rfl | rfl
  · exact y10 (h.le (by decide)) (k := 0) (Or.inl rfl) (f + 1) x
  · exact y10 (h.le (by decide)) (k := 1) (Or.inr (Or.inl rfl)) (f + 1) x
  · rw [fG5_1, ← nI_0, m_b30 h (k := 2) (a := 0) (by decide) (by decide) rfl]
    show c_b2 (fG5 (f + 1) 1 (p1M g 30) (nI 0) (nI i) 0 (x * 3)) _ = _
    rw [y10 (h.p1 30) (k := 0) (Or.inl rfl) f, c_b2s]
    exact pM_c _ _ _ _
  · exact y10 (h.le (by decide)) (k := 3) (Or.inr (Or.inr rfl)) (f + 1) x
  · rw [fG5_1, ← nI_0, m_b50 h (k := 4) (a := 0) (by decide) (by decide) rfl]
    show c_b2 (fG5 (f + 1) 1 (p1M g 50) (nI 1) (nI i) 0 x) _ = _
    rw [y10 (h.p1 50) (k := 1) (Or.inr (Or.inl rfl)) f, c_b2s]
    exact pM_c _ _ _ _
  · rw [fG5_1, show (4999 + 1 : Nat) = 4998 + 1 + 1 from rfl, ← nI_0, m_up h (k := 5) (a := 0) (by decide) (by decide) rfl]
    show fX12_byKind_3 _ _ _ _ _ _ _ _ _ (nI 2) _ = _
    rw [m_b30 h (k := 2) (a := 0) (by decide) (by decide) rfl]
    show c_b2 (fG5 (f + 1) 1 (p1M g 30) (nI 0) (nI i) 0 (x * 3)) _ = _
    rw [y10 (h.p1 30) (k := 0) (Or.inl rfl) f, c_b2s]
    exact pM_c _ _ _ _
  · rw [fG5_1, ← nI_0, m_b71 h (k := 6) (a := 0) (by decide) (by decide) rfl]
    show c_b2 (fG5 (f + 1) 1 (p1M g 71) (nI 3) (nI i) 0 x) _ = _
    have h1 := (h.p1 71).p (n := 0) (k := 1) (l := [10]) (by decide)
    rw [y10 (h.p1 71) (k := 3) (Or.inr (Or.inr rfl)) f, c_b2s, e_one _ h.2.2.2.1 1 (by decide) 1 rfl, Option.bind_some, h1.2.2.2.2.2.2]
    exact pM_c _ _ _ _
theorem yB11 {g : c_G} {i K : Nat} {v : Int32} (h : okB g i K v 3) (f : Nat) (x : Int32) : (c_b2 (fG5 (f + 3) 0 (p1M g 11) (nI i) 0 x 0) fun g r => (fX12_one g (nI i) 1).bind fun r2 => some (g, r - r2)) = some (pM g (a_P0 K (nI i) v x).1, (a_P0 K (nI i) v x).2) := by
  have h1 := (h.p1 11).p (n := 0) (k := 2) (a_L_len K (nI i) v x)
  rw [yAll (h.p1 11) (f + 2) 0 x 0 (yL (h.p1 11) h.2.2.2.2.1 f x), c_b2s, e_one _ h.2.2.2.1 1 (by decide) 1 rfl, Option.bind_some, h1.2.2.2.2.2.2]
  exact pM_c _ _ _ _
theorem yP0 {g : c_G} {i K : Nat} {v : Int32} (h : okB g i K v 3) {k : Nat} (hk : k = 0 ∨ k = 2 ∨ k = 3 ∨ k = 5) (f : Nat) (x : Int32) : fG5 (f + 4) 1 g (nI k) (nI i) 1 x = some (pM g (a_P0 K (nI i) v x).1, (a_P0 K (nI i) v x).2) := by
  have one : (1 : Int32) = nI 1 := rfl
  rw [fG5_1]
  have b0 : ∀ (f' : Nat) (a1 a2 a3 a4 : Int32), fX12_byKind_3 (fG5 (f + 3)) a1 a2 a3 a4 (f' + 1) (nI i) (nI 1) x (nI 0) g = some (pM g (a_P0 K (nI i) v x).1, (a_P0 K (nI i) v x).2) := fun f' a1 a2 a3 a4 => by
    rw [m_b11 h (k := 0) (a := 1) (by decide) (by decide) rfl]
    exact yB11 h f x
  rcases hk with rfl | rfl | rfl | rfl
  · exact b0 _ _ _ _ _
  · rw [show (4999 + 1 : Nat) = 4998 + 1 + 1 from rfl, one, m_up h (k := 2) (a := 1) (by decide) (by decide) rfl]
    exact b0 _ _ _ _ _
  · rw [show (4999 + 1 : Nat) = 4998 + 1 + 1 from rfl, one, m_up h (k := 3) (a := 1) (by decide) (by decide) rfl]
    exact b0 _ _ _ _ _
  · rw [show (4999 + 1 : Nat) = 4997 + 1 + 1 + 1 from rfl, one, m_up h (k := 5) (a := 1) (by decide) (by decide) rfl]
    show fX12_byKind_3 _ _ _ _ _ _ _ _ _ (nI 2) _ = _
    rw [m_up h (k := 2) (a := 1) (by decide) (by decide) rfl]
    exact b0 _ _ _ _ _
theorem yP1 {g : c_G} {i K : Nat} {v : Int32} (h : okB g i K v 4) (f : Nat) (x : Int32) : fG5 (f + 5) 1 g (nI 1) (nI i) 1 x = some (pM g (20 :: (a_P0 K (nI i) v x).1), (a_P0 K (nI i) v x).2 ^^^ 6) := by
  rw [fG5_1, show (1 : Int32) = nI 1 from rfl, m_b20 h (k := 1) (a := 1) (by decide) (by decide) rfl]
  show c_b2 (fG5 (f + 4) 1 (p1M g 20) (nI 0) (nI i) 1 x) _ = _
  rw [yP0 (h.p1 20) (k := 0) (Or.inl rfl) f, c_b2s]
  exact pM_c _ _ _ _
theorem yP {g : c_G} {i K : Nat} {v : Int32} (h : okB g i K v 5) {k : Nat} (hk : k < 7) (f : Nat) (x : Int32) : fG5 (f + 6) 1 g (nI k) (nI i) 1 x = some (pM g (a_P k K (nI i) v x).1, (a_P k K (nI i) v x).2) := by
  rcases (show k = 0 ∨ k = 1 ∨ k = 2 ∨ k = 3 ∨ k = 4 ∨ k = 5 ∨ k = 6 by omega) with rfl | rfl | rfl | rfl | rfl | rfl | rfl
  · exact yP0 (h.le (by decide)) (k := 0) (Or.inl rfl) (f + 2) x
  · exact yP1 (h.le (by decide)) (f + 1) x
  · exact yP0 (h.le (by decide)) (k := 2) (Or.inr (Or.inl rfl)) (f + 2) x
  · exact yP0 (h.le (by decide)) (k := 3) (Or.inr (Or.inr (Or.inl rfl))) (f + 2) x
  · rw [fG5_1, show (1 : Int32) = nI 1 from rfl, m_b51 h (k := 4) (a := 1) (by decide) (by decide) rfl]
    show c_b2 (fG5 (f + 5) 1 (p1M g 51) (nI 1) (nI i) 1 (x + 1)) _ = _
    rw [yP1 (h.p1 51) f, c_b2s]
    exact pM_c _ _ _ _
  · exact yP0 (h.le (by decide)) (k := 5) (Or.inr (Or.inr (Or.inr rfl))) (f + 2) x
  · have h1 := (h.p1 70).p (n := 1) (k := 3) (a_P0_len K (nI i) v x)
    rw [fG5_1, show (1 : Int32) = nI 1 from rfl, m_b70 h (k := 6) (a := 1) (by decide) (by decide) rfl]
    show c_b2 (fG5 (f + 5) 1 (p1M g 70) (nI 3) (nI i) 1 x) (fun g r => c_b2 (fG5 (f + 5) 1 g (nI 3) (nI i) 0 2) fun g2 r2 => some (g2, r + r2)) = _
    rw [yP0 ((h.p1 70).le (by decide)) (k := 3) (Or.inr (Or.inr (Or.inl rfl))) (f + 1), c_b2s, y10 h1 (k := 3) (Or.inr (Or.inr rfl)) (f + 4), c_b2s, ← pM_app]
    exact pM_c _ _ _ _
theorem yT0 {g : c_G} {i K : Nat} {v : Int32} (h : okB g i K v 6) {k : Nat} (hk : k = 0 ∨ k = 1 ∨ k = 2 ∨ k = 4) (f : Nat) (x : Int32) : fG5 (f + 8) 1 g (nI k) (nI i) 2 x = some (pM g (a_T0 K (nI i) v x).1, (a_T0 K (nI i) v x).2) := by
  have two : (2 : Int32) = nI 2 := rfl
  rw [fG5_1]
  have b0 : ∀ (f' : Nat) (a1 a2 a3 a4 : Int32), fX12_byKind_3 (fG5 (f + 7)) a1 a2 a3 a4 (f' + 1) (nI i) (nI 2) x (nI 0) g = some (pM g (a_T0 K (nI i) v x).1, (a_T0 K (nI i) v x).2) := fun f' a1 a2 a3 a4 => by
    rw [m_b12 h (k := 0) (a := 2) (by decide) (by decide) rfl, yAll (h.p1 12) (f + 6) 1 x 0 (yP (h.p1 12) h.2.2.2.2.1 f x), c_b2s]
    exact pM_c _ _ _ _
  rcases hk with rfl | rfl | rfl | rfl
  · exact b0 _ _ _ _ _
  · rw [show (4999 + 1 : Nat) = 4998 + 1 + 1 from rfl, two, m_up h (k := 1) (a := 2) (by decide) (by decide) rfl]
    exact b0 _ _ _ _ _
  · rw [show (4999 + 1 : Nat) = 4998 + 1 + 1 from rfl, two, m_up h (k := 2) (a := 2) (by decide) (by decide) rfl]
    exact b0 _ _ _ _ _
  · rw [show (4999 + 1 : Nat) = 4997 + 1 + 1 + 1 from rfl, two, m_up h (k := 4) (a := 2) (by decide) (by decide) rfl]
    show fX12_byKind_3 _ _ _ _ _ _ _ _ _ (nI 1) _ = _
    rw [m_up h (k := 1) (a := 2) (by decide) (by decide) rfl]
    exact b0 _ _ _ _ _
theorem yT {g : c_G} {i K : Nat} {v : Int32} (h : okB g i K v 12) {k : Nat} (hk : k < 7) (f : Nat) (x : Int32) : fG5 (f + 10) 1 g (nI k) (nI i) 2 x = some (pM g (a_T k K (nI i) v x).1, (a_T k K (nI i) v x).2) := by
  have two : (2 : Int32) = nI 2 := rfl
  have h1 := (h.p1 40).p (n := 5) (k := 6) (a_T0_len K (nI i) v x)
  have b40 : ∀ (f' : Nat) (a1 a2 a3 a4 : Int32), fX12_byKind_3 (fG5 (f + 9)) a1 a2 a3 a4 (f' + 1) (nI i) (nI 2) x (nI 3) g = some (pM g (40 :: ((a_T0 K (nI i) v x).1 ++ (a_P K K (nI i) v 1).1)), (a_T0 K (nI i) v x).2 + (a_P K K (nI i) v 1).2) := fun f' a1 a2 a3 a4 => by
    rw [m_b40 h (k := 3) (a := 2) (by decide) (by decide) rfl]
    show c_b2 (fG5 (f + 9) 1 (p1M g 40) (nI 0) (nI i) 2 x) _ = _
    rw [yT0 ((h.p1 40).le (by decide)) (k := 0) (Or.inl rfl) (f + 1), c_b2s, yAll h1 (f + 8) 1 1 0 (yP h1 h.2.2.2.2.1 (f + 2) 1), c_b2s, ← pM_app]
    exact pM_c _ _ _ _
  rcases (show k = 0 ∨ k = 1 ∨ k = 2 ∨ k = 3 ∨ k = 4 ∨ k = 5 ∨ k = 6 by omega) with rfl | rfl | rfl | rfl | rfl | rfl | rfl
  · exact yT0 (h.le (by decide)) (k := 0) (Or.inl rfl) (f + 2) x
  · exact yT0 (h.le (by decide)) (k := 1) (Or.inr (Or.inl rfl)) (f + 2) x
  · exact yT0 (h.le (by decide)) (k := 2) (Or.inr (Or.inr (Or.inl rfl))) (f + 2) x
  · rw [fG5_1]
    exact b40 _ _ _ _ _
  · exact yT0 (h.le (by decide)) (k := 4) (Or.inr (Or.inr (Or.inr rfl))) (f + 2) x
  · rw [fG5_1, two, m_b60 h (k := 5) (a := 2) (by decide) (by decide) rfl]
    show c_b2 (fG5 (f + 9) 1 (p1M g 60) (nI 2) (nI i) 2 (x - nI i)) _ = _
    rw [yT0 ((h.p1 60).le (by decide)) (k := 2) (Or.inr (Or.inr (Or.inl rfl))) (f + 1), c_b2s]
    exact pM_c _ _ _ _
  · rw [fG5_1, show (4999 + 1 : Nat) = 4998 + 1 + 1 from rfl, two, m_up h (k := 6) (a := 2) (by decide) (by decide) rfl]
    exact b40 _ _ _ _ _
/-! both -/
def q_AA (gC gM : c_G) (n : Nat) : Prop := ∃ r, gC.1 8 2 = nI r ∧ gM.1 0 27 = nI r ∧ r + n ≤ 1000 ∧ ∀ j, j < 20 → gC.1 9 j = gM.1 17 j
theorem q_AA.p1 {gC gM : c_G} {n : Nat} (h : q_AA gC gM (n + 1)) (b : Int32) : q_AA (p1C gC b) (p1M gM b) n := by
  obtain ⟨r, h1, h2, h3, h4⟩ := h
  unfold p1C p1M
  refine ⟨r + 1, by rw [p_si_at, h1, nI_1], by rw [p_si_at, h2, nI_1], by omega, fun j hj => ?_⟩
  rw [p_si_ne _ 8 2 _ (show ¬ (9 = 8 ∧ _) by omega), p_si_ne _ 0 27 _ (show ¬ (17 = 0 ∧ _) by omega), h1, h2]
  by_cases q : (20 : Int32) ≤ nI r
  · rw [if_pos q, if_pos q]
    exact h4 j hj
  · rw [if_neg q, if_neg q, nI_clamp (by omega)]
    by_cases e : j = r
    · subst e
      rw [p_si_at, p_si_at]
    · rw [p_si_ne _ _ _ _ (by omega), p_si_ne _ _ _ _ (by omega)]
      exact h4 j hj
theorem q_AA.p : ∀ (l : List Int32) {gC gM : c_G} {n : Nat}, q_AA gC gM (l.length + n) → q_AA (pC gC l) (pM gM l) n
  | [], _, _, n, h => by
    rw [show ([] : List Int32).length + n = n from Nat.zero_add n] at h
    exact h
  | b :: l, gC, gM, n, h => by
    refine q_AA.p l (q_AA.p1 ?_ b)
    rw [List.length_cons, show l.length + 1 + n = l.length + n + 1 by omega] at h
    exact h
theorem p_R.acts {gC gM gC' gM' : c_G} (h : p_R gC gM) (c1 : ∀ a, a ≠ 8 → a ≠ 9 → gC'.1 a = gC.1 a) (c2 : gC'.2 = gC.2) (m1 : ∀ a j, ¬ (a = 17 ∨ (a = 0 ∧ j = 27)) → gM'.1 a j = gM.1 a j) (m2 : gM'.2 = gM.2) (hA : p_Acm gC' gM') : p_R gC' gM' := by
  obtain ⟨n, hs, h1, h2, hv, hi, hx, -, ht, hk, hb⟩ := h
  have mr : ∀ a, a ≠ 0 → a ≠ 17 → gM'.1 a = gM.1 a := fun a z1 z2 => funext fun j => m1 a j (by omega)
  have c0 := c1 0 (by decide) (by decide)
  refine ⟨n, ?_, by rw [mr 1 (by decide) (by decide)]; exact h1, by rw [mr 1 (by decide) (by decide)]; exact h2, hv.eq (fun a _ _ => c1 a (by omega) (by omega)) (by rw [c0]) (m1 0 8 (by omega)) (mr 5 (by decide) (by decide)) (mr 6 (by decide) (by decide)), hi.eq (fun a _ _ => c1 a (by omega) (by omega)) (by rw [c0]) (by rw [c2]) (m1 0 3 (by omega)) (mr 3 (by decide) (by decide)), hx.eq (c1 1 (by decide) (by decide)) (by rw [c0]) (mr 4 (by decide) (by decide)) (m1 0 5 (by omega)), hA, fun t q => (ht t q).eq (by rw [c1 10 (by decide) (by decide)]) (by rw [c1 11 (by decide) (by decide)]) (by rw [mr 18 (by decide) (by decide)]) (by rw [mr 19 (by decide) (by decide)]) (by rw [c2]) (fun j hj => by rw [m2]), hk.eq (mr 9 (by decide) (by decide)) (mr 10 (by decide) (by decide)) (mr 11 (by decide) (by decide)) (mr 15 (by decide) (by decide)), hb.eq (mr 16 (by decide) (by decide))⟩
  rw [mr 1 (by decide) (by decide)]
  exact hs.eq (fun a _ _ => c1 a (by omega) (by omega)) (by rw [c2])
theorem e_act {gC gM : c_G} (h : p_R gC gM) (a b x : Int32) : p_Eq (fX11_act gC a b x) (fX12_act gM a b x) := by
  obtain ⟨n, hs, h1, h2, hv, hi, hx, hA, ht, hk, hb⟩ := id h
  obtain ⟨c9, hc9, e1, e2⟩ := hs.many
  obtain ⟨r0, -, -, -, hrow⟩ := hA
  unfold fX11_act fX12_act
  rw [c_let_d (c_si gC 8 2 0), c_let_d (c_si gM 0 27 0)]
  generalize hC1 : c_si gC 8 2 0 = gC1
  generalize hM1 : c_si gM 0 27 0 = gM1
  have fC1 : ∀ a j, ¬ (a = 9 ∨ (a = 8 ∧ j = 2)) → gC1.1 a j = gC.1 a j := fun a j z => by rw [← hC1, p_si_ne _ _ _ _ (by omega)]
  have fM1 : ∀ a j, ¬ (a = 17 ∨ (a = 0 ∧ j = 27)) → gM1.1 a j = gM.1 a j := fun a j z => by rw [← hM1, p_si_ne _ _ _ _ (by omega)]
  have sC1 : gC1.2 = gC.2 := by rw [← hC1]; rfl
  have sM1 : gM1.2 = gM.2 := by rw [← hM1]; rfl
  have rC1 : gC1.1 8 2 = nI 0 := by rw [← hC1, p_si_at]; rfl
  have rM1 : gM1.1 0 27 = nI 0 := by rw [← hM1, p_si_at]; rfl
  have row1 : ∀ j, j < 20 → gC1.1 9 j = gM1.1 17 j := fun j hj => by
    rw [← hC1, ← hM1, p_si_ne _ _ _ _ (by omega), p_si_ne _ _ _ _ (by omega)]
    exact hrow j hj
  -- no body ran, number and v may have changed
  have none' : ∀ gC2 : c_G, (∀ a j, a ≠ 8 → gC2.1 a j = gC1.1 a j) → gC2.1 8 2 = nI 0 → gC2.2 = gC1.2 → p_R gC2 gM1 := by
    intro gC2 q1 q2 q3
    refine h.acts (fun a z1 z2 => funext fun j => (q1 a j z1).trans (fC1 a j (by omega))) (q3.trans sC1) fM1 sM1 ⟨0, by decide, q2, rM1, fun j hj => ?_⟩
    rw [q1 9 j (by decide)]
    exact row1 j hj
  rcases e_child (gC := gC1) (gM := gM1) hc9 (by rw [fC1 55 6 (by omega)]; exact e1) (by rw [fM1 1 78 (by omega)]; exact e2) a with ⟨q1, q2, -⟩ | ⟨q1, q2, i, hii, rfl⟩
  · rw [q1, q2]
    exact ⟨gC1, gM1, 0, rfl, rfl, none' gC1 (fun _ _ _ => rfl) rC1 rfl⟩
  · have hi6 : i < 6 := by omega
    rw [q1, q2, Option.bind_some, Option.bind_some, if_neg i10, if_neg i10, c_let_d, p_in hi6 (by decide), if_pos rfl, nI_clamp (show i < 2 ^ 31 by omega), c_let_d]
    obtain ⟨K, hK, eK⟩ := hs.okkind hi6
    have r61 : gC.1 61 i = gM.1 1 (24 + 9 * i + 1) := by rw [hs.1, p_al_v _ _ hi6]
    have r60 : gC.1 60 i = gM.1 1 (24 + 9 * i) := by rw [hs.1, p_al_kind _ _ hi6]
    generalize hV : gM.1 1 (24 + 9 * i + 1) = V
    have c61 : (c_si gC1 8 0 (nI i)).1 61 i = V := by
      rw [p_si_ne _ _ _ _ (by omega), fC1 61 i (by omega), r61]
      exact hV
    rw [c61]
    generalize hC2 : c_si (c_si gC1 8 0 (nI i)) 8 1 V = gC2
    have fC2 : ∀ a j, a ≠ 8 → gC2.1 a j = gC1.1 a j := fun a j z => by rw [← hC2, p_si_ne _ _ _ _ (by omega), p_si_ne _ _ _ _ (by omega)]
    have rC2 : gC2.1 8 2 = nI 0 := by rw [← hC2, p_si_ne _ _ _ _ (by omega), p_si_ne _ _ _ _ (by omega)]; exact rC1
    have sC2 : gC2.2 = gC1.2 := by rw [← hC2]; rfl
    have c60 : gC2.1 60 i = nI K := by
      rw [fC2 60 i (by decide), fC1 60 i (by omega), r60]
      exact eK
    have okA2 : okA gC2 (nI i) V 12 := ⟨⟨0, rC2, by decide⟩, by rw [← hC2, p_si_ne _ _ _ _ (by omega), p_si_at], by rw [← hC2, p_si_at]⟩
    have okB2 : okB gM1 i K V 12 := by
      have mr : ∀ a, a ≠ 0 → a ≠ 17 → gM1.1 a = gM.1 a := fun a z1 z2 => funext fun j => fM1 a j (by omega)
      exact ⟨⟨0, rM1, by decide⟩, hk.eq (mr 9 (by decide) (by decide)) (mr 10 (by decide) (by decide)) (mr 11 (by decide) (by decide)) (mr 15 (by decide) (by decide)), hb.eq (mr 16 (by decide) (by decide)), hi6, hK, by rw [mr 1 (by decide) (by decide)]; exact eK, by rw [mr 1 (by decide) (by decide)]; exact hV⟩
    rw [c60, p_in hK (by decide), if_pos rfl, nI_clamp (show K < 2 ^ 31 by omega)]
    have done : ∀ (l : List Int32) (r : Int32), l.length ≤ 12 → p_Eq (some (pC gC2 l, r)) (some (pM gM1 l, r)) := by
      intro l r hl
      obtain ⟨z, z1, z2, z3, z4⟩ := q_AA.p l (gC := gC2) (gM := gM1) (n := 12 - l.length) ⟨0, rC2, rM1, by omega, fun j hj => by rw [fC2 9 j (by decide)]; exact row1 j hj⟩
      refine ⟨_, _, r, rfl, rfl, h.acts (fun a y1 y2 => funext fun j => ?_) ?_ (fun a j y => ?_) ?_ ⟨z, by omega, z1, z2, z4⟩⟩
      · rw [(pC_fr l gC2).1 a j (by omega), fC2 a j y1, fC1 a j (by omega)]
      · rw [(pC_fr l gC2).2, sC2, sC1]
      · rw [(pM_fr l gM1).1 a j y, fM1 a j y]
      · rw [(pM_fr l gM1).2, sM1]
    rcases e_isInK b (n := 3) (by decide) 2 rfl with ⟨q3, q4⟩ | ⟨q3, k, hk3, rfl⟩
    · rw [q3, if_pos (show (0 : Int32) = 0 from rfl), if_neg (show ¬ b = (0 : Int32) from fun z => q4 ⟨0, by decide, z⟩), if_neg (show ¬ b = (1 : Int32) from fun z => q4 ⟨1, by decide, z⟩), if_neg (show ¬ b = (2 : Int32) from fun z => q4 ⟨2, by decide, z⟩)]
      exact ⟨gC2, gM1, 0, rfl, rfl, none' gC2 fC2 rC2 sC2⟩
    · rw [q3, if_neg i10]
      rcases (show k = 0 ∨ k = 1 ∨ k = 2 by omega) with rfl | rfl | rfl
      · rw [if_pos (show nI 0 = (0 : Int32) from rfl), xL (okA2.le (by decide)) hK x, c_b2s, yAll okB2 39 (nI 0) x 0 (yL (okB2.le (by decide)) hK 37 x), c_b2s]
        exact done _ _ (Nat.le_trans (a_L_len K (nI i) V x) (by decide))
      · rw [if_neg (show ¬ nI 1 = (0 : Int32) by decide), if_pos (show nI 1 = (1 : Int32) from rfl), xP (okA2.le (by decide)) hK x, c_b2s, yAll okB2 39 (nI 1) x 0 (yP (okB2.le (by decide)) hK 33 x), c_b2s]
        exact done _ _ (Nat.le_trans (a_P_len K K (nI i) V x) (by decide))
      · rw [if_neg (show ¬ nI 2 = (0 : Int32) by decide), if_neg (show ¬ nI 2 = (1 : Int32) by decide), if_pos (show nI 2 = (2 : Int32) from rfl), xT okA2 hK x, c_b2s, yAll okB2 39 (nI 2) x 0 (yT okB2 hK 29 x), c_b2s]
        exact done _ _ (a_T_len K K (nI i) V x)
