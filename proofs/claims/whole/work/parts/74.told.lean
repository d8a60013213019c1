/-! PURE: the round on both sides; told -/
def q_bask (row : Nat → Nat) : Nat → Nat → (Nat → Int32) → (Nat → Int32)
  | 0, _, m => m
  | k + 1, c, m => q_bask row k (c + 1) (upd m (24 + 9 * c + 4) (nI (row c)))
theorem q_bask_ne {row : Nat → Nat} : ∀ (k c : Nat) (m : Nat → Int32) {j : Nat}, (∀ i, c ≤ i → i < c + k → j ≠ 24 + 9 * i + 4) → q_bask row k c m j = m j
  | 0, _, _, _, _ => rfl
  | k + 1, c, m, j, h => (q_bask_ne k (c + 1) _ fun i h1 h2 => h i (by omega) (by omega)).trans (pk_un (h c (by omega) (by omega)))
theorem q_bask_at {row : Nat → Nat} : ∀ (k c : Nat) (m : Nat → Int32) {i : Nat}, c ≤ i → i < c + k → q_bask row k c m (24 + 9 * i + 4) = nI (row i)
  | 0, c, m, i, h1, h2 => by omega
  | k + 1, c, m, i, h1, h2 => by
    by_cases e : i = c
    · subst e
      exact (q_bask_ne k (i + 1) _ fun j h3 h4 => by omega).trans pk_us
    · exact q_bask_at k (c + 1) _ (by omega) (by omega)
def q_ex (D : Nat → Bool) : Nat → Nat → Bool
  | 0, _ => false
  | k + 1, i => D i || q_ex D k (i + 1)
theorem q_ex_set {D D' : Nat → Bool} {z : Nat} (hne : ∀ y, y ≠ z → D' y = D y) (h0 : D z = false) : ∀ (k i : Nat), (i ≤ z ∧ z < i + k → q_ex D' k i = (q_ex D k i || D' z)) ∧ (¬ (i ≤ z ∧ z < i + k) → q_ex D' k i = q_ex D k i)
  | 0, i => ⟨fun h => by omega, fun _ => rfl⟩
  | k + 1, i => by
    obtain ⟨a, b⟩ := q_ex_set hne h0 k (i + 1)
    unfold q_ex
    by_cases e : i = z
    · subst e
      rw [h0, b (by omega)]
      refine ⟨fun _ => ?_, fun h => by omega⟩
      cases D' i <;> cases q_ex D k (i + 1) <;> rfl
    · rw [hne i e]
      refine ⟨fun h => ?_, fun h => ?_⟩
      · rw [a (by omega), Bool.or_assoc]
      · rw [b (by omega)]
theorem q_usedL_bit (m : Nat → Int32) (y : Nat) : ∀ (k i : Nat) (b : Int32), b_bit (q_usedL m k i b) y = (b_bit b y || q_ex (fun j => !decide (m (4 * j + 1) = -1) && b_bit ((1 : Int32) <<< (m (4 * j + 1) &&& 31)) y) k i)
  | 0, i, b => by
    show b_bit b y = (b_bit b y || false)
    rw [Bool.or_false]
  | k + 1, i, b => by
    unfold q_usedL q_ex
    rw [q_usedL_bit m y k (i + 1)]
    by_cases q : m (4 * i + 1) = -1
    · rw [if_pos q]
      simp [q]
    · rw [if_neg q, b_or]
      simp [q, Bool.or_assoc]
theorem q_used_set {m : Nat → Int32} {e : Nat} (he : e < 6) (h1 : m (4 * e + 1) = -1) {w : Int32} (hw : ¬ w = -1) (x : Int32) : q_used (upd (upd m (4 * e + 1) w) (4 * e + 2) x) = q_used m ||| ((1 : Int32) <<< (w &&& 31)) := by
  apply b_ext
  intro y hy
  unfold q_used
  rw [b_or, q_usedL_bit, q_usedL_bit, pk_un (show 79 ≠ 4 * e + 2 by omega), pk_un (show 79 ≠ 4 * e + 1 by omega)]
  rw [(q_ex_set (D := fun j => !decide (m (4 * j + 1) = -1) && b_bit ((1 : Int32) <<< (m (4 * j + 1) &&& 31)) y) (D' := fun j => !decide (upd (upd m (4 * e + 1) w) (4 * e + 2) x (4 * j + 1) = -1) && b_bit ((1 : Int32) <<< (upd (upd m (4 * e + 1) w) (4 * e + 2) x (4 * j + 1) &&& 31)) y) (z := e) (fun j hj => by
    show (!decide (upd (upd m (4 * e + 1) w) (4 * e + 2) x (4 * j + 1) = -1) && _) = _
    rw [pk_un (by omega), pk_un (by omega)]) (by simp [h1]) 6 0).1 ⟨Nat.zero_le _, by omega⟩]
  rw [pk_un (show 4 * e + 1 ≠ 4 * e + 2 by omega), pk_us]
  simp [hw, Bool.or_assoc]
theorem q_namedL_cnt (m : Nat → Int32) : ∀ (k i b : Nat), q_namedL m k i b = b + q_cnt (fun j => !decide (m (4 * j + 1) = -1)) k i
  | 0, _, _ => rfl
  | k + 1, i, b => by
    unfold q_namedL q_cnt
    rw [q_namedL_cnt m k (i + 1)]
    by_cases q : m (4 * i + 1) = -1
    · simp [q]
    · simp [q, Nat.add_assoc]
theorem q_named_set {m : Nat → Int32} {e : Nat} (he : e < 6) (h1 : m (4 * e + 1) = -1) {w : Int32} (hw : ¬ w = -1) (x : Int32) : q_named (upd (upd m (4 * e + 1) w) (4 * e + 2) x) = q_named m + 1 := by
  unfold q_named
  rw [q_namedL_cnt, q_namedL_cnt, (q_cnt_set (D := fun j => !decide (m (4 * j + 1) = -1)) (D' := fun j => !decide (upd (upd m (4 * e + 1) w) (4 * e + 2) x (4 * j + 1) = -1)) (z := e) (fun j hj => by
    show (!decide (upd (upd m (4 * e + 1) w) (4 * e + 2) x (4 * j + 1) = -1)) = _
    rw [pk_un (by omega), pk_un (by omega)]) (by simp [h1]) (by
    show (!decide (upd (upd m (4 * e + 1) w) (4 * e + 2) x (4 * e + 1) = -1)) = true
    rw [pk_un (by omega), pk_us]
    simp [hw]) 6 0).1 ⟨Nat.zero_le _, by omega⟩]
  omega
theorem q_named_cg {m m' : Nat → Int32} (h : ∀ e, e < 6 → m (4 * e + 1) = m' (4 * e + 1)) : q_named m = q_named m' := by
  unfold q_named
  rw [q_namedL_cnt, q_namedL_cnt, q_cnt_cg 6 0 fun y _ hy => by rw [h y (by omega)]]
theorem q_fit_cg {m m' : Nat → Int32} {W : (Nat → Int32) → Int32} {c e : Nat} {v : Int32} (h1 : m' (4 * e) = m (4 * e)) (h2 : ∀ f, f < 9 → f ≠ 4 → m' (24 + 9 * c + f) = m (24 + 9 * c + f)) : q_fit m' W c v e = q_fit m W c v e := by
  funext x
  have e0 := h2 0 (by decide) (by decide)
  have e3 := h2 3 (by decide) (by decide)
  have e5 := h2 (5 + x % 4) (by omega) (by omega)
  rw [Nat.add_zero] at e0
  have ee : q_env m' c v x e = q_env m c v x e := by
    funext j
    unfold q_env
    split
    · rfl
    · exact e0
    · rfl
    · rfl
    · exact h1
    · rw [e3]
  unfold q_fit
  rw [ee, e0, e3, e5, h1]
theorem q_takes_val {m : Nat → Int32} {W : (Nat → Int32) → Int32} {n : Nat} (hn : n < 7) {row : Nat → Nat} (hr : ∀ j, j < n → row j < 6) (hd : ∀ i j, i < j → j < n → row i ≠ row j) {x0 : Int32 × Nat} : ∀ (k c : Nat) (m' : Nat → Int32), c + k = n →
    q_used m' = (r_stt (q_mute m) (fun c e w => q_fit m W c (m (24 + 9 * c + 1)) e w) (fun c => m (24 + 9 * c + 2)) x0 row c).1 → q_named m' = (r_stt (q_mute m) (fun c e w => q_fit m W c (m (24 + 9 * c + 1)) e w) (fun c => m (24 + 9 * c + 2)) x0 row c).2 →
    (∀ i, i < 6 → ∀ f, f < 9 → f ≠ 4 → m' (24 + 9 * i + f) = m (24 + 9 * i + f)) → (∀ i, i < n → m' (24 + 9 * i + 4) = nI (row i)) → (∀ e, e < 6 → m' (4 * e) = m (4 * e)) → (∀ e, e < 6 → (∀ j, j < c → e ≠ row j) → m' (4 * e + 1) = m (4 * e + 1) ∧ m' (4 * e + 3) = m (4 * e + 3)) →
    q_named (q_takes W k c m') = (r_stt (q_mute m) (fun c e w => q_fit m W c (m (24 + 9 * c + 1)) e w) (fun c => m (24 + 9 * c + 2)) x0 row n).2
  | 0, c, m', hc, hU, hN, _, _, _, _ => by
    obtain rfl : c = n := by omega
    exact hN
  | k + 1, c, m', hc, hU, hN, h1, h2, h3, h4 => by
    have he := hr c (by omega)
    have hc6 : c < 6 := by omega
    obtain ⟨n1, n3⟩ := h4 (row c) he fun j hj => (hd j c hj (by omega)).symm
    have hmu : q_mute m' (row c) = q_mute m (row c) := by
      unfold q_mute
      rw [n1, n3]
    have hf : q_fit m' W c (m (24 + 9 * c + 1)) (row c) = fun w => q_fit m W c (m (24 + 9 * c + 1)) (row c) w := q_fit_cg (h3 _ he) (h1 c hc6)
    have hsay : q_says m' W c (m' (24 + 9 * c + 1)) (m' (24 + 9 * c + 2)) (row c) = r_word (q_mute m) (fun c e w => q_fit m W c (m (24 + 9 * c + 1)) e w) (fun c => m (24 + 9 * c + 2)) c (row c) (r_stt (q_mute m) (fun c e w => q_fit m W c (m (24 + 9 * c + 1)) e w) (fun c => m (24 + 9 * c + 2)) x0 row c).1 := by
      unfold q_says r_word
      rw [h1 c hc6 1 (by decide) (by decide), h1 c hc6 2 (by decide) (by decide), hmu, hf, hU]
    have hst : r_stt (q_mute m) (fun c e w => q_fit m W c (m (24 + 9 * c + 1)) e w) (fun c => m (24 + 9 * c + 2)) x0 row (c + 1) = r_stp (q_mute m) (fun c e w => q_fit m W c (m (24 + 9 * c + 1)) e w) (fun c => m (24 + 9 * c + 2)) c (row c) (r_stt (q_mute m) (fun c e w => q_fit m W c (m (24 + 9 * c + 1)) e w) (fun c => m (24 + 9 * c + 2)) x0 row c) := rfl
    have hO := r_word_O (q_mute m) (fun c e w => q_fit m W c (m (24 + 9 * c + 1)) e w) (fun c => m (24 + 9 * c + 2)) c (row c) (r_stt (q_mute m) (fun c e w => q_fit m W c (m (24 + 9 * c + 1)) e w) (fun c => m (24 + 9 * c + 2)) x0 row c).1
    unfold q_takes
    rw [h2 c (by omega), if_neg (p_mN (by omega)), nI_clamp (by omega)]
    by_cases q : r_word (q_mute m) (fun c e w => q_fit m W c (m (24 + 9 * c + 1)) e w) (fun c => m (24 + 9 * c + 2)) c (row c) (r_stt (q_mute m) (fun c e w => q_fit m W c (m (24 + 9 * c + 1)) e w) (fun c => m (24 + 9 * c + 2)) x0 row c).1 = -1
    · have ht : q_take m' W c (row c) = m' := by
        unfold q_take
        rw [hsay, if_pos q]
      rw [ht]
      refine q_takes_val hn hr hd k (c + 1) m' (by omega) ?_ ?_ h1 h2 h3 fun e he hj => h4 e he fun j hj2 => hj j (by omega)
      · rw [hst]
        unfold r_stp
        rw [if_pos q]
        exact hU
      · rw [hst]
        unfold r_stp
        rw [if_pos q]
        exact hN
    · have nomute : ¬ q_mute m (row c) = true := fun z => q (by unfold r_word; rw [if_pos z])
      have hfree : m' (4 * row c + 1) = -1 := by
        rw [n1]
        unfold q_mute at nomute
        simp only [Bool.or_eq_true, Bool.not_eq_true', decide_eq_false_iff_not, decide_eq_true_eq, not_or, Decidable.not_not] at nomute
        exact nomute.1
      have ht : q_take m' W c (row c) = upd (upd m' (4 * row c + 1) (r_word (q_mute m) (fun c e w => q_fit m W c (m (24 + 9 * c + 1)) e w) (fun c => m (24 + 9 * c + 2)) c (row c) (r_stt (q_mute m) (fun c e w => q_fit m W c (m (24 + 9 * c + 1)) e w) (fun c => m (24 + 9 * c + 2)) x0 row c).1)) (4 * row c + 2) (nI c) := by
        unfold q_take
        rw [hsay, if_neg q]
      rw [ht]
      refine q_takes_val hn hr hd k (c + 1) _ (by omega) ?_ ?_ (fun i hi f hf hf4 => ?_) (fun i hi => ?_) (fun e he2 => ?_) fun e he2 hj => ?_
      · rw [hst, q_used_set he hfree q, hU]
        unfold r_stp
        rw [if_neg q]
      · rw [hst, q_named_set he hfree q, hN]
        unfold r_stp
        rw [if_neg q]
      · rw [pk_un (by omega), pk_un (by omega)]
        exact h1 i hi f hf hf4
      · rw [pk_un (by omega), pk_un (by omega)]
        exact h2 i hi
      · rw [pk_un (by omega), pk_un (by omega)]
        exact h3 e he2
      · have hne := hj c (by omega)
        rw [pk_un (by omega), pk_un (by omega), pk_un (by omega), pk_un (by omega)]
        exact h4 e he2 fun j hj2 => hj j (by omega)
def r_val (m : Nat → Int32) (W : (Nat → Int32) → Int32) (n : Nat) (row : Nat → Nat) : Nat := (r_stt (q_mute m) (fun c e w => q_fit m W c (m (24 + 9 * c + 1)) e w) (fun c => m (24 + 9 * c + 2)) (q_used m, q_named m) row n).2
theorem q_round_val {m : Nat → Int32} {W : (Nat → Int32) → Int32} {L : Int32} {n : Nat} (hn : n < 7) (hm : m 78 = nI n) {row : Nat → Nat} (hr : ∀ j, j < n → row j < 6) (hd : ∀ i j, i < j → j < n → row i ≠ row j) : q_named (q_sunday W L (q_bask row n 0 m)) = r_val m W n row := by
  have e78 : q_bask row n 0 m 78 = nI n := (q_bask_ne n 0 m (by omega)).trans hm
  have lo : ∀ j, j < 24 → q_bask row n 0 m j = m j := fun j hj => q_bask_ne n 0 m (by omega)
  unfold q_sunday q_end
  rw [e78, nI_clamp (by omega), q_named_cg (m' := q_takes W n 0 (q_bask row n 0 m)) (fun e he => by rw [pk_un (by omega), q_grows_ne n 0 _ (by omega)])]
  refine q_takes_val hn hr hd n 0 (q_bask row n 0 m) (by omega) ?_ ?_ (fun i hi f hf hf4 => q_bask_ne n 0 m (by omega)) (fun i hi => q_bask_at n 0 m (Nat.zero_le _) (by omega)) (fun e he => lo _ (by omega)) fun e he _ => ⟨lo _ (by omega), lo _ (by omega)⟩
  · show q_used (q_bask row n 0 m) = q_used m
    apply b_ext
    intro y hy
    unfold q_used
    rw [q_usedL_bit, q_usedL_bit, q_bask_ne n 0 m (j := 79) (by omega)]
    congr 1
    have cg : ∀ (k i : Nat), i + k ≤ 6 → q_ex (fun j => !decide (q_bask row n 0 m (4 * j + 1) = -1) && b_bit ((1 : Int32) <<< (q_bask row n 0 m (4 * j + 1) &&& 31)) y) k i = q_ex (fun j => !decide (m (4 * j + 1) = -1) && b_bit ((1 : Int32) <<< (m (4 * j + 1) &&& 31)) y) k i := by
      intro k
      induction k with
      | zero => intro i _; rfl
      | succ k ih =>
        intro i hi
        unfold q_ex
        rw [ih (i + 1) (by omega), lo (4 * i + 1) (by omega)]
    exact cg 6 0 (by decide)
  · exact q_named_cg fun e he => lo _ (by omega)
/-! the reference's side -/
def r_M (m : Nat → Int32) (W : (Nat → Int32) → Int32) (L : Int32) (n c : Nat) (row : Nat → Nat) (acc : r_A) (g : c_G) : Prop :=
  g.1 1 = m ∧ q_M g W L ∧ g.1 0 23 = r_enc (-1) acc.1 ∧ (acc.1 ≠ none → ∀ j, j < n → g.1 14 j = nI (acc.2 j)) ∧ ∀ j, j < c → g.1 13 j = nI (row j)
theorem m_bask (F : Nat → c_G → Int32 → Int32 → Option c_G) (a1 a2 : Int32) {n : Nat} (hn : n < 7) {row : Nat → Nat} : ∀ (d x fu : Nat) (g : c_G), x + d = n → d < fu → (∀ j, j < n → g.1 13 j = nI (row j)) →
    ∃ g', fX12_give_18 F a1 a2 fu (nI n) (nI x) g = ((fX12_sunday g').bind fun g18003 => (fX12_howMany g18003).bind fun r18004 => (fX12_lay g18003 ((0 : Int32))).bind fun g18007 => if r18004 ≤ (g18007.1 0 23) then (some g18007) else (c_let (c_si g18007 0 23 r18004) fun g18009 => fX12_give_72 F a1 a2 c_F (nI n) ((0 : Int32)) g18009)) ∧ g'.1 1 = q_bask row d x (g.1 1) ∧ q_fw g g'
  | 0, x, fu + 1, g, hx, hf, h13 => by
    refine ⟨g, ?_, rfl, q_fw.rf g⟩
    rw [fX12_give_18, if_pos (nI_le (by omega) (by omega))]
  | d + 1, x, fu + 1, g, hx, hf, h13 => by
    have hx6 : x < 6 := by omega
    have hg : ∀ j, j < n → (c_si g 1 (24 + 9 * x + 4) (nI (row x))).1 13 j = nI (row j) := fun j hj => by
      rw [p_si_ne _ _ _ _ (by omega)]
      exact h13 j hj
    obtain ⟨g', e1, e2, e3⟩ := m_bask F a1 a2 hn (row := row) d (x + 1) fu (c_si g 1 (24 + 9 * x + 4) (nI (row x))) (by omega) (by omega) hg
    refine ⟨g', ?_, by rw [e2, e_up]; rfl, q_fw.si.tr e3⟩
    rw [fX12_give_18, if_neg (nI_ge (by omega) (by omega)), p_in hx6 (by decide), if_pos rfl, nI_clamp (by omega), h13 x (by omega), e_change g hx6 4 (by decide) 4 rfl, c_b2s, c_let_d, nI_1]
    exact e1
theorem m_best72 (F : Nat → c_G → Int32 → Int32 → Option c_G) (a1 a2 : Int32) {n : Nat} (hn : n < 7) : ∀ (d x fu : Nat) (g : c_G), x + d = n → d < fu → ∃ g', fX12_give_72 F a1 a2 fu (nI n) (nI x) g = some g' ∧ (∀ a, a ≠ 14 → g'.1 a = g.1 a) ∧ g'.2 = g.2 ∧ ∀ j, g'.1 14 j = if x ≤ j ∧ j < n then g.1 13 j else g.1 14 j
  | 0, x, fu + 1, g, hx, hf => by
    refine ⟨g, ?_, fun _ _ => rfl, rfl, fun j => by rw [if_neg (by omega)]⟩
    rw [fX12_give_72, if_pos (nI_le (by omega) (by omega))]
  | d + 1, x, fu + 1, g, hx, hf => by
    have hx6 : x < 6 := by omega
    obtain ⟨g', e1, e2, e3, e4⟩ := m_best72 F a1 a2 hn d (x + 1) fu (c_si g 14 x (g.1 13 x)) (by omega) (by omega)
    refine ⟨g', ?_, fun a ha => (e2 a ha).trans (c_sr_ne ha), e3, fun j => ?_⟩
    · rw [fX12_give_72, if_neg (nI_ge (by omega) (by omega)), p_in hx6 (by decide), if_pos rfl, nI_clamp (by omega), c_let_d, c_let_d, nI_1]
      exact e1
    · rw [e4, p_si_ne _ 14 x _ (show ¬ (13 = 14 ∧ _) by omega)]
      by_cases q : j = x
      · subst q
        rw [if_neg (by omega), if_pos (by omega), p_si_at]
      · rw [p_si_ne _ _ _ _ (by omega)]
        by_cases q3 : x + 1 ≤ j ∧ j < n
        · rw [if_pos q3, if_pos (by omega)]
        · rw [if_neg q3, if_neg (by omega)]
theorem p_fM.of {g g' : c_G} (h : ∀ a j, ¬ (a = 1 ∨ a = 2 ∨ a = 7 ∨ a = 8 ∨ a = 12 ∨ a = 13 ∨ a = 14 ∨ (a = 0 ∧ (10 ≤ j ∧ j ≤ 15 ∨ j = 23))) → g'.1 a j = g.1 a j) (h2 : g'.2 = g.2) : p_fM g g' := by
  refine ⟨fun a j q => h a j ?_, by rw [h2]⟩
  simp only [p_scM, Bool.or_eq_false_iff, Bool.and_eq_false_iff, beq_eq_false_iff_ne] at q
  omega
theorem m_give {m : Nat → Int32} (hi : p_Inv m) (hAg : p_Age m) (hz : ∀ j, 136 ≤ j → m j = 0) {W : (Nat → Int32) → Int32} {L : Int32} (hL : p_N L 100) {n : Nat} (hn : n < 7) (hm : m 78 = nI n) : ∀ (k c given fu : Nat) (row : Nat → Nat) (acc : r_A) (g : c_G), c + k = n → k + 1 ≤ fu → given < 64 → (∀ b, acc.1 = some b → b < 100) → r_M m W L n c row acc g → (∀ j, j < c → row j < 6 ∧ given.testBit (row j) = true) → (∀ i j, i < j → j < c → row i ≠ row j) →
    ∃ g', fG4 fu 0 g (nI c) (nI given) = some g' ∧ r_M m W L n c row (r_T (r_val m W n) k c given row acc) g' ∧ p_fM g g' ∧ g'.2 = g.2 ∧ ∀ b, (r_T (r_val m W n) k c given row acc).1 = some b → b < 100 := by
  intro k
  induction k with
  | zero =>
    intro c given fu row acc g hc hfu hgv hacc hg hr hd
    obtain ⟨fu, rfl⟩ : ∃ x, fu = x + 1 := ⟨fu - 1, by omega⟩
    obtain rfl : c = n := by omega
    obtain ⟨h1, hM, h23, h14, h13⟩ := id hg
    show ∃ g', fX12_give (fG4 fu) g (nI c) (nI given) = some g' ∧ r_M m W L c c row (r_end (r_val m W c row) row acc) g' ∧ p_fM g g' ∧ g'.2 = g.2 ∧ ∀ b, (r_end (r_val m W c row) row acc).1 = some b → b < 100
    obtain ⟨g1, e1, e2, e3, e4⟩ := e_keep g
    have g11 : g1.1 1 = m := (e3 1 (by decide)).trans h1
    obtain ⟨g2, f1, f2, f3⟩ := m_bask (fG4 fu) (nI c) (nI given) hn (row := row) c 0 c_F g1 (by omega) (show c < 5000 by omega) (fun j hj => by rw [e3 13 (by decide)]; exact h13 j hj)
    rw [nI_0] at f1
    have hM1 : q_M g1 W L := hM.eq (by rw [e3 1 (by decide)]) (e3 5 (by decide)) (e3 6 (by decide)) (e3 9 (by decide)) (e3 10 (by decide)) (e3 11 (by decide)) (e3 15 (by decide))
    have g21 : g2.1 1 = q_bask row c 0 m := by rw [f2, g11]
    have bne : ∀ j, (∀ i, i < c → j ≠ 24 + 9 * i + 4) → q_bask row c 0 m j = m j := fun j hj => q_bask_ne c 0 m fun i _ h => hj i (by omega)
    have hM2 : q_M g2 W L := hM1.fw f3 (by rw [g21, g11]; exact bne 81 (by omega))
    have hok : q_ok (g2.1 1) := by
      rw [g21]
      refine ⟨fun i h6 => ⟨?_, ?_⟩, ?_⟩
      · rw [bne _ (by omega)]
        exact (hi.ok.1 i h6).1
      · by_cases z : i < c
        · rw [q_bask_at c 0 m (Nat.zero_le _) (by omega)]
          exact Or.inr ⟨row i, (hr i z).1, rfl⟩
        · rw [bne _ (by omega)]
          exact (hi.ok.1 i h6).2
      · rw [bne 78 (by omega)]
        exact hi.ok.2
    have hAg2 : q_Ag 9999 (g2.1 1) := by
      rw [g21]
      obtain ⟨su, s1, s2, s3⟩ := hAg.ag
      refine ⟨su, s1, by rw [bne 80 (by omega)]; exact s2, fun i h6 => ?_⟩
      rw [bne _ (by omega)]
      exact s3 i h6
    obtain ⟨g3, k1, k2, k3, k4⟩ := m_sunday hM2 hL hok hAg2 (by decide)
    have hval : q_named (g3.1 1) = r_val m W c row := by
      rw [k2, g21]
      exact q_round_val hn hm (fun j hj => (hr j hj).1) hd
    obtain ⟨g4, l1, l2, l3, l4⟩ := e_lay g3
    have g41 : g4.1 1 = m := funext fun j => by
      rw [l4]
      by_cases q : j < 136
      · rw [if_pos q, k3.row (by decide) (by decide) (by decide) (by decide) (by decide), f3.row (by decide) (by decide) (by decide) (by decide) (by decide), e4 j q, h1]
      · rw [if_neg q, k2, (q_sunday_ok hok).2.2 j (by omega), g21, bne j (by omega)]
    have fr4 : ∀ a j, ¬ (a = 1 ∨ a = 2 ∨ a = 7 ∨ a = 8 ∨ a = 12 ∨ (a = 0 ∧ 10 ≤ j ∧ j ≤ 15)) → g4.1 a j = g.1 a j := fun a j z => by
      rw [l3 a (by omega), k3.1 a j (by omega), f3.1 a j (by omega), e3 a (by omega)]
    have s4 : g4.2 = g.2 := by rw [l2, k3.2, f3.2, e2]
    have h423 : g4.1 0 23 = r_enc (-1) acc.1 := (fr4 0 23 (by omega)).trans h23
    have hM4 : q_M g4 W L := hM.eq (by rw [g41, h1]) (funext fun j => fr4 5 j (by omega)) (funext fun j => fr4 6 j (by omega)) (funext fun j => fr4 9 j (by omega)) (funext fun j => fr4 10 j (by omega)) (funext fun j => fr4 11 j (by omega)) (funext fun j => fr4 15 j (by omega))
    have hv6 : r_val m W c row ≤ 6 := by rw [← hval]; exact q_named_le _
    unfold fX12_give
    rw [h1, hm, if_pos rfl, e1, Option.bind_some, f1, k1, Option.bind_some, m_howMany, Option.bind_some, l1, Option.bind_some, hval, h423]
    have iff : (nI (r_val m W c row) ≤ r_enc (-1) acc.1) ↔ ¬ r_gt acc.1 (r_val m W c row) = true := by
      unfold r_enc r_gt
      cases e : acc.1 with
      | none =>
        refine ⟨fun z => absurd z ?_, fun z => absurd rfl z⟩
        show ¬ nI _ ≤ (-1 : Int32)
        intro z
        have := Int32.le_iff_toInt_le.mp z
        rw [nI_toInt (by omega), show (-1 : Int32).toInt = -1 by decide] at this
        omega
      | some b =>
        have := hacc b e
        show nI _ ≤ nI b ↔ ¬ decide (b < _) = true
        rw [nI_leI (by omega) (by omega), decide_eq_true_eq, Nat.not_lt]
    unfold r_end
    by_cases q : r_gt acc.1 (r_val m W c row) = true
    · rw [if_neg (fun z => (iff.mp z) q), if_pos q, c_let_d]
      obtain ⟨g5, j1, j2, j3, j4⟩ := m_best72 (fG4 fu) (nI c) (nI given) hn c 0 c_F (c_si g4 0 23 (nI (r_val m W c row))) (by omega) (show c < 5000 by omega)
      rw [nI_0] at j1
      have r5 : ∀ a, a ≠ 0 → a ≠ 14 → g5.1 a = g4.1 a := fun a z1 z2 => (j2 a z2).trans (c_sr_ne z1)
      refine ⟨g5, j1, ⟨by rw [r5 1 (by decide) (by decide), g41], hM4.eq (by rw [r5 1 (by decide) (by decide)]) (r5 5 (by decide) (by decide)) (r5 6 (by decide) (by decide)) (r5 9 (by decide) (by decide)) (r5 10 (by decide) (by decide)) (r5 11 (by decide) (by decide)) (r5 15 (by decide) (by decide)), ?_, fun _ j hj => ?_, fun j hj => ?_⟩, ?_, ?_, fun b hb => ?_⟩
      · rw [j2 0 (by decide), p_si_at]
        rfl
      · rw [j4, if_pos ⟨Nat.zero_le _, hj⟩, p_si_ne _ _ _ _ (by omega), fr4 13 j (by omega)]
        exact h13 j hj
      · rw [r5 13 (by decide) (by decide), fr4 13 j (by omega)]
        exact h13 j hj
      · refine p_fM.of (fun a j z => ?_) (j3.trans s4)
        rw [j2 a (by omega), p_si_ne _ _ _ _ (by omega), fr4 a j (by omega)]
      · exact j3.trans s4
      · cases hb
        omega
    · rw [if_pos (iff.mpr q), if_neg q]
      refine ⟨g4, rfl, ⟨g41, hM4, h423, fun z j hj => (fr4 14 j (by omega)).trans (h14 z j hj), fun j hj => (fr4 13 j (by omega)).trans (h13 j hj)⟩, p_fM.of (fun a j z => fr4 a j (by omega)) s4, s4, hacc⟩
  | succ k ih =>
    intro c given fu row acc g hc hfu hgv hacc hg hr hd
    obtain ⟨fu, rfl⟩ : ∃ x, fu = x + 1 := ⟨fu - 1, by omega⟩
    obtain ⟨h1, hM, h23, h14, h13⟩ := id hg
    have hc6 : c < 6 := by omega
    show ∃ g', fX12_give (fG4 fu) g (nI c) (nI given) = some g' ∧ _
    unfold fX12_give
    rw [h1, hm, if_neg (fun z => by have := (nI_eq (by omega) (by omega)).mp z; omega)]
    have give : ∀ (e : Nat) (acc1 : r_A) (g1 : c_G), e < 6 → given.testBit e = false → (∀ b, acc1.1 = some b → b < 100) → r_M m W L n c row acc1 g1 → ∃ g', fG4 fu 0 (c_si g1 13 c (nI e)) (nI (c + 1)) (nI (given ||| 2 ^ e)) = some g' ∧ r_M m W L n c row (r_T (r_val m W n) k (c + 1) (given ||| 2 ^ e) (r_up row c e) acc1) g' ∧ p_fM g1 g' ∧ g'.2 = g1.2 ∧ ∀ b, (r_T (r_val m W n) k (c + 1) (given ||| 2 ^ e) (r_up row c e) acc1).1 = some b → b < 100 := by
      intro e acc1 g1 he hte ha1 hg1
      obtain ⟨k1, kM, k23, k14, k13⟩ := hg1
      obtain ⟨gv1, gv2⟩ := r_given hgv he
      have n13 : ∀ a, a ≠ 13 → (c_si g1 13 c (nI e)).1 a = g1.1 a := fun a z => c_sr_ne z
      have hg2 : r_M m W L n (c + 1) (r_up row c e) acc1 (c_si g1 13 c (nI e)) := by
        refine ⟨by rw [n13 1 (by decide)]; exact k1, kM.eq (by rw [n13 1 (by decide)]) (n13 5 (by decide)) (n13 6 (by decide)) (n13 9 (by decide)) (n13 10 (by decide)) (n13 11 (by decide)) (n13 15 (by decide)), by rw [n13 0 (by decide)]; exact k23, fun z j hj => by rw [n13 14 (by decide)]; exact k14 z j hj, fun j hj => ?_⟩
        by_cases y : j = c
        · subst y
          rw [p_si_at, r_up_at]
        · rw [p_si_ne _ _ _ _ (by omega), r_up_ne row y]
          exact k13 j (by omega)
      have hr2 : ∀ j, j < c + 1 → r_up row c e j < 6 ∧ (given ||| 2 ^ e).testBit (r_up row c e j) = true := by
        intro j hj
        by_cases y : j = c
        · subst y
          rw [r_up_at, r_bit]
          exact ⟨he, by simp⟩
        · rw [r_up_ne row y, r_bit]
          obtain ⟨a, b⟩ := hr j (by omega)
          exact ⟨a, by rw [b]; rfl⟩
      have hd2 : ∀ i j, i < j → j < c + 1 → r_up row c e i ≠ r_up row c e j := by
        intro i j hij hj
        by_cases y : j = c
        · subst y
          rw [r_up_at, r_up_ne row (by omega)]
          intro z
          have := (hr i hij).2
          rw [z, hte] at this
          cases this
        · rw [r_up_ne row y, r_up_ne row (by omega)]
          exact hd i j hij (by omega)
      obtain ⟨g3, j1, j2, j3, j4, j5⟩ := ih (c + 1) (given ||| 2 ^ e) fu (r_up row c e) acc1 (c_si g1 13 c (nI e)) (by omega) (by omega) gv2 ha1 hg2 hr2 hd2
      refine ⟨g3, j1, ⟨j2.1, j2.2.1, j2.2.2.1, j2.2.2.2.1, fun j hj => by rw [j2.2.2.2.2 j (by omega), r_up_ne row (by omega)]⟩, ?_, j4, j5⟩
      have f0 : p_fM g1 (c_si g1 13 c (nI e)) := p_fM.of (fun a j z => by rw [n13 a (by omega)]) rfl
      exact f0.tr j3
    have loop : ∀ (d e F : Nat) (acc1 : r_A) (g1 : c_G), e + d = 6 → d < F → (∀ b, acc1.1 = some b → b < 100) → r_M m W L n c row acc1 g1 → ∃ g', fX12_give_101 (fG4 fu) (nI c) (nI given) F (nI c) (nI given) (nI e) g1 = some g' ∧ r_M m W L n c row (r_F (fun e acc => if given.testBit e = true then acc else r_T (r_val m W n) k (c + 1) (given ||| 2 ^ e) (r_up row c e) acc) d e acc1) g' ∧ p_fM g1 g' ∧ g'.2 = g1.2 ∧ ∀ b, (r_F (fun e acc => if given.testBit e = true then acc else r_T (r_val m W n) k (c + 1) (given ||| 2 ^ e) (r_up row c e) acc) d e acc1).1 = some b → b < 100 := by
      intro d
      induction d with
      | zero =>
        intro e F acc1 g1 he hF ha1 hg1
        obtain ⟨F, rfl⟩ : ∃ x, F = x + 1 := ⟨F - 1, by omega⟩
        refine ⟨g1, ?_, hg1, p_fM.rf g1, rfl, ha1⟩
        rw [fX12_give_101, if_pos (show (6 : Int32) ≤ nI e from nI_le (a := 6) (by omega) (by omega))]
      | succ d ihd =>
        intro e F acc1 g1 he hF ha1 hg1
        obtain ⟨F, rfl⟩ : ∃ x, F = x + 1 := ⟨F - 1, by omega⟩
        have he6 : e < 6 := by omega
        have bt : b_bit (nI given) e = given.testBit e := b_nI (by omega)
        obtain ⟨gv1, gv2⟩ := r_given hgv he6
        rw [fX12_give_101, if_neg (show ¬ (6 : Int32) ≤ nI e from nI_ge (b := 6) he6 (by decide)), p_in hc6 (by decide), if_pos rfl, nI_clamp (by omega), c_let_d, gv1, nI_1]
        unfold fX12_give_134
        by_cases z : given.testBit e = true
        · obtain ⟨g2, a1, a2, a3, a4, a5⟩ := ihd (e + 1) F acc1 g1 (by omega) (by omega) ha1 hg1
          rw [if_neg (fun y => by rw [(b_shr0 _ (show e < 31 by omega)).mp y] at bt; rw [z] at bt; cases bt), c_let_d, nI_1]
          refine ⟨g2, a1, ?_, a3, a4, ?_⟩
          · unfold r_F
            rw [if_pos z]
            exact a2
          · unfold r_F
            rw [if_pos z]
            exact a5
        · obtain ⟨g2, a1, a2, a3, a4, a5⟩ := give e acc1 g1 he6 (by simpa using z) ha1 hg1
          obtain ⟨g3, b1, b2, b3, b4, b5⟩ := ihd (e + 1) F _ g2 (by omega) (by omega) a5 a2
          rw [if_pos ((b_shr0 _ (show e < 31 by omega)).mpr (by rw [bt]; simpa using z)), a1, Option.bind_some, c_let_d, nI_1]
          refine ⟨g3, b1, ?_, a3.tr b3, b4.trans a4, ?_⟩
          · unfold r_F
            rw [if_neg z]
            exact b2
          · unfold r_F
            rw [if_neg z]
            exact b5
    have := loop 6 0 c_F acc g rfl (by decide) hacc hg
    rw [nI_0] at this
    exact this
