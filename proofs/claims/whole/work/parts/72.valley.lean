/-! PURE: valley on both sides -/
section CGT
variable {t t' : Nat → Int32} {n : Nat}
theorem s_at_cg (h : ∀ j, j < n → t j = t' j) : s_at t n = s_at t' n := by
  funext p c
  unfold s_at
  by_cases q : p < n
  · rw [h p q]
  · simp [q]
theorem s_dig_cg (h : ∀ j, j < n → t j = t' j) : s_dig t n = s_dig t' n := by
  funext p
  unfold s_dig
  by_cases q : p < n
  · rw [h p q]
  · simp [q]
theorem s_num_cg (h : ∀ j, j < n → t j = t' j) : s_num t n = s_num t' n := by
  funext p
  unfold s_num
  rw [s_dig_cg h]
  by_cases q1 : s_dig t' n p = true
  · rw [if_pos q1, if_pos q1, h p (s_dig_lt q1)]
    by_cases q2 : s_dig t' n (p + 1) = true
    · rw [if_pos q2, if_pos q2, h (p + 1) (s_dig_lt q2)]
    · rw [if_neg q2, if_neg q2]
  · rw [if_neg q1, if_neg q1]
theorem s_test_cg (h : ∀ j, j < n → t j = t' j) : s_test t n = s_test t' n := by
  funext p
  unfold s_test s_let s_rel
  rw [s_at_cg h, s_num_cg h]
theorem s_bothL_cg (h : ∀ j, j < n → t j = t' j) (f : Nat → Except Nat (s_V × Nat)) : ∀ (k : Nat) (v : s_V) (p : Nat), s_bothL t n f k v p = s_bothL t' n f k v p
  | 0, _, _ => rfl
  | k + 1, v, p => by
    unfold s_bothL
    rw [s_at_cg h]
    split
    · cases f (p + 1) with
      | error q => rfl
      | ok z => exact s_bothL_cg h f k _ _
    · rfl
theorem s_both_cg (h : ∀ j, j < n → t j = t' j) (f : Nat → Except Nat (s_V × Nat)) : s_both t n f = s_both t' n f := by
  funext p
  unfold s_both
  cases f p with
  | error q => rfl
  | ok z => exact s_bothL_cg h f n _ _
theorem s_anyL_cg (h : ∀ j, j < n → t j = t' j) (f : Nat → Except Nat (s_V × Nat)) : ∀ (k : Nat) (v : s_V) (p : Nat), s_anyL t n f k v p = s_anyL t' n f k v p
  | 0, _, _ => rfl
  | k + 1, v, p => by
    unfold s_anyL
    rw [s_at_cg h, s_both_cg h]
    split
    · cases s_both t' n f (p + 1) with
      | error q => rfl
      | ok z => exact s_anyL_cg h f k _ _
    · rfl
theorem s_any_cg (h : ∀ j, j < n → t j = t' j) (f : Nat → Except Nat (s_V × Nat)) : s_any t n f = s_any t' n f := by
  funext p
  unfold s_any
  rw [s_both_cg h]
  cases s_both t' n f p with
  | error q => rfl
  | ok z => exact s_anyL_cg h f n _ _
theorem s_fac_cg (h : ∀ j, j < n → t j = t' j) : ∀ k, s_fac t n k = s_fac t' n k
  | 0 => by
    funext p
    show s_test t n p = s_test t' n p
    rw [s_test_cg h]
  | k + 1 => by
    funext p
    unfold s_fac
    rw [s_at_cg h, s_fac_cg h k, s_any_cg h, s_test_cg h]
theorem s_wd_cg (h : ∀ j, j < n → t j = t' j) : ∀ (l : List Int32) (p : Nat), s_wd t n l p = s_wd t' n l p
  | [], _ => rfl
  | c :: l, p => by
    unfold s_wd
    rw [s_at_cg h, s_wd_cg h l]
theorem s_clause_cg (h : ∀ j, j < n → t j = t' j) (p : Nat) : s_clause t n p = s_clause t' n p := by
  unfold s_clause
  rw [s_at_cg h, s_num_cg h, s_any_cg h, s_fac_cg h]
  simp only [s_wd_cg h]
theorem s_all_cg (h : ∀ j, j < n → t j = t' j) : ∀ (k : Nat) (w : (Nat → Int32) → Int32) (z : Int32) (p : Nat), s_all t n k w z p = s_all t' n k w z p
  | 0, _, _, _ => rfl
  | k + 1, w, z, p => by
    unfold s_all
    rw [s_clause_cg h, s_at_cg h]
    cases s_clause t' n p with
    | error q => rfl
    | ok y =>
      obtain ⟨u, y, q⟩ := y
      show (if n ≤ q then _ else if k = 0 then _ else if s_at t' n q 59 = true then s_all t n k _ _ (q + 1) else _) = _
      rw [s_all_cg h k]
theorem s_text_cg (h : ∀ j, j < n → t j = t' j) : s_text t n = s_text t' n := s_all_cg h 10 _ _ _
end CGT
theorem m_v22 {n : Nat} (hn : n ≤ 100) : ∀ (d j F : Nat) (g : c_G), j + d = n → d < F → g.1 0 10 = nI n →
    ∃ g', fX12_valley_22 F (nI j) g = (c_let (c_si g' 0 5 (0 : Int32)) fun g22002 => c_b2 (fX12_readAll g22002) fun g22004 r22005 => if r22005 = 0 then (some (g22004, ((-10 : Int32) - (g22004.1 0 11)))) else (fX12_valley_70 c_F ((0 : Int32)) g22004)) ∧ (∀ a, a ≠ 7 → g'.1 a = g.1 a) ∧ g'.2 = g.2 ∧ ∀ i, g'.1 7 i = if j ≤ i ∧ i < n then g.1 4 i else g.1 7 i
  | 0, j, F + 1, g, hj, hF, h10 => by
    refine ⟨g, ?_, fun _ _ => rfl, rfl, fun i => by rw [if_neg (by omega)]⟩
    rw [fX12_valley_22, h10, if_pos (nI_le (by omega) (by omega))]
  | d + 1, j, F + 1, g, hj, hF, h10 => by
    obtain ⟨g', e1, e2, e3, e4⟩ := m_v22 hn d (j + 1) F (c_si g 7 j (g.1 4 j)) (by omega) (by omega) (by rw [p_si_ne _ _ _ _ (by omega)]; exact h10)
    refine ⟨g', ?_, fun a ha => (e2 a ha).trans (c_sr_ne ha), e3, fun i => ?_⟩
    · rw [fX12_valley_22, h10, if_neg (nI_ge (by omega) (by omega)), p_in (show j < 100 by omega) (by decide), if_pos rfl, nI_clamp (show j < 2 ^ 31 by omega), c_let_d, c_let_d, nI_1]
      exact e1
    · rw [e4, p_si_ne _ 7 j _ (show ¬ (4 = 7 ∧ _) by omega)]
      by_cases q : i = j
      · subst q
        rw [if_neg (by omega), if_pos (by omega), p_si_at]
      · rw [p_si_ne _ _ _ _ (by omega)]
        by_cases q3 : j + 1 ≤ i ∧ i < n
        · rw [if_pos q3, if_pos (by omega)]
        · rw [if_neg q3, if_neg (by omega)]
theorem m_v70 {n v : Nat} (hn : n ≤ 100) (hv : v < 6) : ∀ (d j F : Nat) (g : c_G), j + d = n → d < F → g.1 0 10 = nI n → g.1 0 8 = nI v →
    ∃ g', fX12_valley_70 F (nI j) g = some (c_si (c_si (c_si g' 6 v (nI n)) 0 8 (nI (v + 1))) 1 81 (nI (v + 1)), nI v) ∧ (∀ a, a ≠ 5 → g'.1 a = g.1 a) ∧ g'.2 = g.2 ∧ ∀ i, g'.1 5 i = if 100 * v + j ≤ i ∧ i < 100 * v + n then g.1 7 (i - 100 * v) else g.1 5 i
  | 0, j, F + 1, g, hj, hF, h10, h8 => by
    refine ⟨g, ?_, fun _ _ => rfl, rfl, fun i => by rw [if_neg (by omega)]⟩
    have e8 : (c_si g 6 v (nI n)).1 0 8 = nI v := by rw [p_si_ne _ _ _ _ (by omega)]; exact h8
    have e9 : (c_si (c_si (c_si g 6 v (nI n)) 0 8 (nI (v + 1))) 1 81 (nI (v + 1))).1 0 8 - 1 = nI v := by
      rw [p_si_ne _ _ _ _ (by omega), p_si_at]
      exact pk_sub (a := v + 1) (b := 1) (by omega)
    rw [fX12_valley_70, h10, if_pos (nI_le (by omega) (by omega)), h8, p_in hv (by decide), if_pos rfl, nI_clamp (by omega), c_let_d, c_let_d, c_let_d, c_let_d, e8, nI_1, p_si_at, e9]
  | d + 1, j, F + 1, g, hj, hF, h10, h8 => by
    have e : (100 : Int32) * nI v + nI j = nI (100 * v + j) := by
      show nI 100 * nI v + _ = _
      rw [pk_mul, nI_add]
    obtain ⟨g', e1, e2, e3, e4⟩ := m_v70 hn hv d (j + 1) F (c_si g 5 (100 * v + j) (g.1 7 j)) (by omega) (by omega) (by rw [p_si_ne _ _ _ _ (by omega)]; exact h10) (by rw [p_si_ne _ _ _ _ (by omega)]; exact h8)
    refine ⟨g', ?_, fun a ha => (e2 a ha).trans (c_sr_ne ha), e3, fun i => ?_⟩
    · rw [fX12_valley_70, h10, if_neg (nI_ge (by omega) (by omega)), p_in (show j < 100 by omega) (by decide), if_pos rfl, h8, e, p_in (show 100 * v + j < 600 by omega) (by decide), if_pos rfl, nI_clamp (show j < 2 ^ 31 by omega), nI_clamp (show 100 * v + j < 2 ^ 31 by omega), c_let_d, c_let_d, nI_1]
      exact e1
    · rw [e4, p_si_ne _ 5 (100 * v + j) _ (show ¬ (7 = 5 ∧ _) by omega)]
      by_cases q : i = 100 * v + j
      · subst q
        rw [if_neg (by omega), if_pos (by omega), p_si_at, show 100 * v + j - 100 * v = j by omega]
      · rw [p_si_ne _ _ _ _ (by omega)]
        by_cases q3 : 100 * v + (j + 1) ≤ i ∧ i < 100 * v + n
        · rw [if_pos q3, if_pos (by omega)]
        · rw [if_neg q3, if_neg (by omega)]
theorem q_g5 (g0 : c_G) (p w d : Nat) (su le : Int32) : (q_G g0 p w d su le).1 0 5 = g0.1 0 5 := rfl
theorem q_byte : ∀ k, k < 128 → fits .byte (.int (nI k)) = true := by decide +kernel
theorem e_valley {gC gM : c_G} (h : p_R gC gM) : p_Eq (fX11_valley gC) (fX12_valley gM) := by
  obtain ⟨n, hs, h1, h2, hv, him, hx, hac, htp, hks, hkb⟩ := id h
  obtain ⟨hn, v1, v2, v3, v4, v5⟩ := id hv
  obtain ⟨L0, hL0, x1, x2, x3⟩ := id hx
  unfold fX11_valley fX12_valley
  rw [v1, v2]
  by_cases q6 : n = 6
  · subst q6
    rw [if_neg (show ¬ nI 6 < (6 : Int32) by decide), if_pos (show nI 6 = (6 : Int32) from rfl)]
    exact h.same _
  · have hn6 : n < 6 := by omega
    rw [if_pos (show nI n < (6 : Int32) from nI_lt (b := 6) hn6 (by decide)), if_neg (show ¬ nI n = (6 : Int32) from fun z => q6 ((nI_eq (by omega) (by decide)).mp z)), p_in hn6 (by decide), if_pos rfl, nI_clamp (by omega), x1, x2, c_let_d]
    have hw : c_isV (27 + 4 * n) = true := c_vB hn6
    -- the text, as it will lie among the rules
    have T : ∀ j, j < L0 → gC.1 1 j = (if j < L0 then gM.1 4 j else gM.1 5 (100 * n + j)) ∧ p_N (if j < L0 then gM.1 4 j else gM.1 5 (100 * n + j)) 128 := fun j hj => by
      rw [if_pos hj]
      exact x3 j (by omega)
    have hB : c_fb (gC.1 1) 100 = true := c_fbI fun j hj => by
      obtain ⟨b, hb, eb⟩ := (x3 j hj).2
      rw [(x3 j hj).1, eb]
      exact q_byte b hb
    have hP := x_parse (t := fun j => if j < L0 then gM.1 4 j else gM.1 5 (100 * n + j)) hw hL0 hB T
    obtain ⟨g1, e1, e2, e3, e4⟩ := m_v22 hL0 L0 0 c_F (c_si gM 0 10 (nI L0)) (by omega) (show L0 < 5000 by omega) (p_si_at _ _ _ _)
    rw [nI_0] at e1
    rw [e1, c_let_d]
    have r1 : ∀ a, a ≠ 0 → a ≠ 7 → (c_si g1 0 5 0).1 a = gM.1 a := fun a z1 z2 => by
      rw [show (c_si g1 0 5 0).1 a = g1.1 a from c_sr_ne z1, e2 a z2, show (c_si gM 0 10 (nI L0)).1 a = gM.1 a from c_sr_ne z1]
    have r0 : ∀ j, j ≠ 5 → j ≠ 10 → (c_si g1 0 5 0).1 0 j = gM.1 0 j := fun j z1 z2 => by
      rw [p_si_ne _ _ _ _ (by omega), e2 0 (by decide), p_si_ne _ _ _ _ (by omega)]
    have B : q_B (c_si g1 0 5 0) (fun j => if j < L0 then gM.1 4 j else gM.1 5 (100 * n + j)) L0 := by
      refine ⟨hL0, ?_, fun j hj => ?_, hks.eq (r1 9 (by decide) (by decide)) (r1 10 (by decide) (by decide)) (r1 11 (by decide) (by decide)) (r1 15 (by decide) (by decide))⟩
      · rw [p_si_ne _ _ _ _ (by omega), e2 0 (by decide), p_si_at]
      · rw [p_si_ne _ _ _ _ (by omega), e4, if_pos ⟨Nat.zero_le _, hj⟩, show (c_si gM 0 10 (nI L0)).1 4 j = gM.1 4 j from p_si_ne _ _ _ _ (by omega)]
        show _ = if j < L0 then gM.1 4 j else _
        rw [if_pos hj]
    have hA := m_readAll B
    have s2 : (c_si g1 0 5 0).2 = gM.2 := e3
    cases eS : s_text (fun j => if j < L0 then gM.1 4 j else gM.1 5 (100 * n + j)) L0 with
    | error q =>
      rw [eS] at hP hA
      obtain ⟨gC1, c1, c2, c3⟩ := hP
      obtain ⟨hq, w, d, su, le, m1⟩ := hA
      rw [c1, c_b2s, if_pos hw, c_let_d, if_neg (p_mN (by omega)), m1, c_b2s, if_pos rfl, q_g11]
      have fM : ∀ a, a ≠ 0 → a ≠ 7 → (q_G (c_si g1 0 5 0) q w d su le).1 a = gM.1 a := fun a z1 z2 => by rw [q_gr _ _ _ _ _ _ z1, r1 a z1 z2]
      have fM0 : ∀ j, j ≠ 5 → j ≠ 10 → j ≠ 11 → j ≠ 12 → j ≠ 13 → j ≠ 14 → j ≠ 15 → (q_G (c_si g1 0 5 0) q w d su le).1 0 j = gM.1 0 j := fun j z1 z2 z3 z4 z5 z6 z7 => by
        show (if j = 11 then _ else _) = _
        rw [if_neg z3, if_neg z4, if_neg z5, if_neg z6, if_neg z7]
        exact r0 j z1 z2
      have fC : ∀ a, a ≠ 0 → (a < 27 + 4 * n ∨ 27 + 4 * n + 4 ≤ a ∧ a < 124) → (c_si gC1 0 2 0).1 a = gC.1 a := fun a z1 z2 => by
        rw [show (c_si gC1 0 2 0).1 a = gC1.1 a from c_sr_ne z1, c2 a (by omega) (by omega) (by omega) (by omega) (by omega)]
      have fC0 : ∀ j, j ≠ 2 → (c_si gC1 0 2 0).1 0 j = gC.1 0 j := fun j z => by
        rw [p_si_ne _ _ _ _ (by omega), c2 0 (by omega) (by omega) (by omega) (by omega) (by decide)]
      have cs : (c_si gC1 0 2 0).2 = gC.2 := c3
      refine ⟨_, _, _, rfl, rfl, n, ?_, by rw [fM 1 (by decide) (by decide)]; exact h1, by rw [fM 1 (by decide) (by decide)]; exact h2, ⟨hn, by rw [fC0 4 (by decide)]; exact v1, by rw [fM0 8 (by decide) (by decide) (by decide) (by decide) (by decide) (by decide) (by decide)]; exact v2, fun k hk => ?_, by rw [fC 51 (by decide) (by omega)]; exact v4, by rw [fC 51 (by decide) (by omega)]; exact v5⟩, him.eq (fun a z1 z2 => fC a (by omega) (by omega)) (fC0 8 (by decide)) (by rw [cs]) (fM0 3 (by decide) (by decide) (by decide) (by decide) (by decide) (by decide) (by decide)) (fM 3 (by decide) (by decide)), ⟨0, by decide, p_si_at _ _ _ _, ?_, fun j hj => ?_⟩, hac.eq (fC 9 (by decide) (by omega)) (by rw [fC 8 (by decide) (by omega)]) (fM 17 (by decide) (by decide)) (fM0 27 (by decide) (by decide) (by decide) (by decide) (by decide) (by decide) (by decide)), fun u hu => (htp u hu).eq (by rw [fC 10 (by decide) (by omega)]) (by rw [fC 11 (by decide) (by omega)]) (by rw [fM 18 (by decide) (by decide)]) (by rw [fM 19 (by decide) (by decide)]) (by rw [cs]) (fun j hj => ?_), hks.eq (fM 9 (by decide) (by decide)) (fM 10 (by decide) (by decide)) (fM 11 (by decide) (by decide)) (fM 15 (by decide) (by decide)), hkb.eq (fM 16 (by decide) (by decide))⟩
      · rw [fM 1 (by decide) (by decide)]
        exact hs.eq (fun a z1 z2 => fC a (by omega) (by omega)) (by rw [cs])
      · obtain ⟨q, W, L, a1, a2, a3, a4, a5, st, b1, b2, b3, b4⟩ := v3 k hk
        refine ⟨q, W, L, a1, by rw [fM 6 (by decide) (by decide)]; exact a2, by rw [fM 5 (by decide) (by decide)]; exact a3, by rw [fC _ (by omega) (by omega)]; exact a4, a5, st, b1, ?_, ?_, ?_⟩
        · rw [fC _ (by omega) (by omega)]; exact b2
        · rw [fC _ (by omega) (by omega), fC (27 + 4 * k + 2) (by omega) (by omega)]; exact b3
        · rw [fC _ (by omega) (by omega), fC (27 + 4 * k + 2) (by omega) (by omega), fC (27 + 4 * k + 3) (by omega) (by omega)]; exact b4
      · rw [q_g5, p_si_at]
        rfl
      · rw [fC 1 (by decide) (by omega), fM 4 (by decide) (by decide)]
        exact x3 j hj
      · show (c_si g1 0 5 0).2.1 20 _ = _
        rw [s2]
    | ok z =>
      obtain ⟨W, L⟩ := z
      rw [eS] at hP hA
      obtain ⟨gC1, c1, c2, c3, c4, c5, c6⟩ := hP
      obtain ⟨d, m1⟩ := hA
      have fM : ∀ a, a ≠ 0 → a ≠ 7 → (q_G (c_si g1 0 5 0) L0 1 d ((c_si g1 0 5 0).1 8 4 + W ((c_si g1 0 5 0).1 8)) L).1 a = gM.1 a := fun a z1 z2 => by rw [q_gr _ _ _ _ _ _ z1, r1 a z1 z2]
      have fM0 : ∀ j, j ≠ 5 → j ≠ 10 → j ≠ 11 → j ≠ 12 → j ≠ 13 → j ≠ 14 → j ≠ 15 → (q_G (c_si g1 0 5 0) L0 1 d ((c_si g1 0 5 0).1 8 4 + W ((c_si g1 0 5 0).1 8)) L).1 0 j = gM.1 0 j := fun j z1 z2 z3 z4 z5 z6 z7 => by
        show (if j = 11 then _ else _) = _
        rw [if_neg z3, if_neg z4, if_neg z5, if_neg z6, if_neg z7]
        exact r0 j z1 z2
      have fM5 : (q_G (c_si g1 0 5 0) L0 1 d ((c_si g1 0 5 0).1 8 4 + W ((c_si g1 0 5 0).1 8)) L).1 0 5 = 0 := by
        rw [q_g5, p_si_at]
      have fM7 : ∀ j, j < L0 → (q_G (c_si g1 0 5 0) L0 1 d ((c_si g1 0 5 0).1 8 4 + W ((c_si g1 0 5 0).1 8)) L).1 7 j = gM.1 4 j := fun j hj => by
        have := B.2.2.1 j hj
        rw [q_gr _ _ _ _ _ _ (show (7 : Nat) ≠ 0 by decide), this]
        show (if j < L0 then gM.1 4 j else _) = _
        rw [if_pos hj]
      have f10 : (q_G (c_si g1 0 5 0) L0 1 d ((c_si g1 0 5 0).1 8 4 + W ((c_si g1 0 5 0).1 8)) L).1 0 10 = nI L0 := B.2.1
      have sG : (q_G (c_si g1 0 5 0) L0 1 d ((c_si g1 0 5 0).1 8 4 + W ((c_si g1 0 5 0).1 8)) L).2 = gM.2 := s2
      generalize q_G (c_si g1 0 5 0) L0 1 d ((c_si g1 0 5 0).1 8 4 + W ((c_si g1 0 5 0).1 8)) L = G at *
      have f8 : G.1 0 8 = nI n := by rw [fM0 8 (by decide) (by decide) (by decide) (by decide) (by decide) (by decide) (by decide)]; exact v2
      obtain ⟨g2, k1, k2, k3, k4⟩ := m_v70 hL0 hn6 L0 0 c_F G (by omega) (show L0 < 5000 by omega) f10 f8
      rw [nI_0] at k1
      have cs2 : (c_si gC1 0 2 0).1 0 4 = nI n := by rw [p_si_ne _ _ _ _ (by omega), c2 0 (by omega) (by omega) (by omega) (by omega) (by decide)]; exact v1
      have cs4 : (c_so (c_si gC1 0 2 0) 55 (27 + 4 * n)).1 0 4 = nI n := cs2
      have cs3 : (c_si (c_so (c_si gC1 0 2 0) 55 (27 + 4 * n)) 0 4 (nI (n + 1))).1 0 4 - 1 = nI n := by
        rw [p_si_at]
        exact pk_sub (a := n + 1) (b := 1) (by omega)
      rw [c1, c_b2s, if_pos hw, c_let_d, if_pos rfl, cs2, p_in hn6 (by decide), if_pos rfl, nI_clamp (by omega), c_let_d, cs4, c_let_d, nI_1, c_let_d, cs3, m1, c_b2s, if_neg i10, k1]
      generalize hgC2 : c_si (c_so (c_si gC1 0 2 0) 55 (27 + 4 * n)) 0 4 (nI (n + 1)) = gC2
      generalize hgM2 : c_si (c_si (c_si g2 6 n (nI L0)) 0 8 (nI (n + 1))) 1 81 (nI (n + 1)) = gM2
      have fC : ∀ a, a ≠ 0 → (a < 27 + 4 * n ∨ 27 + 4 * n + 4 ≤ a ∧ a < 124) → gC2.1 a = gC.1 a := fun a z1 z2 => by
        rw [← hgC2, show (c_si (c_so (c_si gC1 0 2 0) 55 (27 + 4 * n)) 0 4 (nI (n + 1))).1 a = (c_si gC1 0 2 0).1 a from c_sr_ne z1, show (c_si gC1 0 2 0).1 a = gC1.1 a from c_sr_ne z1, c2 a (by omega) (by omega) (by omega) (by omega) (by omega)]
      have fCw : ∀ a, 27 + 4 * n ≤ a → a < 27 + 4 * n + 4 → gC2.1 a = gC1.1 a := fun a z1 z2 => by
        rw [← hgC2, show (c_si (c_so (c_si gC1 0 2 0) 55 (27 + 4 * n)) 0 4 (nI (n + 1))).1 a = (c_si gC1 0 2 0).1 a from c_sr_ne (by omega), show (c_si gC1 0 2 0).1 a = gC1.1 a from c_sr_ne (by omega)]
      have fC0 : ∀ j, j ≠ 2 → j ≠ 4 → gC2.1 0 j = gC.1 0 j := fun j z z' => by
        rw [← hgC2, p_si_ne _ _ _ _ (by omega)]
        show (c_si gC1 0 2 0).1 0 j = _
        rw [p_si_ne _ _ _ _ (by omega), c2 0 (by omega) (by omega) (by omega) (by omega) (by decide)]
      have fC04 : gC2.1 0 4 = nI (n + 1) := by rw [← hgC2, p_si_at]
      have fC02 : gC2.1 0 2 = nI 0 := by
        rw [← hgC2, p_si_ne _ _ _ _ (by omega)]
        show (c_si gC1 0 2 0).1 0 2 = _
        rw [p_si_at]
        rfl
      have fC21 : gC2.2.1 = gC.2.1 := by rw [← hgC2]; show gC1.2.1 = _; rw [c3]
      have fC22 : ∀ a, a ≠ 55 → gC2.2.2 a = gC.2.2 a := fun a z => by
        rw [← hgC2]
        show (c_so (c_si gC1 0 2 0) 55 (27 + 4 * n)).2.2 a = _
        rw [c_so_ne z]
        show gC1.2.2 a = _
        rw [c3]
      have fC55 : gC2.2.2 55 = 27 + 4 * n := by
        rw [← hgC2]
        show (if 55 = 55 then 27 + 4 * n else gC1.2.2 55) = 27 + 4 * n
        rw [if_pos rfl]
      have gMr : ∀ a, a ≠ 0 → a ≠ 7 → a ≠ 5 → a ≠ 6 → a ≠ 1 → gM2.1 a = gM.1 a := fun a z1 z2 z3 z4 z5 => by
        rw [← hgM2, show (c_si (c_si (c_si g2 6 n (nI L0)) 0 8 (nI (n + 1))) 1 81 (nI (n + 1))).1 a = (c_si (c_si g2 6 n (nI L0)) 0 8 (nI (n + 1))).1 a from c_sr_ne z5, show (c_si (c_si g2 6 n (nI L0)) 0 8 (nI (n + 1))).1 a = (c_si g2 6 n (nI L0)).1 a from c_sr_ne z1, show (c_si g2 6 n (nI L0)).1 a = g2.1 a from c_sr_ne z4, k2 a z3, fM a z1 z2]
      have gM0 : ∀ j, j ≠ 8 → j ≠ 5 → j ≠ 10 → j ≠ 11 → j ≠ 12 → j ≠ 13 → j ≠ 14 → j ≠ 15 → gM2.1 0 j = gM.1 0 j := fun j z0 z1 z2 z3 z4 z5 z6 z7 => by
        rw [← hgM2, p_si_ne _ _ _ _ (by omega), p_si_ne _ _ _ _ (by omega), p_si_ne _ _ _ _ (by omega), k2 0 (by decide), fM0 j z1 z2 z3 z4 z5 z6 z7]
      have gM08 : gM2.1 0 8 = nI (n + 1) := by rw [← hgM2, p_si_ne _ _ _ _ (by omega), p_si_at]
      have gM05 : gM2.1 0 5 = nI 0 := by rw [← hgM2, p_si_ne _ _ _ _ (by omega), p_si_ne _ _ _ _ (by omega), p_si_ne _ _ _ _ (by omega), k2 0 (by decide), fM5]; rfl
      have gM1 : gM2.1 1 = upd (gM.1 1) 81 (nI (n + 1)) := by
        rw [← hgM2, e_up, show (c_si (c_si g2 6 n (nI L0)) 0 8 (nI (n + 1))).1 1 = g2.1 1 from (c_sr_ne (by decide)).trans (c_sr_ne (by decide)), k2 1 (by decide), fM 1 (by decide) (by decide)]
      have gM6 : ∀ k, gM2.1 6 k = if k = n then nI L0 else gM.1 6 k := fun k => by
        rw [← hgM2, p_si_ne _ _ _ _ (by omega), p_si_ne _ _ _ _ (by omega)]
        by_cases e : k = n
        · subst e
          rw [p_si_at, if_pos rfl]
        · rw [p_si_ne _ _ _ _ (by omega), if_neg e, k2 6 (by decide), fM 6 (by decide) (by decide)]
      have gM5 : ∀ i, gM2.1 5 i = if 100 * n ≤ i ∧ i < 100 * n + L0 then gM.1 4 (i - 100 * n) else gM.1 5 i := fun i => by
        rw [← hgM2, p_si_ne _ _ _ _ (by omega), p_si_ne _ _ _ _ (by omega), p_si_ne _ _ _ _ (by omega), k4]
        by_cases e : 100 * n ≤ i ∧ i < 100 * n + L0
        · rw [if_pos (by omega), if_pos e, fM7 _ (by omega)]
        · rw [if_neg (by omega), if_neg e, fM 5 (by decide) (by decide)]
      have sM : gM2.2 = gM.2 := by rw [← hgM2]; show g2.2 = _; rw [k3, sG]
      have hInv : p_Inv (upd (gM.1 1) 81 (nI (n + 1))) := hs.2.2.1.put (K := 81) (by exact ⟨n + 1, by omega, rfl⟩) (Or.inl (by decide))
      refine ⟨gC2, gM2, _, rfl, rfl, n + 1, ⟨fun k => ?_, fun k hk hu => ?_, by rw [gM1]; exact hInv, by rw [fC55]; exact hw⟩, ?_, ⟨n + 1, Nat.le_refl _, by rw [gM1, pk_us]⟩, ⟨by omega, fC04, gM08, fun k hk => ?_, by rw [fC 51 (by decide) (by omega)]; exact v4, by rw [fC 51 (by decide) (by omega)]; exact v5⟩, ?_, ⟨0, by decide, fC02, gM05, fun j hj => ?_⟩, hac.eq (fC 9 (by decide) (by omega)) (by rw [fC 8 (by decide) (by omega)]) (gMr 17 (by decide) (by decide) (by decide) (by decide) (by decide)) (gM0 27 (by decide) (by decide) (by decide) (by decide) (by decide) (by decide) (by decide) (by decide)), fun u hu => (htp u hu).eq (by rw [fC 10 (by decide) (by omega)]) (by rw [fC 11 (by decide) (by omega)]) (by rw [gMr 18 (by decide) (by decide) (by decide) (by decide) (by decide)]) (by rw [gMr 19 (by decide) (by decide) (by decide) (by decide) (by decide)]) (by rw [fC21]) (fun j hj => by rw [sM]), hks.eq (gMr 9 (by decide) (by decide) (by decide) (by decide) (by decide)) (gMr 10 (by decide) (by decide) (by decide) (by decide) (by decide)) (gMr 11 (by decide) (by decide) (by decide) (by decide) (by decide)) (gMr 15 (by decide) (by decide) (by decide) (by decide) (by decide)), hkb.eq (gMr 16 (by decide) (by decide) (by decide) (by decide) (by decide))⟩
      · rw [gM1]
        by_cases e : k = 81
        · subst e
          rw [pk_us, p_al_rule, fC55]
          unfold p_rule
          rw [if_neg (by omega), show (27 + 4 * n - 27) / 4 = n by omega]
        · rw [pk_un e, hs.1]
          unfold p_al
          rw [if_neg e, if_neg e]
          by_cases hk : k < 136
          · have := p_of_lt k hk
            rw [if_pos hk, if_pos hk, fC _ (by omega) (by omega)]
          · rw [if_neg hk, if_neg hk]
      · have := p_of_lt k hk
        rw [fC _ (by omega) (by omega)]
        exact hs.2.1 k hk hu
      · rw [gM1]
        exact h1.upd (by decide) (by omega)
      · by_cases e : k = n
        · subst e
          refine ⟨L0, W, L, hL0, by rw [gM6, if_pos rfl], ?_, by rw [fCw _ (by omega) (by omega)]; exact c5, c6, c4.eq (fCw _ (by omega) (by omega)) (fCw _ (by omega) (by omega)) (fCw _ (by omega) (by omega)) (fCw _ (by omega) (by omega))⟩
          rw [← eS]
          refine s_text_cg fun j hj => ?_
          show gM2.1 5 (100 * k + j) = if j < L0 then gM.1 4 j else _
          rw [gM5, if_pos (by omega), if_pos hj, show 100 * k + j - 100 * k = j by omega]
        · obtain ⟨q, W', L', a1, a2, a3, a4, a5, a6⟩ := v3 k (by omega)
          refine ⟨q, W', L', a1, by rw [gM6, if_neg e]; exact a2, ?_, by rw [fC _ (by omega) (by omega)]; exact a4, a5, a6.eq (fC _ (by omega) (by omega)) (fC _ (by omega) (by omega)) (fC _ (by omega) (by omega)) (fC _ (by omega) (by omega))⟩
          rw [← a3]
          refine s_text_cg fun j hj => ?_
          rw [gM5, if_neg (by omega)]
      · rcases him with ⟨i1, i2⟩ | ⟨i1, i2, m, i6, i3, i4, u, u1, u2⟩
        · exact Or.inl ⟨by rw [fC0 8 (by decide) (by decide)]; exact i1, by rw [gM0 3 (by decide) (by decide) (by decide) (by decide) (by decide) (by decide) (by decide) (by decide)]; exact i2⟩
        · refine Or.inr ⟨by rw [fC0 8 (by decide) (by decide)]; exact i1, by rw [gM0 3 (by decide) (by decide) (by decide) (by decide) (by decide) (by decide) (by decide) (by decide)]; exact i2, m, by rw [gMr 3 (by decide) (by decide) (by decide) (by decide) (by decide)]; exact i6, i3.eq (fun a z1 z2 => fC a (by omega) (by omega)) (fC22 78 (by decide)), i4, u, by omega, u2⟩
      · rw [fC 1 (by decide) (by omega), gMr 4 (by decide) (by decide) (by decide) (by decide) (by decide)]
        exact x3 j hj
