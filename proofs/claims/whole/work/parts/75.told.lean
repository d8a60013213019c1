/-! PURE: told -/
theorem c_findRound {g : c_G} {m : Nat → Int32} {W : (Nat → Int32) → Int32} {L : Int32} (hs : p_St g 55 m) (hW : q_C g 55 W L) {n : Nat} (hn : n < 7) (hm : m 78 = nI n) :
    ∃ g' b row, fX11_findRound g = some g' ∧ r_T (r_val m W n) n 0 0 (fun _ => 0) (none, fun _ => 0) = (some b, row) ∧ g'.1 0 14 = nI b ∧ (∀ j, j < n → g'.1 7 j = nI (row j)) ∧ (∀ a j, ¬ (a = 3 ∨ a = 4 ∨ a = 5 ∨ a = 6 ∨ a = 7 ∨ (a = 0 ∧ j = 14)) → g'.1 a j = g.1 a j) ∧ g'.2 = g.2 := by
  have inner : ∀ (d e F : Nat) (kk : Int32 → c_G → Option c_G) (c : Nat) (g1 : c_G), c < 6 → e + d = 6 → d < F → p_St g1 55 m → q_C g1 55 W L → (∀ y x w, (y < c ∨ (y = c ∧ x < e)) → x < 6 → w < 12 → g1.1 5 ((y * 6 + x) * 12 + w) = q_fit m W y (m (24 + 9 * y + 1)) x w) → (∀ a j, ¬ (a = 3 ∨ a = 4 ∨ a = 5 ∨ a = 6 ∨ a = 7 ∨ (a = 0 ∧ j = 14)) → g1.1 a j = g.1 a j) → g1.2 = g.2 →
      ∃ g', fX11_findRound_15 kk F (nI c) (nI e) g1 = kk (nI c) g' ∧ p_St g' 55 m ∧ q_C g' 55 W L ∧ (∀ y x w, y < c + 1 → x < 6 → w < 12 → g'.1 5 ((y * 6 + x) * 12 + w) = q_fit m W y (m (24 + 9 * y + 1)) x w) ∧ (∀ a j, ¬ (a = 3 ∨ a = 4 ∨ a = 5 ∨ a = 6 ∨ a = 7 ∨ (a = 0 ∧ j = 14)) → g'.1 a j = g.1 a j) ∧ g'.2 = g.2 := by
    intro d
    induction d with
    | zero =>
      intro e F kk c g1 hc he hF hs1 hW1 h5 hf1 hf2
      obtain ⟨F, rfl⟩ : ∃ x, F = x + 1 := ⟨F - 1, by omega⟩
      refine ⟨g1, ?_, hs1, hW1, fun y x w z1 z2 z3 => h5 y x w (by omega) z2 z3, hf1, hf2⟩
      rw [fX11_findRound_15, if_pos (show (6 : Int32) ≤ nI e from nI_le (a := 6) (by omega) (by omega))]
    | succ d ih =>
      intro e F kk c g1 hc he hF hs1 hW1 h5 hf1 hf2
      obtain ⟨F, rfl⟩ : ∃ x, F = x + 1 := ⟨F - 1, by omega⟩
      have he6 : e < 6 := by omega
      have r6 : g1.1 61 c = m (24 + 9 * c + 1) := by rw [hs1.1, p_al_v _ _ hc]
      obtain ⟨g2, e1, e2, e3, e4⟩ := c_weigh hs1 rfl hW1 hc he6 (m (24 + 9 * c + 1))
      have ev : ((nI c * (6 : Int32)) + nI e) * (12 : Int32) = nI ((c * 6 + e) * 12) := by
        show (nI c * nI 6 + nI e) * nI 12 = _
        rw [pk_mul, nI_add, pk_mul]
      have hcp : c_cp 0 (nI ((c * 6 + e) * 12)) 12 12 432 = true := by
        simp only [c_cp, Bool.and_eq_true, decide_eq_true_eq, nI_clamp (show (c * 6 + e) * 12 < 2 ^ 31 by omega)]
        refine ⟨⟨⟨⟨by decide, nI_pos (by omega)⟩, by decide⟩, by decide⟩, ?_⟩
        show (c * 6 + e) * 12 + 12 ≤ 432
        omega
      have z0 : (0 : Int32).toNatClampNeg = 0 := rfl
      have z12 : (12 : Int32).toNatClampNeg = 12 := rfl
      generalize hg3 : c_sr g2 5 (va_cpy (g2.1 4) (g2.1 5) 0 ((c * 6 + e) * 12) 12) = g3
      have n3 : ∀ a, a ≠ 5 → g3.1 a = g2.1 a := fun a z => by rw [← hg3]; exact c_sr_ne z
      have s3 : g3.2 = g1.2 := by rw [← hg3]; exact e3
      have hs3 : p_St g3 55 m := hs1.eq (fun a z1 z2 => by rw [n3 a (by omega), e2 a (by omega) (by omega)]) (by rw [s3])
      have hW3 : q_C g3 55 W L := hW1.eq hs1.2.2.2 (fun a z1 z2 => by rw [n3 a (by omega), e2 a (by omega) (by omega)]) (by rw [s3])
      have h53 : ∀ y x w, (y < c ∨ (y = c ∧ x < e + 1)) → x < 6 → w < 12 → g3.1 5 ((y * 6 + x) * 12 + w) = q_fit m W y (m (24 + 9 * y + 1)) x w := fun y x w z1 z2 z3 => by
        rw [← hg3, p_sr, if_pos rfl]
        by_cases q : y = c ∧ x = e
        · obtain ⟨rfl, rfl⟩ := q
          rw [pk_cpy_in (by omega) (by omega), show 0 + ((y * 6 + x) * 12 + w - (y * 6 + x) * 12) = w by omega, e4 w z3]
        · rw [pk_cpy_out (by omega), e2 5 (by decide) (by decide)]
          exact h5 y x w (by omega) z2 z3
      obtain ⟨g4, k1, k2, k3, k4, k5, k6⟩ := ih (e + 1) F kk c g3 hc (by omega) (by omega) hs3 hW3 h53 (fun a j z => by rw [n3 a (by omega), e2 a (by omega) (by omega)]; exact hf1 a j z) (s3.trans hf2)
      refine ⟨g4, ?_, k2, k3, k4, k5, k6⟩
      rw [fX11_findRound_15, if_neg (show ¬ (6 : Int32) ≤ nI e from nI_ge (b := 6) he6 (by decide)), p_in hc (by decide), if_pos rfl, nI_clamp (show c < 2 ^ 31 by omega), r6, e1, Option.bind_some, ev, hcp, if_pos rfl, c_let_d, c_let_d, nI_1, nI_clamp (show (c * 6 + e) * 12 < 2 ^ 31 by omega), z0, z12, hg3]
      exact k1
  have outer : ∀ (d c F : Nat) (g1 : c_G), c + d = n → d < F → p_St g1 55 m → q_C g1 55 W L → (∀ y x w, y < c → x < 6 → w < 12 → g1.1 5 ((y * 6 + x) * 12 + w) = q_fit m W y (m (24 + 9 * y + 1)) x w) → (∀ a j, ¬ (a = 3 ∨ a = 4 ∨ a = 5 ∨ a = 6 ∨ a = 7 ∨ (a = 0 ∧ j = 14)) → g1.1 a j = g.1 a j) → g1.2 = g.2 →
      ∃ g' b row, fX11_findRound_2 F (nI c) g1 = some g' ∧ r_T (r_val m W n) n 0 0 (fun _ => 0) (none, fun _ => 0) = (some b, row) ∧ g'.1 0 14 = nI b ∧ (∀ j, j < n → g'.1 7 j = nI (row j)) ∧ (∀ a j, ¬ (a = 3 ∨ a = 4 ∨ a = 5 ∨ a = 6 ∨ a = 7 ∨ (a = 0 ∧ j = 14)) → g'.1 a j = g.1 a j) ∧ g'.2 = g.2 := by
    intro d
    induction d with
    | zero =>
      intro c F g1 hc hF hs1 hW1 h5 hf1 hf2
      obtain ⟨F, rfl⟩ : ∃ x, F = x + 1 := ⟨F - 1, by omega⟩
      obtain rfl : c = n := by omega
      have e6 : g1.1 55 6 = nI c := (hs1.1 78).symm.trans hm
      generalize hg2 : c_si g1 0 14 (-5) = g2
      have n2 : ∀ a j, ¬ (a = 0 ∧ j = 14) → g2.1 a j = g1.1 a j := fun a j z => by rw [← hg2, p_si_ne _ _ _ _ z]
      have s2 : g2.2 = g1.2 := by rw [← hg2]; rfl
      have hs2 : p_St g2 55 m := hs1.eq (fun a z1 z2 => funext fun j => n2 a j (by omega)) (by rw [s2])
      have hC : r_C m (fun c e w => q_fit m W c (m (24 + 9 * c + 1)) e w) c 0 (fun _ => 0) (none, fun _ => 0) g2 := by
        refine ⟨hs2, fun y x w z1 z2 z3 => ?_, by rw [← hg2, p_si_at]; rfl, fun z => absurd rfl z, fun j hj => by omega⟩
        rw [n2 _ _ (by omega)]
        exact h5 y x w z1 z2 z3
      obtain ⟨g3, k1, k2, k3, k4⟩ := c_deal (f := fun c e w => q_fit m W c (m (24 + 9 * c + 1)) e w) hn hm (x0 := (q_used m, q_named m)) (q_named_le m) c 0 0 40 (fun _ => 0) (none, fun _ => 0) g2 (by omega) (by omega) (by decide) (fun b hb => by cases hb) hC
      obtain ⟨b, hb⟩ := r_T_some (val := r_val m W c) c 0 0 (fun _ => 0) (none, fun _ => 0) (q_cnt_0 6 0 fun y _ _ => Nat.zero_testBit y) (by omega)
      have hT : r_T (fun row => (r_stt (q_mute m) (fun c e w => q_fit m W c (m (24 + 9 * c + 1)) e w) (fun c => m (24 + 9 * c + 2)) (q_used m, q_named m) row c).2) c 0 0 (fun _ => 0) (none, fun _ => 0) = r_T (r_val m W c) c 0 0 (fun _ => 0) (none, fun _ => 0) := rfl
      rw [hT] at k2
      refine ⟨g3, b, (r_T (r_val m W c) c 0 0 (fun _ => 0) (none, fun _ => 0)).2, ?_, Prod.ext hb rfl, ?_, fun j hj => k2.2.2.2.1 (by rw [hb]; exact fun z => by cases z) j hj, fun a j z => ?_, by rw [k3.2, s2, hf2]⟩
      · rw [fX11_findRound_2, e6, if_pos (nI_le (Nat.le_refl _) (by omega)), c_let_d, hg2, c_used hs2 rfl, Option.bind_some, c_named hs2 rfl, Option.bind_some]
        have k1' : fG2 40 0 g2 (nI 0) (nI 0) (q_used m) (nI (q_named m)) 0 = some g3 := k1
        rw [nI_0] at k1'
        rw [k1', Option.bind_some]
      · rw [k2.2.2.1, hb]
        rfl
      · rw [k3.1 a j (by omega), n2 a j (by omega), hf1 a j z]
    | succ d ih =>
      intro c F g1 hc hF hs1 hW1 h5 hf1 hf2
      obtain ⟨F, rfl⟩ : ∃ x, F = x + 1 := ⟨F - 1, by omega⟩
      have e6 : g1.1 55 6 = nI n := (hs1.1 78).symm.trans hm
      obtain ⟨g2, k1, k2, k3, k4, k5, k6⟩ := inner 6 0 c_F (fX11_findRound_69 (fX11_findRound_2 F)) c g1 (by omega) rfl (by decide) hs1 hW1 (fun y x w z1 z2 z3 => h5 y x w (by omega) z2 z3) hf1 hf2
      obtain ⟨g3, b, row, j1, j2⟩ := ih (c + 1) F g2 (by omega) (by omega) k2 k3 k4 k5 k6
      refine ⟨g3, b, row, ?_, j2⟩
      rw [nI_0] at k1
      rw [fX11_findRound_2, e6, if_neg (nI_ge (by omega) (by omega)), k1]
      unfold fX11_findRound_69
      rw [c_let_d, nI_1]
      exact j1
  have := outer n 0 c_F g (by omega) (show n < 5000 by omega) hs hW (fun y x w z => by omega) (fun _ _ _ => rfl) rfl
  rw [nI_0] at this
  exact this
theorem m_round {gC gM : c_G} {n : Nat} (hs : p_St gC 55 (gM.1 1)) (h1 : p_Age (gM.1 1)) {W : (Nat → Int32) → Int32} {L : Int32} (hL : p_N L 100) (hM : q_M gM W L) (hn : n < 7) (hm : gM.1 1 78 = nI n) {b : Nat} {row : Nat → Nat} (hT : r_T (r_val (gM.1 1) W n) n 0 0 (fun _ => 0) (none, fun _ => 0) = (some b, row)) :
    ∃ g', fX12_round gM = some (g', nI b) ∧ (∀ j, j < n → g'.1 14 j = nI (row j)) ∧ g'.1 1 = gM.1 1 ∧ p_fM gM g' := by
  have n0 : ∀ a j, ¬ (a = 0 ∧ j = 23) → (c_si gM 0 23 (-1)).1 a j = gM.1 a j := fun a j z => p_si_ne _ _ _ _ z
  have nr : ∀ a, a ≠ 0 → (c_si gM 0 23 (-1)).1 a = gM.1 a := fun a z => c_sr_ne z
  have hM2 : r_M (gM.1 1) W L n 0 (fun _ => 0) (none, fun _ => 0) (c_si gM 0 23 (-1)) := ⟨nr 1 (by decide), hM.eq (by rw [nr 1 (by decide)]) (nr 5 (by decide)) (nr 6 (by decide)) (nr 9 (by decide)) (nr 10 (by decide)) (nr 11 (by decide)) (nr 15 (by decide)), p_si_at _ _ _ _, fun z => absurd rfl z, fun j hj => by omega⟩
  obtain ⟨g3, k1, k2, k3, k4, k5⟩ := m_give hs.2.2.1 h1 (fun j hj => hs.hi hj) hL hn hm n 0 0 40 (fun _ => 0) (none, fun _ => 0) (c_si gM 0 23 (-1)) (by omega) (by omega) (by decide) (fun b hb => by cases hb) hM2 (fun j hj => by omega) (fun i j _ hj => by omega)
  rw [hT] at k2
  refine ⟨g3, ?_, fun j hj => k2.2.2.2.1 (fun z => by cases z) j hj, k2.1, ?_⟩
  · unfold fX12_round
    rw [nI_0] at k1
    rw [c_let_d, k1, Option.bind_some, k2.2.2.1]
    rfl
  · have f0 : p_fM gM (c_si gM 0 23 (-1)) := p_fM.of (fun a j z => n0 a j (by omega)) rfl
    exact f0.tr k3
theorem e_told {gC gM : c_G} (h : p_R gC gM) (a : Int32) : p_Eq (fX11_told gC a) (fX12_told gM a) := by
  obtain ⟨n, hs, h1, h2, h3⟩ := id h
  obtain ⟨c, hc, e1, e2⟩ := hs.many
  obtain ⟨W, L, hL, hW, hM⟩ := hs.ctx h2 h3
  unfold fX11_told fX12_told
  by_cases q0 : a = 0
  · rw [if_pos q0, if_pos q0]
    exact ⟨gC, gM, _, rfl, by rw [show gC.1 55 5 = gM.1 1 80 from (hs.1 80).symm], h⟩
  rw [if_neg q0, if_neg q0]
  by_cases q1 : a = 1
  · obtain ⟨g2, k1, k2⟩ := m_learnNow hM
    rw [if_pos q1, if_pos q1, if_pos hs.2.2.2, hW.2.1, k1, c_b2s]
    exact ⟨gC, g2, L, rfl, rfl, h.said (fun _ _ _ => rfl) rfl k2.q⟩
  rw [if_neg q1, if_neg q1]
  by_cases q2 : a = 2
  · rw [if_pos q2, if_pos q2]
    exact ⟨gC, gM, _, rfl, by rw [show gC.1 55 4 = gM.1 1 79 from (hs.1 79).symm], h⟩
  rw [if_neg q2, if_neg q2]
  by_cases q3 : a = 3
  · rw [if_pos q3, if_pos q3, c_used hs rfl, m_used, Option.bind_some, Option.bind_some]
    exact ⟨gC, gM, _, rfl, rfl, h⟩
  rw [if_neg q3, if_neg q3]
  by_cases q4 : a = 4
  · rw [if_pos q4, if_pos q4, c_named hs rfl, m_howMany, Option.bind_some, Option.bind_some]
    exact ⟨gC, gM, _, rfl, rfl, h⟩
  rw [if_neg q4, if_neg q4]
  obtain ⟨g1, b, row, f1, f2, f3, f4, f5, f6⟩ := c_findRound hs hW hc e2
  obtain ⟨g2, k1, k2, k3, k4⟩ := m_round hs h1 hL hM hc e2 f2
  have hR : p_R g1 g2 := by
    refine h.scr ⟨fun x j q => f5 x j ?_, by rw [f6], by rw [f6]⟩ k4 (fun x z1 z2 => funext fun j => f5 x j (by omega)) (by rw [f6]) k3
    simp only [p_scC, Bool.or_eq_false_iff, Bool.and_eq_false_iff, beq_eq_false_iff_ne, decide_eq_false_iff_not] at q
    omega
  by_cases q5 : a = 5
  · rw [if_pos q5, if_pos q5, f1, k1, Option.bind_some, c_b2s, f3]
    exact ⟨g1, g2, _, rfl, rfl, hR⟩
  rw [if_neg q5, if_neg q5]
  rcases e_child hc e1 e2 (a - 10) with ⟨z1, z2, -⟩ | ⟨z1, z2, i, hi, z3⟩
  · rw [z1, z2]
    exact h.same _
  · rw [z1, z2, Option.bind_some, Option.bind_some, if_neg i10, if_neg i10, f1, k1, Option.bind_some, c_b2s, z3, p_in (show i < 6 by omega) (by decide), if_pos rfl, if_pos rfl, nI_clamp (by omega), f4 i hi, k2 i hi]
    exact ⟨g1, g2, _, rfl, rfl, hR⟩
