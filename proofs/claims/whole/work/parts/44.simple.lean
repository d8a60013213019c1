/-! PURE: the plain calls -/
theorem e_isIn (x : Int32) {n : Nat} (hn : n < 100000) : (fX12_isIn x 0 (nI n - 1) = 0 ∧ ¬ p_N x n) ∨ (fX12_isIn x 0 (nI n - 1) = 1 ∧ p_N x n) := by
  have e1 : (nI n - 1).toInt = (n : Int) - 1 := pk_sub_toInt (a := n) (b := 1) (by omega) (by omega)
  unfold fX12_isIn
  rcases p_ix x (n := n) (by omega) with h | h | ⟨k, hk, rfl⟩
  · exact Or.inl ⟨by rw [if_pos h], fun ⟨k, hk, e⟩ => p_neg h k (by omega) e⟩
  · refine Or.inl ⟨?_, fun ⟨k, hk, e⟩ => ?_⟩
    · rw [if_neg (p_ge h (by omega)), if_pos]
      have h1 := Int32.le_iff_toInt_le.mp h
      rw [nI_toInt (by omega)] at h1
      exact Int32.lt_iff_toInt_lt.mpr (by omega)
    · subst e
      exact nI_ge hk (by omega) h
  · refine Or.inr ⟨?_, k, hk, rfl⟩
    rw [if_neg (nI_pos (by omega)), if_neg]
    intro q
    have h1 := Int32.lt_iff_toInt_lt.mp q
    rw [nI_toInt (by omega)] at h1
    omega
theorem e_isInK (x : Int32) {n : Nat} (hn : n < 100000) (hi : Int32) (e : hi = nI n - 1) : (fX12_isIn x 0 hi = 0 ∧ ¬ p_N x n) ∨ (fX12_isIn x 0 hi = 1 ∧ p_N x n) := by
  subst e
  exact e_isIn x hn
theorem e_lo {x : Int32} {n : Nat} (hn : n < 100000) (h : ¬ p_N x n) : x < 0 ∨ nI n ≤ x := by
  rcases p_ix x (n := n) (by omega) with q | q | q
  · exact Or.inl q
  · exact Or.inr q
  · exact absurd q h
theorem e_elder (x : Int32) : (fX11_isElder x = 0 ∧ fX12_isElder x = 0 ∧ ¬ p_N x 6) ∨ (fX11_isElder x = 1 ∧ fX12_isElder x = 1 ∧ p_N x 6) := by
  rcases e_isInK x (n := 6) (by decide) 5 rfl with ⟨h, q⟩ | ⟨h, q⟩
  · refine Or.inl ⟨?_, h, q⟩
    unfold fX11_isElder
    rcases e_lo (by decide) q with q | q
    · rw [if_pos q]
    · rw [if_neg (p_ge q (by decide))]
      exact if_pos q
  · refine Or.inr ⟨?_, h, q⟩
    obtain ⟨k, hk, rfl⟩ := q
    unfold fX11_isElder
    rw [if_neg (nI_pos (by omega))]
    exact if_neg (nI_ge hk (by decide))
theorem e_word (x : Int32) : (fX11_isWord x = 0 ∧ fX12_isWord x = 0 ∧ ¬ p_N x 12) ∨ (fX11_isWord x = 1 ∧ fX12_isWord x = 1 ∧ p_N x 12) := by
  rcases e_isInK x (n := 12) (by decide) 11 rfl with ⟨h, q⟩ | ⟨h, q⟩
  · refine Or.inl ⟨?_, h, q⟩
    unfold fX11_isWord
    rcases e_lo (by decide) q with q | q
    · rw [if_pos q]
    · rw [if_neg (p_ge q (by decide))]
      exact if_pos q
  · refine Or.inr ⟨?_, h, q⟩
    obtain ⟨k, hk, rfl⟩ := q
    unfold fX11_isWord
    rw [if_neg (nI_pos (by omega))]
    exact if_neg (nI_ge hk (by decide))
theorem e_tape (x : Int32) : (fX11_isTape x = 0 ∧ fX12_isTape x = 0 ∧ ¬ p_N x 6) ∨ (fX11_isTape x = 1 ∧ fX12_isTape x = 1 ∧ p_N x 6) := by
  rcases e_isInK x (n := 6) (by decide) 5 rfl with ⟨h, q⟩ | ⟨h, q⟩
  · refine Or.inl ⟨?_, h, q⟩
    unfold fX11_isTape
    rcases e_lo (by decide) q with q | q
    · rw [if_pos q]
    · rw [if_neg (p_ge q (by decide))]
      exact if_pos q
  · refine Or.inr ⟨?_, h, q⟩
    obtain ⟨k, hk, rfl⟩ := q
    unfold fX11_isTape
    rw [if_neg (nI_pos (by omega))]
    exact if_neg (nI_ge hk (by decide))
theorem e_gt {x : Int32} {n : Nat} (hn : n < 100000) (h : nI (n + 1) ≤ x) : nI n < x := by
  have h1 := Int32.le_iff_toInt_le.mp h
  rw [nI_toInt (by omega)] at h1
  exact Int32.lt_iff_toInt_lt.mpr (by rw [nI_toInt (by omega)]; omega)
theorem e_set (x : Int32) : (fX11_areWords x = 0 ∧ fX12_isSet x = 0 ∧ ¬ p_N x 4096) ∨ (fX11_areWords x = 1 ∧ fX12_isSet x = 1 ∧ p_N x 4096) := by
  rcases e_isInK x (n := 4096) (by decide) 4095 rfl with ⟨h, q⟩ | ⟨h, q⟩
  · refine Or.inl ⟨?_, h, q⟩
    unfold fX11_areWords
    rcases e_lo (by decide) q with q | q
    · rw [if_pos q]
    · rw [if_neg (p_ge q (by decide))]
      exact if_pos (e_gt (n := 4095) (by decide) q)
  · refine Or.inr ⟨?_, h, q⟩
    obtain ⟨k, hk, rfl⟩ := q
    unfold fX11_areWords
    rw [if_neg (nI_pos (by omega))]
    exact if_neg (nI_nlt (a := 4095) (b := k) (by omega) (by decide))
theorem e_digit (x : Int32) : (fX11_isDigit x = 0 ∧ fX12_isIn x 0 9 = 0 ∧ ¬ p_N x 10) ∨ (fX11_isDigit x = 1 ∧ fX12_isIn x 0 9 = 1 ∧ p_N x 10) := by
  rcases e_isInK x (n := 10) (by decide) 9 rfl with ⟨h, q⟩ | ⟨h, q⟩
  · refine Or.inl ⟨?_, h, q⟩
    unfold fX11_isDigit
    rcases e_lo (by decide) q with q | q
    · rw [if_pos q]
    · rw [if_neg (p_ge q (by decide))]
      exact if_pos (e_gt (n := 9) (by decide) q)
  · refine Or.inr ⟨?_, h, q⟩
    obtain ⟨k, hk, rfl⟩ := q
    unfold fX11_isDigit
    rw [if_neg (nI_pos (by omega))]
    exact if_neg (nI_nlt (a := 9) (b := k) (by omega) (by decide))
theorem e_sundays (x : Int32) : (fX11_areSundays x = 0 ∧ fX12_isIn x 0 60 = 0 ∧ ¬ p_N x 61) ∨ (fX11_areSundays x = 1 ∧ fX12_isIn x 0 60 = 1 ∧ p_N x 61) := by
  rcases e_isInK x (n := 61) (by decide) 60 rfl with ⟨h, q⟩ | ⟨h, q⟩
  · refine Or.inl ⟨?_, h, q⟩
    unfold fX11_areSundays
    rcases e_lo (by decide) q with q | q
    · rw [if_pos q]
    · rw [if_neg (p_ge q (by decide))]
      exact if_pos (e_gt (n := 60) (by decide) q)
  · refine Or.inr ⟨?_, h, q⟩
    obtain ⟨k, hk, rfl⟩ := q
    unfold fX11_areSundays
    rw [if_neg (nI_pos (by omega))]
    exact if_neg (nI_nlt (a := 60) (b := k) (by omega) (by decide))
theorem p_St.many {g : c_G} {s : Nat} {m : Nat → Int32} (h : p_St g s m) : ∃ n, n < 7 ∧ g.1 s 6 = nI n ∧ m 78 = nI n := by
  obtain ⟨n, hn, e⟩ : p_N (m 78) 7 := h.2.2.1.1 78 (by decide)
  exact ⟨n, hn, by rw [← e]; exact (h.1 78).symm, e⟩
theorem e_child {gC gM : c_G} {n : Nat} (hn : n < 7) (h1 : gC.1 55 6 = nI n) (h2 : gM.1 1 78 = nI n) (x : Int32) : (fX11_isChild gC x = some 0 ∧ fX12_isChild gM x = some 0 ∧ ¬ p_N x n) ∨ (fX11_isChild gC x = some 1 ∧ fX12_isChild gM x = some 1 ∧ p_N x n) := by
  unfold fX11_isChild fX12_isChild
  rw [h1, h2]
  rcases e_isIn x (n := n) (by omega) with ⟨h, q⟩ | ⟨h, q⟩
  · refine Or.inl ⟨?_, by rw [h]; rfl, q⟩
    rcases e_lo (by omega) q with q | q
    · rw [if_pos q]
    · rw [if_neg (p_ge q (by omega)), if_pos q]
  · refine Or.inr ⟨?_, by rw [h]; rfl, q⟩
    obtain ⟨k, hk, rfl⟩ := q
    rw [if_neg (nI_pos (by omega)), if_neg (nI_ge hk (by omega))]
theorem e_at {c f : Nat} (F : Int32) (hF : F = nI f) : (24 : Int32) + (9 : Int32) * nI c + F = nI (24 + 9 * c + f) := by
  subst hF
  show nI 24 + nI 9 * nI c + nI f = _
  rw [pk_mul, nI_add, nI_add]
theorem e_one (g : c_G) {c : Nat} (hc : c < 6) (f : Nat) (hf : f < 9) (F : Int32) (hF : F = nI f) : fX12_one g (nI c) F = some (g.1 1 (24 + 9 * c + f)) := by
  unfold fX12_one
  rw [e_at F hF, p_in (by omega) (by decide), nI_clamp (by omega)]
  rfl
theorem e_change (g : c_G) {c : Nat} (hc : c < 6) (f : Nat) (hf : f < 9) (F : Int32) (hF : F = nI f) (v : Int32) : fX12_change g (nI c) F v = some (c_si g 1 (24 + 9 * c + f) v, g.1 1 (24 + 9 * c + f)) := by
  unfold fX12_change
  rw [e_one g hc f hf F hF, e_at F hF, p_in (by omega) (by decide), nI_clamp (by omega)]
  rfl
theorem e_atE {c f : Nat} (F : Int32) (hF : F = nI f) : (4 : Int32) * nI c + F = nI (4 * c + f) := by
  subst hF
  show nI 4 * nI c + nI f = _
  rw [pk_mul, nI_add]
theorem e_of (g : c_G) {e : Nat} (he : e < 6) (f : Nat) (hf : f < 4) (F : Int32) (hF : F = nI f) : fX12_of g (nI e) F = some (g.1 1 (4 * e + f)) := by
  unfold fX12_of
  rw [e_atE F hF, p_in (by omega) (by decide), nI_clamp (by omega)]
  rfl
theorem e_never (x : Int32) : fX12_orNever x = p_or x := rfl
theorem p_Age.upd {m : Nat → Int32} (h : p_Age m) {K : Nat} {v : Int32} (h1 : K ≠ 80) (h2 : ∀ i, i < 6 → K ≠ 24 + 9 * i + 3) : p_Age (upd m K v) := by
  obtain ⟨su, a, b, c⟩ := h
  refine ⟨su, a, by rw [pk_un (Ne.symm h1)]; exact b, fun i hi => ?_⟩
  rw [pk_un (Ne.symm (h2 i hi))]
  exact c i hi
theorem p_Rule.upd {n : Nat} {m : Nat → Int32} (h : p_Rule n m) {K : Nat} {v : Int32} (h1 : K ≠ 81) : p_Rule n (upd m K v) := by
  obtain ⟨u, a, b⟩ := h
  exact ⟨u, a, by rw [pk_un (Ne.symm h1)]; exact b⟩
theorem e_up (g : c_G) (h k : Nat) (v : Int32) : (c_si g h k v).1 h = upd (g.1 h) k v := c_sr_at
/-- one place of the row changes on both sides -/
theorem p_R.put {gC gM : c_G} {n K a j : Nat} {v w : Int32} (h1 : p_Age (gM.1 1)) (h2 : p_Rule n (gM.1 1)) (h3 : p_Rest gC gM n) (hs : p_St (c_si gC a j v) 55 (upd (gM.1 1) K w)) (ha : 55 ≤ a) (ha2 : a < 78) (k1 : K ≠ 80) (k2 : ∀ i, i < 6 → K ≠ 24 + 9 * i + 3) (k3 : K ≠ 81) : p_R (c_si gC a j v) (c_si gM 1 K w) := by
  refine ⟨n, by rw [e_up]; exact hs, by rw [e_up]; exact h1.upd k1 k2, by rw [e_up]; exact h2.upd k3, h3.fr (p_fC.si ?_) (p_fM.si rfl)⟩
  simp only [p_scC, Bool.or_eq_true, Bool.and_eq_true, beq_iff_eq, decide_eq_true_eq]
  omega
def p_Eq (x y : Option (c_G × Int32)) : Prop := ∃ gC gM r, x = some (gC, r) ∧ y = some (gM, r) ∧ p_R gC gM
theorem e_know {gC gM : c_G} (h : p_R gC gM) (a b : Int32) : p_Eq (fX11_know gC a b) (fX12_know gM a b) := by
  obtain ⟨n, hs, h1, h2, h3⟩ := h
  obtain ⟨c, hc, e1, e2⟩ := hs.many
  unfold fX11_know fX12_know
  rcases e_child hc e1 e2 a with ⟨q1, q2, -⟩ | ⟨q1, q2, i, hi, rfl⟩
  · rw [q1, q2]
    exact ⟨gC, gM, _, rfl, rfl, n, hs, h1, h2, h3⟩
  · rw [q1, q2]
    rcases e_set b with ⟨q3, q4, -⟩ | ⟨q3, q4, q5⟩
    · rw [q3, q4]
      exact ⟨gC, gM, _, rfl, rfl, n, hs, h1, h2, h3⟩
    · rw [q3, q4, e_change gM (c := i) (by omega) 2 (by decide) 2 rfl, p_in (by omega) (by decide), nI_clamp (by omega)]
      refine ⟨c_si gC 62 i b, c_si gM 1 (24 + 9 * i + 2) b, gC.1 62 i, rfl, ?_, p_R.put h1 h2 h3 (p_pt_knows hs (i := i) (by omega) q5) (by decide) (by decide) (by omega) (fun _ _ => by omega) (by omega)⟩
      rw [hs.1, p_al_knows _ _ (by omega)]
      rfl
theorem e_bar {gC gM : c_G} (h : p_R gC gM) (a : Int32) : p_Eq (fX11_bar gC a) (fX12_bar gM a) := by
  obtain ⟨n, hs, h1, h2, h3⟩ := h
  unfold fX11_bar fX12_bar
  rcases e_set a with ⟨q3, q4, -⟩ | ⟨q3, q4, q5⟩
  · rw [q3, q4]
    exact ⟨gC, gM, _, rfl, rfl, n, hs, h1, h2, h3⟩
  · rw [q3, q4]
    refine ⟨c_si gC 55 4 a, c_si gM 1 79 a, gC.1 55 4, rfl, ?_, p_R.put h1 h2 h3 (p_pt_bar hs q5) (by decide) (by decide) (by omega) (fun _ _ => by omega) (by omega)⟩
    rw [hs.1]
    rfl
