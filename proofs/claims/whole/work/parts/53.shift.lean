/-! PURE: shift, judge -/
theorem e_sh1 (a1 a2 a3 a4 a5 : Int32) {t i o j n : Nat} (ht : t < 6) (hi : i + n ≤ 60) : ∀ (d k F : Nat) (g : c_G), k + d = n → d < F → ∃ g', fX12_shift_102 a1 a2 a3 a4 a5 F (nI t) (nI i) (nI o) (nI j) (nI n) (nI k) g = fX12_shift_139 a1 a2 a3 a4 a5 c_F (nI o) (nI j) (nI n) 0 g' ∧ g'.1 = g.1 ∧ g'.2.2 = g.2.2 ∧ (∀ x, x ≠ 21 → g'.2.1 x = g.2.1 x) ∧ ∀ y, g'.2.1 21 y = if k ≤ y ∧ y < n then g.2.1 20 (60 * t + i + y) else g.2.1 21 y
  | 0, k, F + 1, g, hk, hF => by
    refine ⟨g, ?_, rfl, rfl, fun _ _ => rfl, fun y => by rw [if_neg (by omega)]⟩
    rw [fX12_shift_102, if_pos (nI_le (by omega) (by omega))]
  | d + 1, k, F + 1, g, hk, hF => by
    have e0 : (60 : Int32) * nI t + nI i + nI k = nI (60 * t + i + k) := by rw [e_at60, nI_add]
    obtain ⟨g', e1, e2, e3, e4, e5⟩ := e_sh1 a1 a2 a3 a4 a5 (o := o) (j := j) ht hi d (k + 1) F (c_sl g 21 k (g.2.1 20 (60 * t + i + k))) (by omega) (by omega)
    refine ⟨g', ?_, e2, e3, fun x hx => (e4 x hx).trans (c_sq_ne hx), fun y => ?_⟩
    · rw [fX12_shift_102, if_neg (nI_ge (by omega) (by omega)), e0, p_in (by omega) (by decide), if_pos rfl, p_in (show k < 60 by omega) (by decide), if_pos rfl, nI_clamp (by omega), nI_clamp (by omega), c_let_d, c_let_d, nI_1]
      exact e1
    · rw [e5]
      have eM : (c_sl g 21 k (g.2.1 20 (60 * t + i + k))).2.1 21 = vp_updL (g.2.1 21) k (g.2.1 20 (60 * t + i + k)) := c_sq_at
      have eN : (c_sl g 21 k (g.2.1 20 (60 * t + i + k))).2.1 20 = g.2.1 20 := c_sq_ne (by decide)
      rw [eM, eN]
      by_cases z : y = k
      · subst z
        rw [if_neg (by omega), if_pos (by omega), pk_uLs]
      · rw [pk_uLn z]
        by_cases z2 : k + 1 ≤ y ∧ y < n
        · rw [if_pos z2, if_pos (by omega)]
        · rw [if_neg z2, if_neg (by omega)]
theorem e_sh2 (a1 a2 a3 a4 a5 : Int32) {o j n : Nat} (ho : o < 6) (hj : j + n ≤ 60) : ∀ (d k F : Nat) (g : c_G), k + d = n → d < F → ∃ g', fX12_shift_139 a1 a2 a3 a4 a5 F (nI o) (nI j) (nI n) (nI k) g = some (g', nI n) ∧ g'.1 = g.1 ∧ g'.2.2 = g.2.2 ∧ ∀ y, g'.2.1 20 y = if 60 * o + j + k ≤ y ∧ y < 60 * o + j + n then g.2.1 21 (y - (60 * o + j)) else g.2.1 20 y
  | 0, k, F + 1, g, hk, hF => by
    refine ⟨g, ?_, rfl, rfl, fun y => by rw [if_neg (by omega)]⟩
    rw [fX12_shift_139, if_pos (nI_le (by omega) (by omega))]
  | d + 1, k, F + 1, g, hk, hF => by
    have e0 : (60 : Int32) * nI o + nI j + nI k = nI (60 * o + j + k) := by rw [e_at60, nI_add]
    obtain ⟨g', e1, e2, e3, e5⟩ := e_sh2 a1 a2 a3 a4 a5 ho hj d (k + 1) F (c_sl g 20 (60 * o + j + k) (g.2.1 21 k)) (by omega) (by omega)
    refine ⟨g', ?_, e2, e3, fun y => ?_⟩
    · rw [fX12_shift_139, if_neg (nI_ge (by omega) (by omega)), e0, p_in (show k < 60 by omega) (by decide), if_pos rfl, p_in (by omega) (by decide), if_pos rfl, nI_clamp (by omega), nI_clamp (by omega), c_let_d, c_let_d, nI_1]
      exact e1
    · rw [e5]
      have eM : (c_sl g 20 (60 * o + j + k) (g.2.1 21 k)).2.1 20 = vp_updL (g.2.1 20) (60 * o + j + k) (g.2.1 21 k) := c_sq_at
      have eN : (c_sl g 20 (60 * o + j + k) (g.2.1 21 k)).2.1 21 = g.2.1 21 := c_sq_ne (by decide)
      rw [eM, eN]
      by_cases z : y = 60 * o + j + k
      · subst z
        rw [if_neg (by omega), if_pos (by omega), pk_uLs, show 60 * o + j + k - (60 * o + j) = k by omega]
      · rw [pk_uLn z]
        by_cases z2 : 60 * o + j + (k + 1) ≤ y ∧ y < 60 * o + j + n
        · rw [if_pos z2, if_pos (by omega)]
        · rw [if_neg z2, if_neg (by omega)]
theorem e_subT {L i : Nat} (hL : L < 100) (hi : i < 2 ^ 31) : (nI L - nI i).toInt = (L : Int) - i := by
  rw [Int32.toInt_sub, nI_toInt (by omega), nI_toInt (by omega)]
  exact Int.bmod_eq_of_le (by omega) (by omega)
theorem e_shift {gC gM : c_G} (h : p_R gC gM) (a b c d e : Int32) : p_Eq (fX11_shift gC a b c d e) (fX12_shift gM a b c d e) := by
  unfold fX11_shift fX12_shift
  rcases e_tape a with ⟨q1, q2, -⟩ | ⟨q1, q2, t, ht, rfl⟩
  · simp only [q1, q2, ↓reduceIte]
    exact h.same _
  · rcases e_tape c with ⟨q3, q4, -⟩ | ⟨q3, q4, o, ho, rfl⟩
    · simp only [q1, q2, q3, q4, i10, ↓reduceIte]
      exact h.same _
    · simp only [q1, q2, q3, q4, i10, p_in ht (by decide), nI_clamp (show t < 2 ^ 31 by omega), p_in ho (by decide), nI_clamp (show o < 2 ^ 31 by omega), ↓reduceIte]
      rcases h.tp ht with ⟨h1, h2, h3⟩ | ⟨so, L, h1, h2, h3, h4, h5, h6, h7⟩
      · simp only [h1, h2, show (-1 : Int32) < 0 by decide, ↓reduceIte]
        exact h.same _
      · rcases id (h.tp ho) with ⟨k1, k2, k3⟩ | ⟨sp, M, k1, k2, k3, k4, k5, k6, k7⟩
        · simp only [h3, h4, k1, k2, p_5N (show so < 2 ^ 31 by omega), nI_pos (show so < 2 ^ 31 by omega), show ¬ (0 : Int32) ≤ -1 by decide, ↓reduceIte]
          exact h.same _
        · simp only [h3, h4, k3, k4, p_5N (show so < 2 ^ 31 by omega), p_5N (show sp < 2 ^ 31 by omega), nI_pos (show so < 2 ^ 31 by omega), nI_pos' (show sp < 2 ^ 31 by omega), ↓reduceIte]
          by_cases es : so = sp
          · subst es
            simp only [h5, h6, k5, k6, ↓reduceIte]
            by_cases e0 : e < 0
            · simp only [e0, ↓reduceIte]
              exact h.same _
            · by_cases b0 : b < 0
              · simp only [e0, b0, ↓reduceIte]
                exact h.same _
              · by_cases d0 : d < 0
                · have d1 : ¬ 0 ≤ d := fun z => by
                    have z1 := Int32.lt_iff_toInt_lt.mp d0
                    have z2 := Int32.le_iff_toInt_le.mp z
                    omega
                  simp only [e0, b0, d0, d1, ↓reduceIte]
                  exact h.same _
                · obtain ⟨n, hn, rfl⟩ := nI_of e0
                  obtain ⟨i, hi, rfl⟩ := nI_of b0
                  obtain ⟨j, hj, rfl⟩ := nI_of d0
                  simp only [e0, b0, d0, nI_pos' hj, ↓reduceIte]
                  have x1 : (nI L - nI i < nI n) ↔ L < i + n := by
                    rw [Int32.lt_iff_toInt_lt, e_subT (by omega) hi, nI_toInt hn]; omega
                  have x2 : (nI n ≤ nI M - nI j) ↔ j + n ≤ M := by
                    rw [Int32.le_iff_toInt_le, e_subT (by omega) hj, nI_toInt hn]; omega
                  by_cases y1 : L < i + n
                  · simp only [x1.mpr y1, ↓reduceIte]
                    exact h.same _
                  · by_cases y2 : j + n ≤ M
                    · simp only [mt x1.mp y1, x2.mpr y2, ↓reduceIte]
                      have cp : c_cp (nI i) (nI j) (nI n) 60 60 = true := by
                        simp only [c_cp, Bool.and_eq_true, decide_eq_true_eq, nI_clamp hn, nI_clamp hi, nI_clamp hj]
                        exact ⟨⟨⟨⟨nI_pos hi, nI_pos hj⟩, nI_pos hn⟩, by omega⟩, by omega⟩
                      obtain ⟨g1, f1, f2, f3, f4, f5⟩ := e_sh1 (nI t) (nI i) (nI o) (nI j) (nI n) (t := t) (i := i) (o := o) (j := j) (n := n) ht (by omega) n 0 c_F gM (by omega) (show n < 5000 by omega)
                      obtain ⟨g2, w1, w2, w3, w4⟩ := e_sh2 (nI t) (nI i) (nI o) (nI j) (nI n) (o := o) (j := j) (n := n) ho (by omega) n 0 c_F g1 (by omega) (show n < 5000 by omega)
                      rw [nI_0] at f1 w1
                      rw [if_pos cp, c_let_d, f1, w1]
                      refine ⟨_, _, _, rfl, rfl, h.longs rfl rfl (w2.trans f2) fun u hu => ?_⟩
                      rw [nI_clamp hn, nI_clamp hi, nI_clamp hj]
                      have g20 : ∀ y, g2.2.1 20 y = if 60 * o + j ≤ y ∧ y < 60 * o + j + n then gM.2.1 20 (60 * t + i + (y - (60 * o + j))) else gM.2.1 20 y := fun y => by
                        rw [w4, f4 20 (by decide), f5]
                        by_cases z : 60 * o + j ≤ y ∧ y < 60 * o + j + n
                        · rw [if_pos (by omega), if_pos z, if_pos (by omega)]
                        · rw [if_neg (by omega), if_neg z]
                      by_cases eu : u = o
                      · subst eu
                        have eC : (c_sq gC (13 + u) (va_cpy (gC.2.1 (13 + t)) (gC.2.1 (13 + u)) i j n)).2.1 (13 + u) = va_cpy (gC.2.1 (13 + t)) (gC.2.1 (13 + u)) i j n := c_sq_at
                        refine Or.inr ⟨so, M, k1, k2, k3, by rw [w2, f2]; exact k4, k5, by rw [w2, f2]; exact k6, fun y hy => ?_⟩
                        rw [eC, g20]
                        by_cases z : j ≤ y ∧ y < j + n
                        · rw [pk_cpy_in z.1 z.2, if_pos (by omega), show 60 * t + i + (60 * u + y - (60 * u + j)) = 60 * t + (i + (y - j)) by omega]
                          exact h7 _ (by omega)
                        · rw [pk_cpy_out (by omega), if_neg (by omega)]
                          exact k7 y hy
                      · have eC : (c_sq gC (13 + o) (va_cpy (gC.2.1 (13 + t)) (gC.2.1 (13 + o)) i j n)).2.1 (13 + u) = gC.2.1 (13 + u) := c_sq_ne (by omega)
                        refine (h.tp hu).eq rfl rfl (by rw [w2, f2]) (by rw [w2, f2]) eC fun y hy => ?_
                        rw [g20, if_neg (by omega)]
                    · simp only [mt x1.mp y1, mt x2.mp y2, ↓reduceIte]
                      exact h.same _
          · have ne : ¬ nI so = nI sp := fun z => es ((nI_eq (by omega) (by omega)).mp z)
            simp only [ne, ↓reduceIte]
            exact h.same _
theorem p_ONneg {n : Nat} {x : Int32} (hn : n < 2 ^ 31) (hx : p_O x n) : (p_or x < 0 ↔ x = -1) := by
  rcases hx with rfl | ⟨i, hi, rfl⟩
  · exact ⟨fun _ => rfl, fun _ => by decide⟩
  · rw [p_or_nI (by omega)]
    exact ⟨fun z => absurd z (nI_pos (by omega)), fun z => absurd z (p_mN (by omega))⟩
theorem e_judgeL {gC gM : c_G} (hs : p_St gC 55 (gM.1 1)) (a1 a2 : Int32) {t i L : Nat} (ht : t < 6) (hL : L ≤ 60) (hi : i ≤ L) (c1 : gC.1 11 t = nI L) (m1 : gM.1 19 t = nI L) (h7 : ∀ j, j < 60 → gC.2.1 (13 + t) j = gM.2.1 20 (60 * t + j) ∧ (gC.2.1 (13 + t) j = 0 ∨ gC.2.1 (13 + t) j = 1)) : ∀ (d e F : Nat), e + d = 6 → d < F → ∃ r, fX11_judge_55 a1 a2 F (nI t) (nI i) (nI e) gC = some r ∧ fX12_judge_34 a1 a2 F (nI t) (nI i) (nI e) gM = some r
  | 0, e, F + 1, he, hF => by
    rw [fX11_judge_55, fX12_judge_34, if_pos (show (6 : Int32) ≤ nI e from nI_le (a := 6) (by omega) (by omega)), if_pos (show (6 : Int32) ≤ nI e from nI_le (a := 6) (by omega) (by omega))]
    exact ⟨_, rfl, rfl⟩
  | d + 1, e, F + 1, he, hF => by
    obtain ⟨r, e1, e2⟩ := e_judgeL hs a1 a2 ht hL hi c1 m1 h7 d (e + 1) F (by omega) (by omega)
    have he6 : e < 6 := by omega
    have vl : (nI i).toInt64 + (nI e).toInt64 = lN (i + e) := by
      rw [nI_l (by omega), nI_l (by omega)]
      exact Int64.toInt_inj.mp (by rw [← nI_l (by omega), ← nI_l (by omega), lg_i2l_add, nI_toInt (by omega), nI_toInt (by omega), pk_lT (by omega)]; omega)
    have vi : (lN (i + e)).toInt32 = nI (i + e) := by
      rw [← nI_l (by omega), lg_l2i_i2l]
    have lc : (lg_cmp (lN (i + e)) (nI L).toInt64 < 0) ↔ i + e < L := by
      rw [nI_l (by omega), lg_cmp_lt, pk_lLT (by omega) (by omega)]
    rw [fX11_judge_55, fX12_judge_34, if_neg (show ¬ (6 : Int32) ≤ nI e from nI_ge (b := 6) (by omega) (by decide)), if_neg (show ¬ (6 : Int32) ≤ nI e from nI_ge (b := 6) (by omega) (by decide)), c_let_d, vl, if_neg (nI_pos (show i < 2 ^ 31 by omega)), p_in ht (by decide), if_pos rfl, if_pos rfl, nI_clamp (show t < 2 ^ 31 by omega), c1, m1, nI_add, vi, e_at60]
    by_cases q : i + e < L
    · rw [if_pos (nI_lt q (by omega)), if_pos (lc.mpr q), p_in he6 (by decide), if_pos rfl, p_in (show 60 * t + (i + e) < 360 by omega) (by decide), if_pos rfl, e_of gM he6 1 (by decide) 1 rfl, Option.bind_some, nI_clamp (show e < 2 ^ 31 by omega), nI_clamp (show 60 * t + (i + e) < 2 ^ 31 by omega)]
      obtain ⟨w1, w2⟩ := h7 (i + e) (by omega)
      have nm : gC.1 57 e < 0 ↔ gM.1 1 (4 * e + 1) = -1 := by
        rw [show gC.1 57 e = p_or (gM.1 1 (4 * e + 1)) from hs.nameC he6]
        exact p_ONneg (by decide) (hs.okname he6)
      unfold fX11_judge_95 fX11_judge_115 fX12_judge_101
      rw [p_in ht (by decide), nI_add, p_in (show i + e < 60 by omega) (by decide), nI_clamp (show t < 2 ^ 31 by omega), nI_clamp (show i + e < 2 ^ 31 by omega), ← w1]
      simp only [nm, c_let_d, nI_1, ↓reduceIte]
      have z0 : (0 : Int32).toInt64 = 0 := rfl
      have z1 : (1 : Int32).toInt64 = 1 := rfl
      by_cases y : gM.1 1 (4 * e + 1) = -1
      · rcases w2 with w2 | w2
        · simp only [y, w2, z0, show ¬ lg_cmp (0 : Int64) 1 = 0 by decide, show lg_cmp (0 : Int64) 0 = 0 by decide, ↓reduceIte]
          exact ⟨r, e1, e2⟩
        · simp only [y, w2, z0, show lg_cmp (1 : Int64) 1 = 0 by decide, show ¬ lg_cmp (1 : Int64) 0 = 0 by decide, show ¬ (0 : Int32) = 1 by decide, ↓reduceIte]
          exact ⟨_, rfl, rfl⟩
      · rcases w2 with w2 | w2
        · simp only [y, w2, z1, show ¬ lg_cmp (0 : Int64) 1 = 0 by decide, show ¬ (1 : Int32) = 0 by decide, ↓reduceIte]
          exact ⟨_, rfl, rfl⟩
        · simp only [y, w2, z1, show lg_cmp (1 : Int64) 1 = 0 by decide, ↓reduceIte]
          exact ⟨r, e1, e2⟩
    · rw [if_neg (nI_nlt (by omega) (by omega)), if_neg (fun z => q (lc.mp z))]
      exact ⟨_, rfl, rfl⟩
theorem e_judge {gC gM : c_G} (h : p_R gC gM) (a b : Int32) : p_Er (fX11_judge gC a b) (fX12_judge gM a b) := by
  obtain ⟨n, hs, -⟩ := id h
  unfold fX11_judge fX12_judge fX12_judge_32
  rcases e_tape a with ⟨q1, q2, -⟩ | ⟨q1, q2, t, ht, rfl⟩
  · simp only [q1, q2, ↓reduceIte]
    exact ⟨_, rfl, rfl⟩
  · have c5 : c_F = 4999 + 1 := rfl
    have early : ∀ L : Nat, L ≤ 60 → gM.1 19 t = nI L → (b < 0 ∨ nI L ≤ b) → fX12_judge_34 (nI t) b c_F (nI t) b 0 gM = some 100 := by
      intro L hL eL hb
      rw [c5, fX12_judge_34, if_neg (by decide), c_let_d]
      by_cases z : b < 0
      · rw [if_pos z]; rfl
      · rw [if_neg z, p_in ht (by decide), if_pos rfl, nI_clamp (by omega), eL, if_neg]
        · rfl
        · rw [lg_cmp_lt]
          rcases hb with hb | hb
          · exact absurd hb z
          · intro w
            have w1 := Int64.lt_iff_toInt_lt.mp w
            rw [lg_i2l_add, Int32.toInt_toInt64] at w1
            have w2 := Int32.le_iff_toInt_le.mp hb
            have w3 : (0 : Int32).toInt = 0 := rfl
            omega
    simp only [q1, q2, i10, p_in ht (by decide), nI_clamp (show t < 2 ^ 31 by omega), ↓reduceIte]
    rcases h.tp ht with ⟨h1, h2, h3⟩ | ⟨so, L, h1, h2, h3, h4, h5, h6, h7⟩
    · simp only [h1, h2, ↓reduceIte]
      refine ⟨100, rfl, early 0 (by omega) h3 ?_⟩
      by_cases z : b < 0
      · exact Or.inl z
      · obtain ⟨k, hk, rfl⟩ := nI_of z
        exact Or.inr (nI_le (by omega) hk)
    · simp only [h3, h4, p_5N (show so < 2 ^ 31 by omega), p_mN (show so < 2 ^ 31 by omega), ↓reduceIte]
      by_cases e4 : so = 4
      · subst e4
        simp only [show nI 4 = (4 : Int32) by decide, h5, ↓reduceIte]
        by_cases z : b < 0
        · simp only [z, ↓reduceIte]
          exact ⟨100, rfl, early L h2 h6 (Or.inl z)⟩
        · obtain ⟨k, hk, rfl⟩ := nI_of z
          by_cases z2 : k ≤ L
          · simp only [z, nI_le z2 (show L < 2 ^ 31 by omega), ↓reduceIte]
            exact e_judgeL hs (nI t) (nI k) ht h2 z2 h5 h6 (fun j hj => ⟨(h7 j hj).1, (h7 j hj).2 rfl⟩) 6 0 c_F rfl (by decide)
          · simp only [z, nI_ge (show L < k by omega) hk, ↓reduceIte]
            exact ⟨100, rfl, early L h2 h6 (Or.inr (nI_le (by omega) hk))⟩
      · have ne : ¬ nI so = (4 : Int32) := fun z => e4 ((nI_eq (by omega) (by decide)).mp z)
        simp only [ne, ↓reduceIte]
        exact ⟨_, rfl, rfl⟩
