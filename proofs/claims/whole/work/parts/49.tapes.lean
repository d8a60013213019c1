/-! PURE: tapes, more -/
theorem e_item {gC gM : c_G} (h : p_R gC gM) (a b : Int32) (c : Int64) : p_Eq (fX11_item gC a b c) (fX12_item gM a b c) := by
  unfold fX11_item fX12_item
  rcases e_tape a with ⟨q1, q2, -⟩ | ⟨q1, q2, t, ht, rfl⟩
  · simp only [q1, q2, ↓reduceIte]
    exact h.same _
  · simp only [q1, q2, i10, p_in ht (by decide), nI_clamp (show t < 2 ^ 31 by omega), ↓reduceIte]
    rcases h.tp ht with ⟨h1, h2, h3⟩ | ⟨so, n, h1, h2, h3, h4, h5, h6, h7⟩
    · simp only [h1, h2, show ¬ (0 : Int32) ≤ -1 by decide, ↓reduceIte]
      exact h.same _
    · simp only [h3, h4, p_5N (show so < 2 ^ 31 by omega), nI_pos' (show so < 2 ^ 31 by omega), h6, h5, ↓reduceIte]
      rcases e_isIn b (n := n) (by omega) with ⟨q3, q4⟩ | ⟨q3, k, hk, rfl⟩
      · rcases e_lo (by omega) q4 with z | z
        · simp only [q3, z, ↓reduceIte]
          exact h.same _
        · simp only [q3, p_ge z (by omega), p_nlo z (by omega), ↓reduceIte]
          exact h.same _
      · have hk60 : k < 60 := by omega
        have main : ∀ v : Int64, (so = 4 → v = 0 ∨ v = 1) → p_R (c_sl gC (13 + t) k v) (c_sl gM 20 (60 * t + k) v) := by
          intro v hv
          refine h.longs rfl rfl rfl fun u hu => ?_
          by_cases e : u = t
          · subst e
            refine Or.inr ⟨so, n, h1, h2, h3, h4, h5, h6, fun j hj => ?_⟩
            have eC : (c_sl gC (13 + u) k v).2.1 (13 + u) = vp_updL (gC.2.1 (13 + u)) k v := c_sq_at
            have eM : (c_sl gM 20 (60 * u + k) v).2.1 20 = vp_updL (gM.2.1 20) (60 * u + k) v := c_sq_at
            rw [eC, eM]
            by_cases z : j = k
            · subst z
              rw [pk_uLs, pk_uLs]
              exact ⟨rfl, hv⟩
            · rw [pk_uLn z, pk_uLn (by omega)]
              exact h7 j hj
          · have eC : (c_sl gC (13 + t) k v).2.1 (13 + u) = gC.2.1 (13 + u) := c_sq_ne (by omega)
            have eM : (c_sl gM 20 (60 * t + k) v).2.1 20 = vp_updL (gM.2.1 20) (60 * t + k) v := c_sq_at
            refine (h.tp hu).eq rfl rfl rfl rfl eC fun j hj => ?_
            rw [eM, pk_uLn (by omega)]
        simp only [q3, i10, nI_pos (show k < 2 ^ 31 by omega), nI_lt hk (by omega), p_in hk60 (by decide), nI_clamp (show k < 2 ^ 31 by omega), e_at60, p_in (show 60 * t + k < 360 by omega) (by decide), nI_clamp (show 60 * t + k < 2 ^ 31 by omega), c_let, fX11_narrowed, ↓reduceIte]
        rcases (show so = 0 ∨ so = 1 ∨ so = 2 ∨ so = 3 ∨ so = 4 by omega) with rfl | rfl | rfl | rfl | rfl
        · simp only [show nI 0 = (0 : Int32) by decide, ↓reduceIte]
          exact ⟨_, _, _, rfl, rfl, main _ (fun z => by omega)⟩
        · simp only [show nI 1 = (1 : Int32) by decide, show ¬ (1 : Int32) = 0 by decide, ↓reduceIte]
          exact ⟨_, _, _, rfl, rfl, main _ (fun z => by omega)⟩
        · simp only [show nI 2 = (2 : Int32) by decide, show ¬ (2 : Int32) = 0 by decide, show ¬ (2 : Int32) = 1 by decide, ↓reduceIte]
          exact ⟨_, _, _, rfl, rfl, main _ (fun z => by omega)⟩
        · simp only [show nI 3 = (3 : Int32) by decide, show ¬ (3 : Int32) = 0 by decide, show ¬ (3 : Int32) = 1 by decide, show ¬ (3 : Int32) = 2 by decide, ↓reduceIte]
          exact ⟨_, _, _, rfl, rfl, main _ (fun z => by omega)⟩
        · simp only [show nI 4 = (4 : Int32) by decide, show ¬ (4 : Int32) = 0 by decide, show ¬ (4 : Int32) = 1 by decide, show ¬ (4 : Int32) = 2 by decide, show ¬ (4 : Int32) = 3 by decide, ↓reduceIte]
          by_cases z : lg_cmp c 0 = 0
          · simp only [z, ↓reduceIte]
            exact ⟨_, _, _, rfl, rfl, main _ (fun _ => Or.inl rfl)⟩
          · simp only [z, ↓reduceIte]
            exact ⟨_, _, _, rfl, rfl, main _ (fun _ => Or.inr rfl)⟩
theorem e_fillL (a1 : Nat) : ∀ (k i F : Nat) (g : c_G), i + k = 60 → k < F → c_la TC a1 = some 60 → ∃ g', fJ7_fill_d0a16_6 TC a1 0 F 0 (nI i) (nI 60) g = some g' ∧ g'.1 = g.1 ∧ g'.2.2 = g.2.2 ∧ ∀ x j, g'.2.1 x j = if x = a1 ∧ i ≤ j ∧ j < 60 then 0 else g.2.1 x j
  | 0, i, F + 1, g, hi, hF, hl => by
    refine ⟨g, ?_, rfl, rfl, fun x j => ?_⟩
    · unfold fJ7_fill_d0a16_6
      rw [if_pos (nI_le (by omega) (by omega))]
    · rw [if_neg (by omega)]
  | k + 1, i, F + 1, g, hi, hF, hl => by
    obtain ⟨g', e1, e2, e3, e4⟩ := e_fillL a1 k (i + 1) F (c_sl g a1 i 0) (by omega) (by omega) hl
    refine ⟨g', ?_, e2, e3, fun x j => ?_⟩
    · unfold fJ7_fill_d0a16_6
      rw [if_neg (nI_ge (by omega) (by decide)), hl, Option.bind_some, p_in (by omega) (by decide), if_pos rfl, nI_clamp (by omega)]
      simp only [c_let, nI_1]
      exact e1
    · rw [e4]
      unfold c_sl c_sq
      by_cases q : x = a1
      · subst q
        by_cases q2 : j = i
        · subst q2
          simp [pk_uLs]
          omega
        · simp only [true_and, ↓reduceIte, pk_uLn q2]
          by_cases q3 : i + 1 ≤ j ∧ j < 60
          · rw [if_pos q3, if_pos (by omega)]
          · rw [if_neg q3, if_neg (by omega)]
      · simp [q]
theorem e_fillM (a1 a2 a3 : Int32) (t : Nat) (ht : t < 6) : ∀ (k i F : Nat) (g : c_G), i + k = 60 → k < F → ∃ g', fX12_tape_67 a1 a2 a3 F (nI t) (nI i) g = some (g', 1) ∧ g'.1 = g.1 ∧ g'.2.2 = g.2.2 ∧ ∀ j, g'.2.1 20 j = if 60 * t + i ≤ j ∧ j < 60 * t + 60 then 0 else g.2.1 20 j
  | 0, i, F + 1, g, hi, hF => by
    refine ⟨g, ?_, rfl, rfl, fun j => ?_⟩
    · unfold fX12_tape_67
      rw [if_pos (show (60 : Int32) ≤ nI i from nI_le (a := 60) (by omega) (by omega))]
    · rw [if_neg (by omega)]
  | k + 1, i, F + 1, g, hi, hF => by
    obtain ⟨g', e1, e2, e3, e4⟩ := e_fillM a1 a2 a3 t ht k (i + 1) F (c_sl g 20 (60 * t + i) 0) (by omega) (by omega)
    refine ⟨g', ?_, e2, e3, fun j => ?_⟩
    · unfold fX12_tape_67
      rw [if_neg (show ¬ (60 : Int32) ≤ nI i from nI_ge (b := 60) (by omega) (by decide)), e_at60, p_in (show 60 * t + i < 360 by omega) (by decide), if_pos rfl, nI_clamp (by omega)]
      simp only [c_let, nI_1]
      exact e1
    · rw [e4]
      have eM : (c_sl g 20 (60 * t + i) 0).2.1 20 = vp_updL (g.2.1 20) (60 * t + i) 0 := c_sq_at
      rw [eM]
      by_cases q2 : j = 60 * t + i
      · subst q2
        rw [if_neg (by omega), if_pos (by omega), pk_uLs]
      · rw [pk_uLn q2]
        by_cases q3 : 60 * t + (i + 1) ≤ j ∧ j < 60 * t + 60
        · rw [if_pos q3, if_pos (by omega)]
        · rw [if_neg q3, if_neg (by omega)]
theorem c_la_t {t : Nat} (ht : t < 6) : c_la TC (13 + t) = some 60 := by
  rcases (show t = 0 ∨ t = 1 ∨ t = 2 ∨ t = 3 ∨ t = 4 ∨ t = 5 by omega) with rfl | rfl | rfl | rfl | rfl | rfl <;> rfl
theorem e_tapeC {gC gM : c_G} (h : p_R gC gM) (a b c : Int32) : p_Eq (fX11_tape gC a b c) (fX12_tape gM a b c) := by
  unfold fX11_tape fX12_tape
  rcases e_tape a with ⟨q1, q2, -⟩ | ⟨q1, q2, t, ht, rfl⟩
  · simp only [q1, q2, ↓reduceIte]
    exact h.same _
  · simp only [q1, q2, i10, p_in ht (by decide), nI_clamp (show t < 2 ^ 31 by omega), ↓reduceIte]
    rcases e_isInM b (n := 5) (by decide) 4 rfl with ⟨q3, q4, q5⟩ | ⟨q3, rfl | ⟨so, hso, rfl⟩⟩
    · rcases e_lo (by decide) q5 with z | z
      · have z2 : b < -1 := by
          have z3 := Int32.lt_iff_toInt_lt.mp z
          have z4 : (0 : Int32).toInt = 0 := rfl
          have z5 : (-1 : Int32).toInt = -1 := by decide
          have z6 : ¬ b.toInt = -1 := fun z => q4 (Int32.toInt_inj.mp (by rw [z, z5]))
          exact Int32.lt_iff_toInt_lt.mpr (by omega)
        simp only [q3, z2, ↓reduceIte]
        exact h.same _
      · have z2 : ¬ b < -1 := fun w => p_ge z (by decide) (by
          have z3 := Int32.lt_iff_toInt_lt.mp w
          have z4 : (0 : Int32).toInt = 0 := rfl
          have z5 : (-1 : Int32).toInt = -1 := by decide
          exact Int32.lt_iff_toInt_lt.mpr (by omega))
        simp only [q3, z2, show ¬ b < (5 : Int32) from p_nlo (n := 5) z (by decide), ↓reduceIte]
        exact h.same _
    · unfold fX12_tape_31 fX12_tape_42 fX12_tape_63
      obtain ⟨gM', e1, e2, e3, e4⟩ := e_fillM (nI t) (-1) c t ht 60 0 c_F (c_si (c_si gM 18 t (-1)) 19 t 0) (by decide) (by decide)
      simp only [q3, i10, show ¬ (-1 : Int32) < -1 by decide, show (-1 : Int32) < 5 by decide, show (-1 : Int32) < 0 by decide, show ¬ (0 : Int32) ≤ -1 by decide, p_in ht (by decide), nI_clamp (show t < 2 ^ 31 by omega), c_let, ↓reduceIte]
      refine ⟨_, _, _, rfl, e1, ?_⟩
      have m1 : ∀ x, x ≠ 18 → x ≠ 19 → gM'.1 x = gM.1 x := fun x z1 z2 => by
        rw [e2]
        exact (c_sr_ne z2).trans (c_sr_ne z1)
      have c1 : ∀ x, x ≠ 10 → x ≠ 11 → (c_si gC 10 t (-5)).1 x = gC.1 x := fun x z1 z2 => c_sr_ne z1
      refine h.tapes c1 rfl m1 fun u hu => ?_
      by_cases e : u = t
      · subst e
        refine Or.inl ⟨p_si_at _ _ _ _, ?_, ?_⟩
        · rw [e2, p_si_ne _ _ _ _ (by omega), p_si_at]
        · rw [e2, p_si_at]
      · refine (h.tp hu).eq (p_si_ne _ _ _ _ (by omega)) (p_si_ne _ _ _ _ (by omega)) ?_ ?_ rfl fun j hj => ?_
        · rw [e2, p_si_ne _ _ _ _ (by omega), p_si_ne _ _ _ _ (by omega)]
        · rw [e2, p_si_ne _ _ _ _ (by omega), p_si_ne _ _ _ _ (by omega)]
        · rw [e4, if_neg (by omega)]; rfl
    · have hb1 : ¬ nI so < -1 := fun w => nI_pos (show so < 2 ^ 31 by omega) (by
        have z3 := Int32.lt_iff_toInt_lt.mp w
        have z4 : (0 : Int32).toInt = 0 := rfl
        have z5 : (-1 : Int32).toInt = -1 := by decide
        exact Int32.lt_iff_toInt_lt.mpr (by omega))
      simp only [q3, i10, hb1, show nI so < (5 : Int32) from nI_lt (b := 5) hso (by decide), p_mN (show so < 2 ^ 31 by omega), nI_pos (show so < 2 ^ 31 by omega), ↓reduceIte]
      by_cases c6 : c ≤ 60
      · simp only [c6, ↓reduceIte]
        unfold fX12_tape_31 fX12_tape_42 fX12_tape_63
        by_cases c0 : 0 ≤ c
        · obtain ⟨n, hn, rfl⟩ : p_N c 61 := by
            rcases p_ix c (n := 61) (by decide) with z | z | z
            · exact absurd c0 (fun w => by
                have w1 := Int32.lt_iff_toInt_lt.mp z
                have w2 := Int32.le_iff_toInt_le.mp w
                omega)
            · exact absurd c6 (p_ltge z (k := 60) (by decide) (by decide))
            · exact z
          obtain ⟨gM', e1, e2, e3, e4⟩ := e_fillM (nI t) (nI so) (nI n) t ht 60 0 c_F (c_si (c_si gM 18 t (nI so)) 19 t (nI n)) (by decide) (by decide)
          obtain ⟨gC', f1, f2, f3, f4⟩ := e_fillL (13 + t) 60 0 c_F (c_si (c_si gC 10 t (nI so)) 11 t (nI n)) (by decide) (by decide) (c_la_t ht)
          have f1' : fJ7_fill_d0a16 TC (c_si (c_si gC 10 t (nI so)) 11 t (nI n)) (13 + t) 0 = some gC' := by
            unfold fJ7_fill_d0a16
            rw [c_la_t ht]
            exact f1
          simp only [c0, nI_pos (show so < 2 ^ 31 by omega), nI_pos' (show so < 2 ^ 31 by omega), p_in ht (by decide), nI_clamp (show t < 2 ^ 31 by omega), c_let, f1', Option.bind_some, ↓reduceIte]
          refine ⟨_, _, _, rfl, e1, ?_⟩
          have m1 : ∀ x, x ≠ 18 → x ≠ 19 → gM'.1 x = gM.1 x := fun x z1 z2 => by
            rw [e2]
            exact (c_sr_ne z2).trans (c_sr_ne z1)
          have c1 : ∀ x, x ≠ 10 → x ≠ 11 → gC'.1 x = gC.1 x := fun x z1 z2 => by
            rw [f2]
            exact (c_sr_ne z2).trans (c_sr_ne z1)
          refine h.tapes c1 f3 m1 fun u hu => ?_
          by_cases e : u = t
          · subst e
            refine Or.inr ⟨so, n, hso, by omega, ?_, ?_, ?_, ?_, fun j hj => ?_⟩
            · rw [f2, p_si_ne _ _ _ _ (by omega), p_si_at]
            · rw [e2, p_si_ne _ _ _ _ (by omega), p_si_at]
            · rw [f2, p_si_at]
            · rw [e2, p_si_at]
            · rw [f4, e4, if_pos (by omega), if_pos (by omega)]
              exact ⟨rfl, fun _ => Or.inl rfl⟩
          · refine (h.tp hu).eq ?_ ?_ ?_ ?_ (funext fun j => ?_) fun j hj => ?_
            · rw [f2, p_si_ne _ _ _ _ (by omega), p_si_ne _ _ _ _ (by omega)]
            · rw [f2, p_si_ne _ _ _ _ (by omega), p_si_ne _ _ _ _ (by omega)]
            · rw [e2, p_si_ne _ _ _ _ (by omega), p_si_ne _ _ _ _ (by omega)]
            · rw [e2, p_si_ne _ _ _ _ (by omega), p_si_ne _ _ _ _ (by omega)]
            · rw [f4, if_neg (by omega)]; rfl
            · rw [e4, if_neg (by omega)]; rfl
        · simp only [c0, nI_pos (show so < 2 ^ 31 by omega), ↓reduceIte]
          exact h.same _
      · simp only [c6, ↓reduceIte]
        exact h.same _
