/-! PURE: looked, trace, taken, child -/
theorem p_St.bookC {g : c_G} {s : Nat} {m : Nat → Int32} (h : p_St g s m) {r : Nat} (hr : r < 8) : g.1 (s + 21) r = p_or (m (120 + 2 * r + 1)) := by
  have h1 : ¬ g.1 (s + 21) r = -1 := by
    rcases (show r = 0 ∨ r = 1 ∨ r = 2 ∨ r = 3 ∨ r = 4 ∨ r = 5 ∨ r = 6 ∨ r = 7 by omega) with rfl | rfl | rfl | rfl | rfl | rfl | rfl | rfl
    · exact h.2.1 121 (by decide) rfl
    · exact h.2.1 123 (by decide) rfl
    · exact h.2.1 125 (by decide) rfl
    · exact h.2.1 127 (by decide) rfl
    · exact h.2.1 129 (by decide) rfl
    · exact h.2.1 131 (by decide) rfl
    · exact h.2.1 133 (by decide) rfl
    · exact h.2.1 135 (by decide) rfl
  rw [h.1, p_al_bb _ _ hr, p_or_un h1]
theorem p_or_inj {n : Nat} {x y : Int32} (hn : n < 2 ^ 31) (hx : p_O x n) (hy : p_O y n) : p_or x = p_or y ↔ x = y := by
  refine ⟨fun e => ?_, fun e => by rw [e]⟩
  rcases hx with rfl | ⟨i, hi, rfl⟩ <;> rcases hy with rfl | ⟨j, hj, rfl⟩
  · rfl
  · rw [p_or_nI (by omega)] at e
    exact absurd e.symm (p_5N (by omega))
  · rw [p_or_nI (by omega)] at e
    exact absurd e (p_5N (by omega))
  · rwa [p_or_nI (by omega), p_or_nI (by omega)] at e
theorem p_St.okname {g : c_G} {s : Nat} {m : Nat → Int32} (h : p_St g s m) {e : Nat} (he : e < 6) : p_O (m (4 * e + 1)) 12 := by
  have z := h.2.2.1.1 (4 * e + 1) (by omega)
  unfold p_ok at z
  rwa [if_pos (by omega), if_neg (by omega), if_pos (by omega)] at z
theorem e_lookedL {gC gM : c_G} {k : Nat} (hs : p_St gC 55 (gM.1 1)) (ek : gM.1 1 119 = nI k) (hk : k < 9) : ∀ (d i F : Nat), i + d = k → d < F → ∃ r, fX11_looked_2 F (nI i) gC = some r ∧ fX12_looked_2 F (nI i) gM = some r
  | 0, i, F + 1, hi, hF => by
    have ekc : gC.1 74 3 = nI k := by rw [← ek]; exact (hs.1 119).symm
    unfold fX11_looked_2 fX12_looked_2
    rw [ek, ekc, if_pos (nI_le (by omega) (by omega)), if_pos (nI_le (by omega) (by omega))]
    exact ⟨_, rfl, rfl⟩
  | d + 1, i, F + 1, hi, hF => by
    have ekc : gC.1 74 3 = nI k := by rw [← ek]; exact (hs.1 119).symm
    obtain ⟨r, e1, e2⟩ := e_lookedL hs ek hk d (i + 1) F (by omega) (by omega)
    have hi8 : i < 8 := by omega
    obtain ⟨e, he, ee⟩ : p_N (gM.1 1 (120 + 2 * i)) 6 := by
      have z := hs.2.2.1.1 (120 + 2 * i) (by omega)
      unfold p_ok at z
      rwa [if_neg (by omega), if_neg (by omega), if_neg (by omega), if_neg (by omega), if_neg (by omega), if_neg (by omega), if_neg (by omega), if_neg (by omega), if_neg (by omega), if_neg (by omega), if_neg (by omega), if_pos (by omega)] at z
    have eb : p_O (gM.1 1 (120 + 2 * i + 1)) 12 := by
      have z := hs.2.2.1.1 (120 + 2 * i + 1) (by omega)
      unfold p_ok at z
      rwa [if_neg (by omega), if_neg (by omega), if_neg (by omega), if_neg (by omega), if_neg (by omega), if_neg (by omega), if_neg (by omega), if_neg (by omega), if_neg (by omega), if_neg (by omega), if_neg (by omega), if_neg (by omega)] at z
    have eec : gC.1 75 i = nI e := by rw [← ee, hs.1, p_al_ba _ _ hi8]
    have v8 : (120 : Int32) + 2 * nI i = nI (120 + 2 * i) := by
      show nI 120 + nI 2 * nI i = _
      rw [pk_mul, nI_add]
    have v9 : (121 : Int32) + 2 * nI i = nI (120 + 2 * i + 1) := by
      show nI 121 + nI 2 * nI i = _
      rw [pk_mul, nI_add, show 121 + 2 * i = 120 + 2 * i + 1 by omega]
    unfold fX11_looked_2 fX12_looked_2
    rw [ek, ekc, if_neg (nI_ge (by omega) (by omega)), if_neg (nI_ge (by omega) (by omega)), v8, v9]
    simp only [p_in hi8 (by decide), nI_clamp (show i < 2 ^ 31 by omega), eec, p_in he (by decide), nI_clamp (show e < 2 ^ 31 by omega), p_in (show 120 + 2 * i < 136 by omega) (by decide), p_in (show 120 + 2 * i + 1 < 136 by omega) (by decide), nI_clamp (show 120 + 2 * i < 2 ^ 31 by omega), nI_clamp (show 120 + 2 * i + 1 < 2 ^ 31 by omega), ee, e_of gM he 1 (by decide) 1 rfl, Option.bind_some, c_let, nI_1, ↓reduceIte]
    rw [show gC.1 57 e = p_or (gM.1 1 (4 * e + 1)) from hs.nameC he, show gC.1 76 i = p_or (gM.1 1 (120 + 2 * i + 1)) from hs.bookC hi8]
    by_cases q : gM.1 1 (4 * e + 1) = gM.1 1 (120 + 2 * i + 1)
    · rw [if_pos ((p_or_inj (by decide) (hs.okname he) eb).mpr q), if_pos q]
      exact ⟨r, e1, e2⟩
    · rw [if_neg (fun z => q ((p_or_inj (by decide) (hs.okname he) eb).mp z)), if_neg q]
      exact ⟨_, rfl, rfl⟩
theorem e_looked {gC gM : c_G} (h : p_R gC gM) : p_Er (fX11_looked gC) (fX12_looked gM) := by
  obtain ⟨n, hs, -⟩ := h
  obtain ⟨k, hk, ek⟩ : p_N (gM.1 1 119) 9 := hs.2.2.1.1 119 (by decide)
  exact e_lookedL hs ek hk k 0 c_F (by omega) (show k < 5000 by omega)
theorem e_trace {gC gM : c_G} (h : p_R gC gM) (a : Int32) : p_Er (fX11_trace gC a) (fX12_trace gM a) := by
  obtain ⟨n, -, -, -, -, -, -, ⟨r, r0, r1, r2, r3⟩, -⟩ := h
  unfold fX11_trace fX12_trace
  rw [r1, r2]
  have em : (if nI r < (20 : Int32) then nI r else 20) = nI (min 20 r) := by
    by_cases q : r < 20
    · rw [if_pos (show nI r < (20 : Int32) from nI_lt (b := 20) q (by decide)), Nat.min_eq_right (by omega)]
    · rw [if_neg (show ¬ nI r < (20 : Int32) from nI_nlt (b := 20) (by omega) (by omega)), Nat.min_eq_left (by omega)]
      rfl
  rw [em]
  rcases e_isIn a (n := min 20 r) (by omega) with ⟨q1, q2⟩ | ⟨q1, k, hk, rfl⟩
  · rw [q1, if_pos rfl]
    rcases p_ix a (n := min 20 r) (by omega) with z | z | z
    · rw [if_pos z]
      exact ⟨_, rfl, rfl⟩
    · rw [if_neg (p_ge z (by omega))]
      by_cases z2 : nI r ≤ a
      · rw [if_pos z2]
        exact ⟨_, rfl, rfl⟩
      · rw [if_neg z2]
        by_cases z3 : a < 20
        · exfalso
          have w1 := Int32.le_iff_toInt_le.mp z
          have w2 := Int32.lt_iff_toInt_lt.mp z3
          have w3 : ¬ (nI r).toInt ≤ a.toInt := fun w => z2 (Int32.le_iff_toInt_le.mpr w)
          rw [nI_toInt (by omega)] at w1 w3
          have w4 : (20 : Int32).toInt = 20 := by decide
          omega
        · rw [if_neg z3]
          exact ⟨_, rfl, rfl⟩
    · exact absurd z q2
  · rw [q1, if_neg (nI_pos (by omega)), if_neg (nI_ge (by omega) (by omega)), if_pos (show nI k < (20 : Int32) from nI_lt (b := 20) (by omega) (by decide)), p_in (by omega) (by decide), if_neg i10, if_pos rfl, if_pos rfl, nI_clamp (by omega), r3 k (by omega)]
    exact ⟨_, rfl, rfl⟩
theorem p_St.okkind {g : c_G} {s : Nat} {m : Nat → Int32} (h : p_St g s m) {i : Nat} (hi : i < 6) : p_N (m (24 + 9 * i)) 7 := by
  have z := h.2.2.1.1 (24 + 9 * i) (by omega)
  unfold p_ok at z
  rwa [if_neg (by omega), if_pos (by omega), if_pos (by omega)] at z
theorem e_taken {gC gM : c_G} (h : p_R gC gM) (a b : Int32) : p_Er (fX11_taken gC a b) (fX12_taken gM a b) := by
  obtain ⟨n, hs, h1, h2, -, -, -, -, -, ⟨-, -, -, ks, -⟩, -⟩ := id h
  obtain ⟨c9, hc, e1, e2⟩ := hs.many
  unfold fX11_taken fX12_taken
  rcases e_isInK b (n := 7) (by decide) 6 rfl with ⟨q3, q4⟩ | ⟨q3, k, hk, rfl⟩
  · simp only [q3, ↓reduceIte]
    rcases e_lo (by decide) q4 with q | q
    · simp only [q, ↓reduceIte]
      exact ⟨_, rfl, rfl⟩
    · simp only [show ¬ b < 0 from p_ge q (by decide), show ¬ b < (7 : Int32) from p_nlo (n := 7) q (by decide), ↓reduceIte]
      exact ⟨_, rfl, rfl⟩
  · simp only [q3, i10, nI_pos (show k < 2 ^ 31 by omega), show nI k < (7 : Int32) from nI_lt (b := 7) hk (by decide), ↓reduceIte]
    rcases e_child hc e1 e2 a with ⟨q1, q2, -⟩ | ⟨q1, q2, i, hi, rfl⟩
    · simp only [q1, q2, Option.bind_some, ↓reduceIte]
      exact ⟨_, rfl, rfl⟩
    · have hi6 : i < 6 := by omega
      obtain ⟨z, hz, ez⟩ := hs.okkind hi6
      have ezc : gC.1 60 i = nI z := by rw [← ez, hs.1, p_al_kind _ _ hi6]
      have ab : ∀ j, j < 7 → gM.1 15 j = ([-1, 0, 0, 0, 1, 2, 3] : List Int32).getD j 0 := ks
      have b0 : gM.1 15 0 = -1 := ab 0 (by decide)
      have b1 : gM.1 15 1 = 0 := ab 1 (by decide)
      have b2 : gM.1 15 2 = 0 := ab 2 (by decide)
      have b3 : gM.1 15 3 = 0 := ab 3 (by decide)
      have b4 : gM.1 15 4 = 1 := ab 4 (by decide)
      have b5 : gM.1 15 5 = 2 := ab 5 (by decide)
      have b6 : gM.1 15 6 = 3 := ab 6 (by decide)
      simp only [q1, q2, i10, Option.bind_some, p_in hi6 (by decide), nI_clamp (show i < 2 ^ 31 by omega), e_one gM hi6 0 (by decide) 0 rfl, Nat.add_zero, ez, ezc, p_in hz (by decide), nI_clamp (show z < 2 ^ 31 by omega), ↓reduceIte]
      have step : ∀ (F : Nat) (x3 : Int32), fX12_taken_31 (nI i) (nI k) (F + 1) (nI i) (nI k) x3 gM = if x3 = -1 then some (-12) else if x3 = nI k then some (nI z) else if c_in x3 7 = true then fX12_taken_31 (nI i) (nI k) F (nI i) (nI k) (gM.1 15 x3.toNatClampNeg) gM else none := by
        intro F x3
        rw [fX12_taken_31]
        unfold fX12_taken_51
        simp only [e_one gM hi6 0 (by decide) 0 rfl, Nat.add_zero, ez, Option.bind_some]
        by_cases y : x3 = -1
        · subst y
          rw [if_pos rfl, if_pos rfl, if_neg (fun w => p_mN (show k < 2 ^ 31 by omega) w.symm)]
        · rw [if_neg y, if_neg y]
          by_cases y2 : x3 = nI k
          · rw [if_pos y2, if_pos y2, if_pos y2]
          · rw [if_neg y2, if_neg y2]
      have c5 : c_F = 4996 + 1 + 1 + 1 + 1 := rfl
      rw [c5, step, step, step, step]
      rcases (show z = 0 ∨ z = 1 ∨ z = 2 ∨ z = 3 ∨ z = 4 ∨ z = 5 ∨ z = 6 by omega) with rfl | rfl | rfl | rfl | rfl | rfl | rfl <;>
        rcases (show k = 0 ∨ k = 1 ∨ k = 2 ∨ k = 3 ∨ k = 4 ∨ k = 5 ∨ k = 6 by omega) with rfl | rfl | rfl | rfl | rfl | rfl | rfl <;>
        simp [nI, c_abv, c_in, b0, b1, b2, b3, b4, b5, b6, p_Er]
