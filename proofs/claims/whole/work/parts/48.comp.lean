/-! PURE: the parts of what is between the two heaps, each by what it looks at -/
theorem p_Vs.eq {gC gM gC' gM' : c_G} {n : Nat} (h : p_Vs gC gM n) (c1 : ∀ a, 27 ≤ a → a < 55 → gC'.1 a = gC.1 a) (c2 : gC'.1 0 4 = gC.1 0 4) (m1 : gM'.1 0 8 = gM.1 0 8) (m2 : gM'.1 5 = gM.1 5) (m3 : gM'.1 6 = gM.1 6) : p_Vs gC' gM' n := by
  obtain ⟨hn, v1, v2, hv', v3, v4⟩ := h
  refine ⟨hn, by rw [c2]; exact v1, by rw [m1]; exact v2, fun k hk => ?_, by rw [c1 51 (by omega) (by omega)]; exact v3, by rw [c1 51 (by omega) (by omega)]; exact v4⟩
  obtain ⟨q, W, L, a1, a2, a3, a4, a5, st, b1, b2, b3, b4⟩ := hv' k hk
  refine ⟨q, W, L, a1, by rw [m3]; exact a2, by rw [m2]; exact a3, by rw [c1 _ (by omega) (by omega)]; exact a4, a5, st, b1, ?_, ?_, ?_⟩
  · rw [c1 _ (by omega) (by omega)]; exact b2
  · rw [c1 _ (by omega) (by omega), c1 (27 + 4 * k + 2) (by omega) (by omega)]; exact b3
  · rw [c1 _ (by omega) (by omega), c1 (27 + 4 * k + 2) (by omega) (by omega), c1 (27 + 4 * k + 3) (by omega) (by omega)]; exact b4
theorem p_Im.eq {gC gM gC' gM' : c_G} {n : Nat} (h : p_Im gC gM n) (c1 : ∀ a, 78 ≤ a → a < 78 + 23 → gC'.1 a = gC.1 a) (c2 : gC'.1 0 8 = gC.1 0 8) (c3 : gC'.2.2 78 = gC.2.2 78) (m1 : gM'.1 0 3 = gM.1 0 3) (m2 : gM'.1 3 = gM.1 3) : p_Im gC' gM' n := by
  rcases h with ⟨i1, i2⟩ | ⟨i1, i2, m, i6, i3, i4, i5⟩
  · exact Or.inl ⟨by rw [c2]; exact i1, by rw [m1]; exact i2⟩
  · exact Or.inr ⟨by rw [c2]; exact i1, by rw [m1]; exact i2, m, by rw [m2]; exact i6, i3.eq c1 c3, i4, i5⟩
theorem p_Tx.eq {gC gM gC' gM' : c_G} (h : p_Tx gC gM) (c1 : gC'.1 1 = gC.1 1) (c2 : gC'.1 0 2 = gC.1 0 2) (m1 : gM'.1 4 = gM.1 4) (m2 : gM'.1 0 5 = gM.1 0 5) : p_Tx gC' gM' := by
  obtain ⟨t, t1, t2, t3, t4⟩ := h
  exact ⟨t, t1, by rw [c2]; exact t2, by rw [m2]; exact t3, by rw [c1, m1]; exact t4⟩
theorem p_Acm.eq {gC gM gC' gM' : c_G} (h : p_Acm gC gM) (c1 : gC'.1 9 = gC.1 9) (c2 : gC'.1 8 2 = gC.1 8 2) (m1 : gM'.1 17 = gM.1 17) (m2 : gM'.1 0 27 = gM.1 0 27) : p_Acm gC' gM' := by
  obtain ⟨r, r0, r1, r2, r3⟩ := h
  exact ⟨r, r0, by rw [c2]; exact r1, by rw [m2]; exact r2, by rw [c1, m1]; exact r3⟩
theorem p_Tp.eq {gC gM gC' gM' : c_G} {t : Nat} (h : p_Tp gC gM t) (c1 : gC'.1 10 t = gC.1 10 t) (c2 : gC'.1 11 t = gC.1 11 t) (m1 : gM'.1 18 t = gM.1 18 t) (m2 : gM'.1 19 t = gM.1 19 t) (c3 : gC'.2.1 (13 + t) = gC.2.1 (13 + t)) (m3 : ∀ j, j < 60 → gM'.2.1 20 (60 * t + j) = gM.2.1 20 (60 * t + j)) : p_Tp gC' gM' t := by
  unfold p_Tp at h ⊢
  rw [c1, c2, c3, m1, m2]
  rcases h with h | ⟨so, n, h1, h2, h3, h4, h5, h6, h7⟩
  · exact Or.inl h
  · exact Or.inr ⟨so, n, h1, h2, h3, h4, h5, h6, fun j hj => by rw [m3 j hj]; exact h7 j hj⟩
theorem p_Ks.eq {gM gM' : c_G} (h : p_Ks gM) (m1 : gM'.1 9 = gM.1 9) (m2 : gM'.1 10 = gM.1 10) (m3 : gM'.1 11 = gM.1 11) (m4 : gM'.1 15 = gM.1 15) : p_Ks gM' := by
  obtain ⟨k1, k2, k3, k4, k5⟩ := h
  exact ⟨by rw [m1]; exact k1, by rw [m2]; exact k2, by rw [m3]; exact k3, by rw [m4]; exact k4, fun _ _ => rfl⟩
theorem p_Kb.eq {gM gM' : c_G} (h : p_Kb gM) (m1 : gM'.1 16 = gM.1 16) : p_Kb gM' := by
  unfold p_Kb
  rw [m1]
  exact h
/-- the ints as they were: only longs change -/
theorem p_R.longs {gC gM gC' gM' : c_G} (h : p_R gC gM) (c1 : gC'.1 = gC.1) (c2 : gC'.2.2 = gC.2.2) (m1 : gM'.1 = gM.1) (hT : ∀ t, t < 6 → p_Tp gC' gM' t) : p_R gC' gM' := by
  obtain ⟨n, hs, h1, h2, hv, hi, hx, ha, -, hk, hb⟩ := h
  refine ⟨n, ?_, by rw [m1]; exact h1, by rw [m1]; exact h2, hv.eq (fun a _ _ => by rw [c1]) (by rw [c1]) (by rw [m1]) (by rw [m1]) (by rw [m1]), hi.eq (fun a _ _ => by rw [c1]) (by rw [c1]) (by rw [c2]) (by rw [m1]) (by rw [m1]), hx.eq (by rw [c1]) (by rw [c1]) (by rw [m1]) (by rw [m1]), ha.eq (by rw [c1]) (by rw [c1]) (by rw [m1]) (by rw [m1]), hT, hk.eq (by rw [m1]) (by rw [m1]) (by rw [m1]) (by rw [m1]), hb.eq (by rw [m1])⟩
  rw [m1]
  exact hs.eq (fun a _ _ => by rw [c1]) (by rw [c2])
/-- what the tapes are told by changes -/
theorem p_R.tapes {gC gM gC' gM' : c_G} (h : p_R gC gM) (c1 : ∀ a, a ≠ 10 → a ≠ 11 → gC'.1 a = gC.1 a) (c2 : gC'.2.2 = gC.2.2) (m1 : ∀ a, a ≠ 18 → a ≠ 19 → gM'.1 a = gM.1 a) (hT : ∀ t, t < 6 → p_Tp gC' gM' t) : p_R gC' gM' := by
  obtain ⟨n, hs, h1, h2, hv, hi, hx, ha, -, hk, hb⟩ := h
  have m0 := m1 0 (by decide) (by decide)
  have c0 := c1 0 (by decide) (by decide)
  refine ⟨n, ?_, by rw [m1 1 (by decide) (by decide)]; exact h1, by rw [m1 1 (by decide) (by decide)]; exact h2, hv.eq (fun a _ _ => c1 a (by omega) (by omega)) (by rw [c0]) (by rw [m0]) (m1 5 (by decide) (by decide)) (m1 6 (by decide) (by decide)), hi.eq (fun a _ _ => c1 a (by omega) (by omega)) (by rw [c0]) (by rw [c2]) (by rw [m0]) (m1 3 (by decide) (by decide)), hx.eq (c1 1 (by decide) (by decide)) (by rw [c0]) (m1 4 (by decide) (by decide)) (by rw [m0]), ha.eq (c1 9 (by decide) (by decide)) (by rw [c1 8 (by decide) (by decide)]) (m1 17 (by decide) (by decide)) (by rw [m0]), hT, hk.eq (m1 9 (by decide) (by decide)) (m1 10 (by decide) (by decide)) (m1 11 (by decide) (by decide)) (m1 15 (by decide) (by decide)), hb.eq (m1 16 (by decide) (by decide))⟩
  rw [m1 1 (by decide) (by decide)]
  exact hs.eq (fun a _ _ => c1 a (by omega) (by omega)) (by rw [c2])
theorem p_R.rest {gC gM : c_G} (h : p_R gC gM) : ∃ n, p_Rest gC gM n := by
  obtain ⟨n, _, _, _, h⟩ := h
  exact ⟨n, h⟩
theorem p_R.tp {gC gM : c_G} (h : p_R gC gM) {t : Nat} (ht : t < 6) : p_Tp gC gM t := by
  obtain ⟨n, -, -, -, -, -, -, -, h, -⟩ := h
  exact h t ht
/-! PURE: tapes -/
theorem e_at60 {t j : Nat} : (60 : Int32) * nI t + nI j = nI (60 * t + j) := by
  show nI 60 * nI t + nI j = _
  rw [pk_mul, nI_add]
theorem p_nlo {x : Int32} {n : Nat} (h : nI n ≤ x) (hn : n < 2 ^ 31) : ¬ x < nI n := by
  intro q
  have h1 := Int32.le_iff_toInt_le.mp h
  have h2 := Int32.lt_iff_toInt_lt.mp q
  omega
theorem p_ltn {x : Int32} (h : x < 0) {n : Nat} (hn : n < 2 ^ 31) : x < nI n := by
  have h1 := Int32.lt_iff_toInt_lt.mp h
  have h3 : (0 : Int32).toInt = 0 := rfl
  refine Int32.lt_iff_toInt_lt.mpr ?_
  rw [nI_toInt hn]
  omega
theorem e_read {gC gM : c_G} (h : p_R gC gM) (a b : Int32) : p_Er (fX11_read gC a b) (fX12_read gM a b) := by
  unfold fX11_read fX12_read
  rcases e_tape a with ⟨q1, q2, -⟩ | ⟨q1, q2, t, ht, rfl⟩
  · simp only [q1, q2, ↓reduceIte]
    exact ⟨_, rfl, rfl⟩
  · simp only [q1, q2, i10, p_in ht (by decide), nI_clamp (show t < 2 ^ 31 by omega), ↓reduceIte]
    rcases h.tp ht with ⟨h1, h2, h3⟩ | ⟨so, n, h1, h2, h3, h4, h5, h6, h7⟩
    · rcases e_isIn b (n := 0) (by decide) with ⟨q3, -⟩ | ⟨-, k, hk, -⟩
      · simp only [h1, h3, ↓reduceIte, show (0 : Int32) - 1 = nI 0 - 1 from rfl, q3]
        exact ⟨_, rfl, rfl⟩
      · omega
    · simp only [h3, p_5N (show so < 2 ^ 31 by omega), h6, h5, ↓reduceIte]
      rcases e_isIn b (n := n) (by omega) with ⟨q3, q4⟩ | ⟨q3, k, hk, rfl⟩
      · rcases e_lo (by omega) q4 with z | z
        · simp only [q3, z, ↓reduceIte]
          exact ⟨_, rfl, rfl⟩
        · simp only [q3, p_ge z (by omega), p_nlo z (by omega), ↓reduceIte]
          exact ⟨_, rfl, rfl⟩
      · simp only [q3, i10, nI_pos (show k < 2 ^ 31 by omega), nI_lt hk (by omega), p_in (show k < 60 by omega) (by decide), nI_clamp (show k < 2 ^ 31 by omega), e_at60, p_in (show 60 * t + k < 360 by omega) (by decide), nI_clamp (show 60 * t + k < 2 ^ 31 by omega), ↓reduceIte]
        exact ⟨_, rfl, by rw [(h7 k (by omega)).1]⟩
