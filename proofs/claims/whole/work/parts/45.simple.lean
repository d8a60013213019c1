/-! PURE: more plain calls -/
theorem i10 : ¬ (1 : Int32) = 0 := by decide
def p_Er {α : Type} (x y : Option α) : Prop := ∃ r, x = some r ∧ y = some r
theorem p_R.same {gC gM : c_G} (h : p_R gC gM) (r : Int32) : p_Eq (some (gC, r)) (some (gM, r)) := ⟨gC, gM, r, rfl, rfl, h⟩
theorem e_tail {gC gM : c_G} {n : Nat} (hs : p_St gC 55 (gM.1 1)) (h1 : p_Age (gM.1 1)) (h2 : p_Rule n (gM.1 1)) (h3 : p_Rest gC gM n) : p_R gC gM := ⟨n, hs, h1, h2, h3⟩
theorem e_setc {gC gM : c_G} (h : p_R gC gM) (a b c : Int32) : p_Eq (fX11_set gC a b c) (fX12_set gM a b c) := by
  obtain ⟨n, hs, h1, h2, h3⟩ := id h
  unfold fX11_set fX12_set
  rcases e_elder a with ⟨q1, q2, -⟩ | ⟨q1, q2, e, he, rfl⟩
  · simp only [q1, q2, ↓reduceIte]
    exact h.same _
  · simp only [q1, q2, i10, ↓reduceIte]
    rcases e_isInK b (n := 2) (by decide) 1 rfl with ⟨q3, q4⟩ | ⟨q3, k, hk, rfl⟩
    · simp only [q3, ↓reduceIte]
      rcases e_lo (by decide) q4 with q | q
      · simp only [q, ↓reduceIte]
        exact h.same _
      · have c1 : ¬ b < 0 := p_ge q (by decide)
        have c2 : ¬ b ≤ 1 := p_ltge (n := 2) q (k := 1) (by decide) (by decide)
        simp only [c1, c2, ↓reduceIte]
        exact h.same _
    · simp only [q3, i10, ↓reduceIte]
      rcases (show k = 0 ∨ k = 1 by omega) with rfl | rfl
      · simp only [show ¬ nI 0 < 0 by decide, show nI 0 ≤ (1 : Int32) by decide, show nI 0 = (0 : Int32) from rfl, ↓reduceIte]
        unfold fX11_set_33 fX12_set_30
        rcases e_isInK c (n := 10) (by decide) 9 rfl with ⟨q5, q6⟩ | ⟨q5, q6⟩
        · simp only [q5, ↓reduceIte]
          rcases e_lo (by decide) q6 with q | q
          · simp only [q, ↓reduceIte]
            exact h.same _
          · simp only [show ¬ c < 0 from p_ge q (by decide), show ¬ c ≤ 9 from p_ltge (n := 10) q (k := 9) (by decide) (by decide), ↓reduceIte]
            exact h.same _
        · obtain ⟨z, hz, rfl⟩ := id q6
          simp only [q5, i10, show ¬ nI z < 0 from nI_pos (by omega), show nI z ≤ (9 : Int32) from nI_le (b := 9) (by omega) (by decide), ↓reduceIte]
          unfold fX11_set_60 fX12_set_51
          have e1 : (4 : Int32) * nI e + (0 : Int32) = nI (4 * e) := e_atE (c := e) (f := 0) 0 rfl
          simp only [show c_ia TC 56 = some 6 from rfl, Option.bind_some, c_let, e1, p_in he (by decide), p_in (show 4 * e < 136 by omega) (by decide), nI_clamp (show e < 2 ^ 31 by omega), nI_clamp (show 4 * e < 2 ^ 31 by omega), ↓reduceIte]
          refine ⟨_, _, _, rfl, ?_, p_R.put h1 h2 h3 (p_pt_look hs he q6) (by decide) (by decide) (by omega) (fun _ _ => by omega) (by omega)⟩
          rw [hs.1, p_al_look _ _ he]
      · simp only [show ¬ nI 1 < 0 by decide, show nI 1 ≤ (1 : Int32) by decide, show ¬ nI 1 = (0 : Int32) by decide, ↓reduceIte]
        unfold fX11_set_33 fX12_set_30
        rcases e_isInK c (n := 2) (by decide) 1 rfl with ⟨q5, q6⟩ | ⟨q5, q6⟩
        · simp only [q5, ↓reduceIte]
          rcases e_lo (by decide) q6 with q | q
          · simp only [q, ↓reduceIte]
            exact h.same _
          · simp only [show ¬ c < 0 from p_ge q (by decide), show ¬ c ≤ 1 from p_ltge (n := 2) q (k := 1) (by decide) (by decide), ↓reduceIte]
            exact h.same _
        · obtain ⟨z, hz, rfl⟩ := id q6
          simp only [q5, i10, show ¬ nI z < 0 from nI_pos (by omega), show nI z ≤ (1 : Int32) from nI_le (b := 1) (by omega) (by decide), show ¬ nI 1 = (0 : Int32) by decide, ↓reduceIte]
          unfold fX11_set_60 fX12_set_51
          have e1 : (4 : Int32) * nI e + (3 : Int32) = nI (4 * e + 3) := e_atE (c := e) (f := 3) 3 rfl
          simp only [show c_ia TC 59 = some 6 from rfl, Option.bind_some, c_let, e1, p_in he (by decide), p_in (show 4 * e + 3 < 136 by omega) (by decide), nI_clamp (show e < 2 ^ 31 by omega), nI_clamp (show 4 * e + 3 < 2 ^ 31 by omega), ↓reduceIte]
          refine ⟨_, _, _, rfl, ?_, p_R.put h1 h2 h3 (p_pt_hid hs he q6) (by decide) (by decide) (by omega) (fun _ _ => by omega) (by omega)⟩
          rw [hs.1, p_al_hid _ _ he]
/-- a write in the state, the other parts as they were -/
theorem p_R.step {gC gM gC' gM' : c_G} {n : Nat} (h3 : p_Rest gC gM n) (hs : p_St gC' 55 (gM'.1 1)) (h1 : p_Age (gM'.1 1)) (h2 : p_Rule n (gM'.1 1)) (hC : p_fC gC gC') (hM : p_fM gM gM') : p_R gC' gM' := ⟨n, hs, h1, h2, h3.fr hC hM⟩
theorem p_st_fC {g : c_G} {a j : Nat} {v : Int32} (h1 : 55 ≤ a) (h2 : a < 78) : p_fC g (c_si g a j v) := p_fC.si (by
  simp only [p_scC, Bool.or_eq_true, Bool.and_eq_true, beq_iff_eq, decide_eq_true_eq]
  omega)
theorem p_O_m1 {n : Nat} : p_O (-1) n := Or.inl rfl
theorem p_or_al {x : Int32} (h : ¬ x = -1) : x = p_or (p_un x) := (p_or_un h).symm
theorem p_St.nameC {g : c_G} {s : Nat} {m : Nat → Int32} (h : p_St g s m) {e : Nat} (he : e < 6) : g.1 (s + 2) e = p_or (m (4 * e + 1)) := by
  have h1 : ¬ g.1 (s + 2) e = -1 := by
    rcases (show e = 0 ∨ e = 1 ∨ e = 2 ∨ e = 3 ∨ e = 4 ∨ e = 5 by omega) with rfl | rfl | rfl | rfl | rfl | rfl
    · exact h.2.1 1 (by decide) rfl
    · exact h.2.1 5 (by decide) rfl
    · exact h.2.1 9 (by decide) rfl
    · exact h.2.1 13 (by decide) rfl
    · exact h.2.1 17 (by decide) rfl
    · exact h.2.1 21 (by decide) rfl
  rw [h.1, p_al_name _ _ he, p_or_un h1]
theorem p_St.byC {g : c_G} {s : Nat} {m : Nat → Int32} (h : p_St g s m) {e : Nat} (he : e < 6) : g.1 (s + 3) e = p_or (m (4 * e + 2)) := by
  have h1 : ¬ g.1 (s + 3) e = -1 := by
    rcases (show e = 0 ∨ e = 1 ∨ e = 2 ∨ e = 3 ∨ e = 4 ∨ e = 5 by omega) with rfl | rfl | rfl | rfl | rfl | rfl
    · exact h.2.1 2 (by decide) rfl
    · exact h.2.1 6 (by decide) rfl
    · exact h.2.1 10 (by decide) rfl
    · exact h.2.1 14 (by decide) rfl
    · exact h.2.1 18 (by decide) rfl
    · exact h.2.1 22 (by decide) rfl
  rw [h.1, p_al_by _ _ he, p_or_un h1]
theorem p_St.basketC {g : c_G} {s : Nat} {m : Nat → Int32} (h : p_St g s m) {i : Nat} (hi : i < 6) : g.1 (s + 9) i = p_or (m (24 + 9 * i + 4)) := by
  have h1 : ¬ g.1 (s + 9) i = -1 := by
    rcases (show i = 0 ∨ i = 1 ∨ i = 2 ∨ i = 3 ∨ i = 4 ∨ i = 5 by omega) with rfl | rfl | rfl | rfl | rfl | rfl
    · exact h.2.1 28 (by decide) rfl
    · exact h.2.1 37 (by decide) rfl
    · exact h.2.1 46 (by decide) rfl
    · exact h.2.1 55 (by decide) rfl
    · exact h.2.1 64 (by decide) rfl
    · exact h.2.1 73 (by decide) rfl
  rw [h.1, p_al_basket _ _ hi, p_or_un h1]
/-- an elder's name is taken away, in the state at s -/
theorem p_St.forget {g : c_G} {s : Nat} {m : Nat → Int32} (h : p_St g s m) {e : Nat} (he : e < 6) : p_St (c_si (c_si g (s + 2) e (-5)) (s + 3) e (-5)) s (upd (upd m (4 * e + 1) (-1)) (4 * e + 2) (-1)) := by
  have h1 := p_pt_name h (v := -5) he p_O_m1 (by decide)
  exact p_pt_by h1 (v := -5) he p_O_m1 (by decide)
theorem e_unname (g : c_G) {s e : Nat} (hsS : c_isS s = true) (he : e < 6) : fX7_unname g s (nI e) = some (c_si (c_si g (s + 2) e (-5)) (s + 3) e (-5)) := by
  unfold fX7_unname
  simp only [hsS, p_in he (by decide), nI_clamp (show e < 2 ^ 31 by omega), c_let, ↓reduceIte]
theorem e_forgets (g : c_G) {e : Nat} (he : e < 6) : fX12_forgets g (nI e) = some (c_si (c_si g 1 (4 * e + 1) (-1)) 1 (4 * e + 2) (-1)) := by
  unfold fX12_forgets
  simp only [e_atE (c := e) (f := 1) 1 rfl, e_atE (c := e) (f := 2) 2 rfl, p_in (show 4 * e + 1 < 136 by omega) (by decide), p_in (show 4 * e + 2 < 136 by omega) (by decide), nI_clamp (show 4 * e + 1 < 2 ^ 31 by omega), nI_clamp (show 4 * e + 2 < 2 ^ 31 by omega), c_let, ↓reduceIte]
theorem e_forget {gC gM : c_G} (h : p_R gC gM) (a : Int32) : p_Eq (fX11_forget gC a) (fX12_forget gM a) := by
  obtain ⟨n, hs, h1, h2, h3⟩ := id h
  unfold fX11_forget fX12_forget
  rcases e_elder a with ⟨q1, q2, -⟩ | ⟨q1, q2, e, he, rfl⟩
  · simp only [q1, q2, ↓reduceIte]
    exact h.same _
  · simp only [q1, q2, i10, p_in he (by decide), e_unname gC (s := 55) rfl he, e_of gM he 1 (by decide) 1 rfl, e_forgets gM he, Option.bind_some, nI_clamp (show e < 2 ^ 31 by omega), ↓reduceIte]
    have hM : p_fM gM (c_si (c_si gM 1 (4 * e + 1) (-1)) 1 (4 * e + 2) (-1)) := (p_fM.si rfl).tr (p_fM.si rfl)
    have hC : p_fC gC (c_si (c_si gC (55 + 2) e (-5)) (55 + 3) e (-5)) := (p_st_fC (by decide) (by decide)).tr (p_st_fC (by decide) (by decide))
    refine ⟨_, _, _, rfl, ?_, p_R.step h3 ?_ ?_ ?_ hC hM⟩
    · rw [e_never, ← hs.nameC he]
    · rw [e_up, e_up]; exact hs.forget he
    · rw [e_up, e_up]; exact (h1.upd (by omega) (fun _ _ => by omega)).upd (by omega) (fun _ _ => by omega)
    · rw [e_up, e_up]; exact (h2.upd (by omega)).upd (by omega)
theorem e_isInM (x : Int32) {n : Nat} (hn : n < 100000) (hi : Int32) (e : hi = nI n - 1) : (fX12_isIn x (-1) hi = 0 ∧ ¬ x = -1 ∧ ¬ p_N x n) ∨ (fX12_isIn x (-1) hi = 1 ∧ (x = -1 ∨ p_N x n)) := by
  subst e
  have e1 : (nI n - 1).toInt = (n : Int) - 1 := pk_sub_toInt (a := n) (b := 1) (by omega) (by omega)
  have em : (-1 : Int32).toInt = -1 := by decide
  unfold fX12_isIn
  by_cases q : x = -1
  · subst q
    refine Or.inr ⟨?_, Or.inl rfl⟩
    rw [if_neg (by decide), if_neg]
    intro q
    have h1 := Int32.lt_iff_toInt_lt.mp q
    omega
  · rcases p_ix x (n := n) (by omega) with h | h | ⟨k, hk, rfl⟩
    · refine Or.inl ⟨?_, q, fun ⟨k, hk, e⟩ => p_neg h k (by omega) e⟩
      rw [if_pos]
      have h1 := Int32.lt_iff_toInt_lt.mp h
      have h2 : ¬ x.toInt = -1 := fun z => q (Int32.toInt_inj.mp (by rw [z]; exact em.symm))
      have h3 : (0 : Int32).toInt = 0 := rfl
      exact Int32.lt_iff_toInt_lt.mpr (by omega)
    · refine Or.inl ⟨?_, q, fun ⟨k, hk, e⟩ => ?_⟩
      · have h1 := Int32.le_iff_toInt_le.mp h
        rw [nI_toInt (by omega)] at h1
        rw [if_neg (fun z => by have := Int32.lt_iff_toInt_lt.mp z; omega), if_pos]
        exact Int32.lt_iff_toInt_lt.mpr (by omega)
      · subst e
        exact nI_ge hk (by omega) h
    · refine Or.inr ⟨?_, Or.inr ⟨k, hk, rfl⟩⟩
      rw [if_neg (fun z => by have := Int32.lt_iff_toInt_lt.mp z; rw [nI_toInt (by omega)] at this; omega), if_neg]
      intro z
      have h1 := Int32.lt_iff_toInt_lt.mp z
      rw [nI_toInt (by omega)] at h1
      omega
theorem p_m1N {n : Nat} (hn : n < 2 ^ 31) : ¬ p_N (-1) n := fun ⟨k, hk, e⟩ => p_neg (by decide : (-1 : Int32) < 0) k (by omega) e
theorem e_basket {gC gM : c_G} (h : p_R gC gM) (a b : Int32) : p_Eq (fX11_basket gC a b) (fX12_basket gM a b) := by
  obtain ⟨n, hs, h1, h2, h3⟩ := id h
  obtain ⟨c, hc, e1, e2⟩ := hs.many
  unfold fX11_basket fX12_basket
  rcases e_child hc e1 e2 a with ⟨q1, q2, -⟩ | ⟨q1, q2, i, hi, rfl⟩
  · simp only [q1, q2, Option.bind_some, ↓reduceIte]
    exact h.same _
  · have hi6 : i < 6 := by omega
    simp only [q1, q2, Option.bind_some, i10, ↓reduceIte]
    rcases e_isInM b (n := 6) (by decide) 5 rfl with ⟨q3, q4, q5⟩ | ⟨q3, rfl | q5⟩
    · rcases e_elder b with ⟨q6, -, -⟩ | ⟨-, -, q6⟩
      · simp only [q3, q4, q6, ↓reduceIte]
        exact h.same _
      · exact absurd q6 q5
    · unfold fX11_basket_22 fX11_basket_50
      simp only [q3, i10, p_in hi6 (by decide), nI_clamp (show i < 2 ^ 31 by omega), e_change gM hi6 4 (by decide) 4 rfl, c_b2, c_let, Option.bind_some, show ¬ (0 : Int32) ≤ -1 by decide, ↓reduceIte]
      refine ⟨_, _, _, rfl, ?_, p_R.put h1 h2 h3 (p_pt_basket hs (v := -5) hi6 p_O_m1 (by decide)) (by decide) (by decide) (by omega) (fun _ _ => by omega) (by omega)⟩
      rw [e_never, ← hs.basketC hi6]
      rfl
    · obtain ⟨k, hk, rfl⟩ := id q5
      have hne : ¬ nI k = -1 := fun z => p_m1N (n := 6) (by decide) ⟨k, hk, z.symm⟩
      rcases e_elder (nI k) with ⟨-, -, q6⟩ | ⟨q6, -, -⟩
      · exact absurd q5 q6
      · unfold fX11_basket_22 fX11_basket_50
        simp only [q3, q6, i10, hne, p_in hi6 (by decide), nI_clamp (show i < 2 ^ 31 by omega), e_change gM hi6 4 (by decide) 4 rfl, c_b2, c_let, Option.bind_some, show (0 : Int32) ≤ nI k from nI_pos' (by omega), ↓reduceIte]
        have hp : p_un (nI k) = nI k := p_un_nI (by omega)
        have hst := p_pt_basket hs (v := nI k) hi6 (by rw [hp]; exact Or.inr q5) hne
        rw [hp] at hst
        refine ⟨_, _, _, rfl, ?_, p_R.put h1 h2 h3 hst (by decide) (by decide) (by omega) (fun _ _ => by omega) (by omega)⟩
        rw [e_never, ← hs.basketC hi6]
theorem e_row {gC gM : c_G} (h : p_R gC gM) (a b c : Int32) : p_Eq (fX11_row gC a b c) (fX12_row gM a b c) := by
  obtain ⟨n, hs, h1, h2, h3⟩ := id h
  obtain ⟨c9, hc, e1, e2⟩ := hs.many
  unfold fX11_row fX12_row
  rcases e_child hc e1 e2 a with ⟨q1, q2, -⟩ | ⟨q1, q2, i, hi, rfl⟩
  · simp only [q1, q2, Option.bind_some, ↓reduceIte]
    exact h.same _
  · have hi6 : i < 6 := by omega
    simp only [q1, q2, Option.bind_some, i10, ↓reduceIte]
    rcases e_isInK b (n := 4) (by decide) 3 rfl with ⟨q3, q4⟩ | ⟨q3, k, hk, rfl⟩
    · simp only [q3, ↓reduceIte]
      rcases e_lo (by decide) q4 with q | q
      · simp only [q, ↓reduceIte]
        exact h.same _
      · simp only [show ¬ b < 0 from p_ge q (by decide), show ¬ b < (4 : Int32) from fun z => by have z1 := Int32.lt_iff_toInt_lt.mp z; have z2 := Int32.le_iff_toInt_le.mp q; rw [nI_toInt (by decide)] at z2; have z3 : (4 : Int32).toInt = 4 := (by decide); omega, ↓reduceIte]
        exact h.same _
    · simp only [q3, i10, show ¬ nI k < 0 from nI_pos (by omega), show nI k < (4 : Int32) from nI_lt (b := 4) hk (by decide), ↓reduceIte]
      rcases e_digit c with ⟨q5, q6, -⟩ | ⟨q5, q6, q7⟩
      · simp only [q5, q6, ↓reduceIte]
        exact h.same _
      · have ek : gC.1 60 i = gM.1 1 (24 + 9 * i) := by rw [hs.1, p_al_kind _ _ hi6]
        simp only [q5, q6, i10, p_in hi6 (by decide), nI_clamp (show i < 2 ^ 31 by omega), e_one gM hi6 0 (by decide) 0 rfl, Option.bind_some, Nat.add_zero, ek, ↓reduceIte]
        by_cases q8 : gM.1 1 (24 + 9 * i) = 6
        · have e4 : nI i * (4 : Int32) + nI k = nI (4 * i + k) := by
            show nI i * nI 4 + nI k = _
            rw [pk_mul, nI_add, Nat.mul_comm]
          have e5 : (5 : Int32) + nI k = nI (5 + k) := nI_add 5 k
          simp only [q8, e4, p_in (show 4 * i + k < 24 by omega) (by decide), nI_clamp (show 4 * i + k < 2 ^ 31 by omega), e_change gM hi6 (5 + k) (by omega) ((5 : Int32) + nI k) e5, c_b2, c_let, Option.bind_some, ↓reduceIte]
          refine ⟨_, _, _, rfl, ?_, p_R.put h1 h2 h3 (p_pt_row hs hi6 hk q7) (by decide) (by decide) (by omega) (fun _ _ => by omega) (by omega)⟩
          rw [hs.1, p_al_row _ _ hi6 hk]
        · simp only [q8, ↓reduceIte]
          exact h.same _
theorem e_count {gC gM : c_G} (h : p_R gC gM) (a : Int32) : p_Er (fX11_count gC a) (fX12_count gM a) := by
  obtain ⟨n, hs, h1, h2, ⟨-, v1, v2, -⟩, -, ⟨t, -, t1, t2, -⟩, ⟨r, -, r1, r2, -⟩, -⟩ := h
  have a1 : gM.1 1 78 = gC.1 55 6 := hs.1 78
  have a2 : gM.1 1 82 = gC.1 66 3 := hs.1 82
  have a3 : gM.1 1 98 = gC.1 70 3 := hs.1 98
  have a4 : gM.1 1 119 = gC.1 74 3 := hs.1 119
  unfold fX11_count fX12_count
  rw [a1, a2, a3, a4, v1, v2, t1, t2, r1, r2]
  repeat' split
  all_goals exact ⟨_, rfl, rfl⟩
