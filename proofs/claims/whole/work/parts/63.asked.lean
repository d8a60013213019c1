/-! PURE: on, elder, ends, teach's and odds' kin: what is asked -/
theorem p_nz {k : Nat} (h : k ≠ 0) (hk : k < 2 ^ 31) : ¬ nI k = 0 := fun z => h ((nI_eq (b := 0) hk (by decide)).mp z)
theorem e_on {gC gM : c_G} (h : p_R gC gM) (a b : Int32) : p_Eq (fX11_on gC a b) (fX12_on gM a b) := by
  obtain ⟨n, hs, h1, h2, h3⟩ := id h
  obtain ⟨c, hc, e1, e2⟩ := hs.many
  have key : ∀ v1 r2 : Int32, ((b = 0 ∧ v1 = 0 ∧ r2 = 0) ∨ (∃ e, e < 6 ∧ b = nI (10 + e) ∧ v1 = 1) ∨ (∃ i, i < c ∧ b = nI (20 + i) ∧ v1 = 0 ∧ r2 = 1)) → p_Eq (fX11_on_33 a b a b v1 r2 gC) (fX12_on_27 a b a b gM) := by
    intro v1 r2 hv
    unfold fX11_on_33 fX12_on_27
    rcases e_sundays a with ⟨q1, q2, -⟩ | ⟨q1, q2, k, hk, rfl⟩
    · rw [q1, q2]
      exact h.same _
    · rw [q1, q2, if_neg i10, if_neg i10]
      obtain ⟨W, L, g1, g2, hL, f1, f2, hT, -⟩ := q_trial h
      obtain ⟨g3, g4, f3, f4, hT2, -⟩ := hT.sundays hL (k := k) (by omega) (by omega)
      obtain ⟨g5, f5, hR, -, -⟩ := hT2.lay h
      have h78 : g4.1 1 78 = g3.1 101 6 := hT2.1.1 78
      rw [f1, f2, Option.bind_some, Option.bind_some, f3, f4, Option.bind_some, Option.bind_some]
      rcases hv with ⟨rfl, rfl, rfl⟩ | ⟨e, he, rfl, rfl⟩ | ⟨i, hi, rfl, rfl, rfl⟩
      · rw [if_pos rfl, if_pos rfl, if_pos rfl, c_named hT2.1 rfl, m_howMany, Option.bind_some, Option.bind_some]
        unfold fX12_on_95
        rw [f5, Option.bind_some]
        exact ⟨g3, g5, _, rfl, rfl, hR⟩
      · have z1 : nI (10 + e) - (10 : Int32) = nI e := by
          rw [show (10 : Int32) = nI 10 from rfl, pk_sub (by omega), show 10 + e - 10 = e by omega]
        rw [if_neg i10, if_neg (p_nz (k := 10 + e) (by omega) (by omega)), if_neg (show ¬ (20 : Int32) ≤ nI (10 + e) from nI_ge (b := 20) (by omega) (by decide)), z1, p_in he (by decide), if_pos rfl, nI_clamp (by omega), e_of g4 he 1 (by decide) 1 rfl, Option.bind_some]
        unfold fX12_on_95
        rw [f5, Option.bind_some, e_never]
        exact ⟨g3, g5, _, rfl, by rw [← hT2.1.nameC he], hR⟩
      · have hi6 : i < 6 := by omega
        have z1 : nI (20 + i) - (20 : Int32) = nI i := by
          rw [show (20 : Int32) = nI 20 from rfl, pk_sub (by omega), show 20 + i - 20 = i by omega]
        rw [if_pos rfl, if_neg i10, if_neg (p_nz (k := 20 + i) (by omega) (by omega)), if_pos (show (20 : Int32) ≤ nI (20 + i) from nI_le (a := 20) (by omega) (by omega)), z1, p_in hi6 (by decide), if_pos rfl, nI_clamp (by omega), e_one g4 hi6 2 (by decide) 2 rfl, Option.bind_some]
        unfold fX12_on_95
        rw [f5, Option.bind_some]
        exact ⟨g3, g5, _, rfl, by rw [show g3.1 108 i = g4.1 1 (24 + 9 * i + 2) by rw [hT2.1.1, p_al_knows _ _ hi6]], hR⟩
  unfold fX11_on fX12_on
  rw [c_let_d]
  rcases e_elder (b - 10) with ⟨q1, q2, q3⟩ | ⟨q1, q2, e, he, q3⟩
  · rcases e_child hc e1 e2 (b - 20) with ⟨q4, q5, q6⟩ | ⟨q4, q5, i, hi, q6⟩
    · rw [q1, q2, q4, q5, Option.bind_some, Option.bind_some, if_pos rfl, if_pos rfl, if_pos rfl, if_pos rfl]
      by_cases q : b = 0
      · rw [if_pos q, if_pos q]
        exact key 0 0 (Or.inl ⟨q, rfl, rfl⟩)
      · rw [if_neg q, if_neg q]
        exact h.same _
    · have hb := q_sub (k := 20) q6
      have q : ¬ b = 0 := fun z => by
        rw [z] at hb
        have := (nI_eq (a := 0) (by decide) (by omega)).mp hb
        omega
      rw [q1, q2, q4, q5, Option.bind_some, Option.bind_some, if_neg q, if_neg q, if_pos rfl, if_pos rfl, if_neg i10, if_neg i10]
      exact key 0 1 (Or.inr (Or.inr ⟨i, hi, hb, rfl, rfl⟩))
  · have hb := q_sub (k := 10) q3
    have q : ¬ b = 0 := fun z => by
      rw [z] at hb
      have := (nI_eq (a := 0) (by decide) (by omega)).mp hb
      omega
    have k1 : ∀ r2, p_Eq (fX11_on_33 a b a b 1 r2 gC) (fX12_on_27 a b a b gM) := fun r2 => key 1 r2 (Or.inr (Or.inl ⟨e, he, hb, rfl⟩))
    rcases e_child hc e1 e2 (b - 20) with ⟨q4, q5, -⟩ | ⟨q4, q5, -⟩
    · rw [q1, q2, q4, Option.bind_some, if_neg q, if_neg q, if_neg i10, if_neg i10]
      exact k1 0
    · rw [q1, q2, q4, Option.bind_some, if_neg q, if_neg q, if_neg i10, if_neg i10]
      exact k1 1
theorem q_sunday_80 {W : (Nat → Int32) → Int32} {L : Int32} {m : Nat → Int32} (ho : q_ok m) : q_sunday W L m 80 = m 80 + 1 := by
  obtain ⟨n, hn, en⟩ := ho.2
  obtain ⟨t1, -⟩ := q_takes_hi (W := W) n 0 m (by omega) ho
  unfold q_sunday q_end
  rw [en, nI_clamp (by omega), pk_us, q_grows_ne n 0 _ (by omega), t1 80 (by omega)]
theorem e_namedL {gC gM : c_G} (hR : p_R gC gM) {W : (Nat → Int32) → Int32} {L : Int32} (hL : p_N L 100) {e su : Nat} (he : e < 6) (hsu : su < 10000) (h5 : gC.1 55 5 = nI su) (a1 a1' : Int32) : ∀ (d n F F' : Nat) (gC1 gM1 : c_G), n + d = 60 → d < F → d + 1 < F' → q_T gC gM gC1 gM1 W L (9999 + n) → gM1.1 1 80 = nI (su + n) →
    ∃ gC2 gM2 r, fX11_sundaysTillNamed_13 a1 F (nI e) (nI n) gC1 = some (gC2, r) ∧ fX12_named_10 a1' F' (nI e) (-5) (nI n) gM1 = some (gM2, r) ∧ p_R gC2 gM2 := by
  have fin : ∀ (n : Nat) (gC1 gM1 : c_G), n ≤ 60 → q_T gC gM gC1 gM1 W L (9999 + n) → gM1.1 1 80 = nI (su + n) → fX11_sundaysTillNamed_50 a1 (nI e) gC1 = some (gC1, if gM1.1 1 (4 * e + 1) = -1 then -5 else nI n) := by
    intro n gC1 gM1 hn hT h80
    unfold fX11_sundaysTillNamed_50
    have hn2 : gC1.1 103 e = p_or (gM1.1 1 (4 * e + 1)) := hT.1.nameC he
    rw [p_in he (by decide), if_pos rfl, nI_clamp (by omega), hn2]
    by_cases q : gM1.1 1 (4 * e + 1) = -1
    · rw [if_pos ((p_or5 (by decide) (hT.1.okname he)).mpr q), if_pos q]
    · rw [if_neg (fun z => q ((p_or5 (by decide) (hT.1.okname he)).mp z)), if_neg q, show gC1.1 101 5 = nI (su + n) from (hT.1.1 80).symm.trans h80, hT.2.2.2.2.2.1 55 (by decide) (by decide), h5, pk_sub (by omega), show su + n - su = n by omega]
  have mfin : ∀ (n F : Nat) (x2 : Int32) (gC1 gM1 : c_G) (b : Nat), (¬ x2 = -5 ∨ 60 < n) → n < 100 → q_T gC gM gC1 gM1 W L b → ∃ gM2, fX12_named_10 a1' (F + 1) (nI e) x2 (nI n) gM1 = some (gM2, x2) ∧ p_R gC1 gM2 := by
    intro n F x2 gC1 gM1 b hx hn hT
    obtain ⟨g5, f5, hR5, -, -⟩ := hT.lay hR
    refine ⟨g5, ?_, hR5⟩
    have l : fX12_named_53 a1' x2 gM1 = some (g5, x2) := by
      unfold fX12_named_53
      rw [f5, Option.bind_some]
    rw [fX12_named_10]
    by_cases q : 60 < n
    · rw [if_pos (show (60 : Int32) < nI n from nI_lt (a := 60) q (by omega))]
      exact l
    · rw [if_neg (show ¬ (60 : Int32) < nI n from nI_nlt (a := 60) (by omega) (by decide))]
      rcases hx with hx | hx
      · rw [if_neg hx]
        exact l
      · exact absurd hx q
  have found : ∀ (n F' : Nat) (gC1 gM1 : c_G), n ≤ 60 → q_T gC gM gC1 gM1 W L (9999 + n) → ¬ gM1.1 1 (4 * e + 1) = -1 → ∃ gC2 gM2, gC2 = gC1 ∧ fX12_named_10 a1' (F' + 2) (nI e) (-5) (nI n) gM1 = some (gM2, nI n) ∧ p_R gC2 gM2 := by
    intro n F' gC1 gM1 hn hT hq
    obtain ⟨g2, k1, k2, k3, k4⟩ := m_sunday hT.2.2.1 hL hT.1.2.2.1.ok hT.2.2.2.1 (by omega)
    -- the copy stays, the row goes on: only what is laid again counts
    have lay2 : ∃ g5, fX12_lay g2 0 = some g5 ∧ p_R gC1 g5 := by
      obtain ⟨t1, t2, t3, t4, t5, t6, t7, t8, t9⟩ := hT
      obtain ⟨g', l1, l2, l3, l4⟩ := e_lay g2
      obtain ⟨N, hs, -⟩ := id hR
      have m1 : g'.1 1 = gM.1 1 := funext fun j => by
        rw [l4]
        by_cases q : j < 136
        · rw [if_pos q, k3.row (by decide) (by decide) (by decide) (by decide) (by decide), t9 j q]
        · rw [if_neg q, k2, (q_sunday_ok t1.2.2.1.ok).2.2 j (by omega), t1.hi (by omega), hs.hi (by omega)]
      refine ⟨g', l1, hR.scr t5 ((t8.tr k3.fM).tr ⟨fun a j q => ?_, by rw [l2]⟩) t6 t7 m1⟩
      simp only [p_scM, Bool.or_eq_false_iff, Bool.and_eq_false_iff, beq_eq_false_iff_ne] at q
      rw [l3 a (by omega)]
    obtain ⟨g5, l1, l2⟩ := lay2
    refine ⟨gC1, g5, rfl, ?_, l2⟩
    have l : fX12_named_53 a1' (nI n) g2 = some (g5, nI n) := by
      unfold fX12_named_53
      rw [l1, Option.bind_some]
    rw [fX12_named_10, if_neg (show ¬ (60 : Int32) < nI n from nI_nlt (a := 60) (by omega) (by decide)), if_pos rfl, e_of gM1 he 1 (by decide) 1 rfl, Option.bind_some, if_neg hq]
    unfold fX12_named_42
    rw [k1, Option.bind_some, c_let_d, nI_1, fX12_named_10]
    by_cases q : 60 < n + 1
    · rw [if_pos (show (60 : Int32) < nI (n + 1) from nI_lt (a := 60) q (by omega))]
      exact l
    · rw [if_neg (show ¬ (60 : Int32) < nI (n + 1) from nI_nlt (a := 60) (by omega) (by decide)), if_neg (p_5N (by omega))]
      exact l
  intro d
  induction d with
  | zero =>
    intro n F F' gC1 gM1 hn hF hF' hT h80
    obtain ⟨F, rfl⟩ : ∃ f, F = f + 1 := ⟨F - 1, by omega⟩
    obtain ⟨F', rfl⟩ : ∃ f, F' = f + 2 := ⟨F' - 2, by omega⟩
    rw [fX11_sundaysTillNamed_13, if_pos (show (60 : Int32) ≤ nI n from nI_le (a := 60) (by omega) (by omega)), fin n gC1 gM1 (by omega) hT h80]
    by_cases q : gM1.1 1 (4 * e + 1) = -1
    · rw [if_pos q]
      obtain ⟨g1, g2, k1, k2, k3, k4⟩ := hT.sunday hL (by omega)
      obtain ⟨g5, l1, l2, -, -⟩ := k3.lay hR
      -- the class stays at its copy: what the reference's last Sunday did is laid again
      have hR2 : p_R gC1 g5 := by
        obtain ⟨t1, t2, t3, t4, t5, t6, t7, t8, t9⟩ := hT
        obtain ⟨t1', t2', t3', t4', t5', t6', t7', t8', t9'⟩ := k3
        obtain ⟨g', j1, j2, j3, j4⟩ := e_lay g2
        obtain ⟨N, hs, -⟩ := id hR
        obtain rfl : g' = g5 := Option.some.inj (j1.symm.trans l1)
        have m1 : g'.1 1 = gM.1 1 := funext fun j => by
          rw [j4]
          by_cases q : j < 136
          · rw [if_pos q, t9' j q]
          · rw [if_neg q, t1'.hi (by omega), hs.hi (by omega)]
        refine hR.scr t5 (t8'.tr ⟨fun a j q => ?_, by rw [j2]⟩) t6 t7 m1
        simp only [p_scM, Bool.or_eq_false_iff, Bool.and_eq_false_iff, beq_eq_false_iff_ne] at q
        rw [j3 a (by omega)]
      refine ⟨gC1, g5, -5, rfl, ?_, hR2⟩
      rw [fX12_named_10, if_neg (show ¬ (60 : Int32) < nI n from nI_nlt (a := 60) (by omega) (by decide)), if_pos rfl, e_of gM1 he 1 (by decide) 1 rfl, Option.bind_some, if_pos q]
      unfold fX12_named_42
      rw [k2, Option.bind_some, c_let_d, nI_1, fX12_named_10, if_pos (show (60 : Int32) < nI (n + 1) from nI_lt (a := 60) (by omega) (by omega))]
      unfold fX12_named_53
      rw [l1, Option.bind_some]
    · rw [if_neg q]
      obtain ⟨gC2, gM2, rfl, k1, k2⟩ := found n F' gC1 gM1 (by omega) hT q
      exact ⟨_, _, _, rfl, k1, k2⟩
  | succ d ih =>
    intro n F F' gC1 gM1 hn hF hF' hT h80
    obtain ⟨F, rfl⟩ : ∃ f, F = f + 1 := ⟨F - 1, by omega⟩
    obtain ⟨F', rfl⟩ : ∃ f, F' = f + 2 := ⟨F' - 2, by omega⟩
    have hn2 : gC1.1 103 e = p_or (gM1.1 1 (4 * e + 1)) := hT.1.nameC he
    rw [fX11_sundaysTillNamed_13, if_neg (show ¬ (60 : Int32) ≤ nI n from nI_ge (b := 60) (by omega) (by decide)), p_in he (by decide), if_pos rfl, nI_clamp (by omega), hn2]
    by_cases q : gM1.1 1 (4 * e + 1) = -1
    · rw [if_pos ((p_or5 (by decide) (hT.1.okname he)).mpr q)]
      obtain ⟨g1, g2, k1, k2, k3, k4⟩ := hT.sunday hL (by omega)
      obtain ⟨gC2, gM2, r, i1, i2, i3⟩ := ih (n + 1) F (F' + 1) g1 g2 (by omega) (by omega) (by omega) (by rw [show 9999 + (n + 1) = 9999 + n + 1 by omega]; exact k3) (by rw [k4, q_sunday_80 hT.1.2.2.1.ok, h80, nI_1]; rfl)
      refine ⟨gC2, gM2, r, ?_, ?_, i3⟩
      · rw [k1, Option.bind_some, c_let_d, nI_1]
        exact i1
      · rw [fX12_named_10, if_neg (show ¬ (60 : Int32) < nI n from nI_nlt (a := 60) (by omega) (by decide)), if_pos rfl, e_of gM1 he 1 (by decide) 1 rfl, Option.bind_some, if_pos q]
        unfold fX12_named_42
        rw [k2, Option.bind_some, c_let_d, nI_1]
        exact i2
    · rw [if_neg (fun z => q ((p_or5 (by decide) (hT.1.okname he)).mp z)), fin n gC1 gM1 (by omega) hT h80, if_neg q]
      obtain ⟨gC2, gM2, rfl, k1, k2⟩ := found n F' gC1 gM1 (by omega) hT q
      exact ⟨_, _, _, rfl, k1, k2⟩
theorem p_St.okby {g : c_G} {s : Nat} {m : Nat → Int32} (h : p_St g s m) {e : Nat} (he : e < 6) : p_O (m (4 * e + 2)) 6 := by
  have z := h.2.2.1.1 (4 * e + 2) (by omega)
  unfold p_ok at z
  rwa [if_pos (by omega), if_neg (by omega), if_neg (by omega), if_pos (by omega)] at z
theorem e_elderC {gC gM : c_G} (h : p_R gC gM) (a b : Int32) : p_Eq (fX11_elder gC a b) (fX12_elder gM a b) := by
  obtain ⟨n, hs, h1, h2, h3⟩ := id h
  unfold fX11_elder fX12_elder
  rcases e_elder a with ⟨q1, q2, -⟩ | ⟨q1, q2, e, he, rfl⟩
  · rw [q1, q2]
    exact h.same _
  · rw [q1, q2, if_neg i10, if_neg i10, p_in he (by decide), nI_clamp (by omega)]
    rcases e_isInK b (n := 5) (by decide) 4 rfl with ⟨q3, q4⟩ | ⟨q3, k, hk, rfl⟩
    · have ne : ∀ z : Nat, z < 5 → ¬ b = nI z := fun z hz y => q4 ⟨z, hz, y⟩
      rw [q3, if_pos (show (0 : Int32) = 0 from rfl), if_neg (show ¬ b = (0 : Int32) from ne 0 (by decide)), if_neg (show ¬ b = (1 : Int32) from ne 1 (by decide)), if_neg (show ¬ b = (2 : Int32) from ne 2 (by decide)), if_neg (show ¬ b = (3 : Int32) from ne 3 (by decide)), if_neg (show ¬ b = (4 : Int32) from ne 4 (by decide))]
      exact h.same _
    · rw [q3, if_neg i10]
      rcases (show k = 0 ∨ k = 1 ∨ k = 2 ∨ k = 3 ∨ k = 4 by omega) with rfl | rfl | rfl | rfl | rfl
      · rw [if_pos (show nI 0 = (0 : Int32) from rfl), if_neg (show ¬ nI 0 = (4 : Int32) by decide), e_of gM he 0 (by decide) _ rfl, Option.bind_some]
        unfold fX12_elder_37
        rw [if_neg (show ¬ nI 0 = (4 : Int32) by decide), if_neg (show ¬ nI 0 = (1 : Int32) by decide), if_neg (show ¬ nI 0 = (2 : Int32) by decide)]
        exact ⟨gC, gM, _, rfl, by rw [hs.1, Nat.add_zero, p_al_look _ _ he], h⟩
      · rw [if_neg (show ¬ nI 1 = (0 : Int32) by decide), if_pos (show nI 1 = (1 : Int32) from rfl), if_neg (show ¬ nI 1 = (4 : Int32) by decide), e_of gM he 1 (by decide) _ rfl, Option.bind_some]
        unfold fX12_elder_37 fX12_elder_61
        rw [if_neg (show ¬ nI 1 = (4 : Int32) by decide), if_pos (show nI 1 = (1 : Int32) from rfl), e_never]
        exact ⟨gC, gM, _, rfl, by rw [← hs.nameC he], h⟩
      · rw [if_neg (show ¬ nI 2 = (0 : Int32) by decide), if_neg (show ¬ nI 2 = (1 : Int32) by decide), if_pos (show nI 2 = (2 : Int32) from rfl), if_neg (show ¬ nI 2 = (4 : Int32) by decide), e_of gM he 2 (by decide) _ rfl, Option.bind_some]
        unfold fX12_elder_37 fX12_elder_61
        rw [if_neg (show ¬ nI 2 = (4 : Int32) by decide), if_neg (show ¬ nI 2 = (1 : Int32) by decide), if_pos (show nI 2 = (2 : Int32) from rfl), e_never]
        exact ⟨gC, gM, _, rfl, by rw [← hs.byC he], h⟩
      · rw [if_neg (show ¬ nI 3 = (0 : Int32) by decide), if_neg (show ¬ nI 3 = (1 : Int32) by decide), if_neg (show ¬ nI 3 = (2 : Int32) by decide), if_pos (show nI 3 = (3 : Int32) from rfl), if_neg (show ¬ nI 3 = (4 : Int32) by decide), e_of gM he 3 (by decide) _ rfl, Option.bind_some]
        unfold fX12_elder_37
        rw [if_neg (show ¬ nI 3 = (4 : Int32) by decide), if_neg (show ¬ nI 3 = (1 : Int32) by decide), if_neg (show ¬ nI 3 = (2 : Int32) by decide)]
        exact ⟨gC, gM, _, rfl, by rw [hs.1, p_al_hid _ _ he], h⟩
      · rw [if_neg (show ¬ nI 4 = (0 : Int32) by decide), if_neg (show ¬ nI 4 = (1 : Int32) by decide), if_neg (show ¬ nI 4 = (2 : Int32) by decide), if_neg (show ¬ nI 4 = (3 : Int32) by decide), if_pos (show nI 4 = (4 : Int32) from rfl), if_pos (show nI 4 = (4 : Int32) from rfl)]
        unfold fX12_elder_37
        rw [if_pos (show nI 4 = (4 : Int32) from rfl)]
        obtain ⟨W, L, g1, g2, hL, f1, f2, hT, hm⟩ := q_trial h
        obtain ⟨su, s1, s2, s3⟩ := id h1
        obtain ⟨g3, g4, r, k1, k2, k3⟩ := e_namedL h hL he s1 ((hs.1 80).symm.trans s2) (nI e) (nI e) 60 0 c_F c_F g1 g2 rfl (by decide) (by decide) hT (by rw [hm]; exact s2)
        unfold fX11_sundaysTillNamed fX12_named
        rw [nI_0] at k1 k2
        rw [f1, f2, Option.bind_some, Option.bind_some, k1, k2, c_b2s, c_b2s]
        exact ⟨g3, g4, r, rfl, rfl, k3⟩
theorem e_endsL {gC gM : c_G} (hR : p_R gC gM) {W : (Nat → Int32) → Int32} {L : Int32} (hL : p_N L 100) (x : Int32) (a1 a1' : Int32) {pl : Nat} (hpl : pl ≤ 10) (hm : gM.1 1 98 = nI pl) : ∀ (d r F F' : Nat) (gC1 gM1 : c_G), r + d = pl → d < F → d < F' → q_T gC gM gC1 gM1 W L (9999 + r) → (∀ j, 98 ≤ j → gM1.1 1 j = gM.1 1 j) →
    ∃ gC2 gM2 y, fX11_ends_24 a1 F x (nI r) gC1 = some (gC2, y) ∧ fX12_ends_18 a1' F' x (nI r) gM1 = some (gM2, y) ∧ p_R gC2 gM2 := by
  obtain ⟨N, hs, hh1, hh2, hh3⟩ := id hR
  intro d
  induction d with
  | zero =>
    intro r F F' gC1 gM1 hr hF hF' hT hj
    obtain ⟨F, rfl⟩ : ∃ f, F = f + 1 := ⟨F - 1, by omega⟩
    obtain ⟨F', rfl⟩ : ∃ f, F' = f + 1 := ⟨F' - 1, by omega⟩
    have c98 : gC1.1 70 3 = nI pl := by
      rw [hT.2.2.2.2.2.1 70 (by decide) (by decide)]
      exact (hs.1 98).symm.trans hm
    obtain ⟨g5, f5, hR5, -, -⟩ := hT.lay hR
    rw [fX11_ends_24, c98, if_pos (nI_le (by omega) (by omega)), fX12_ends_18, hj 98 (by omega), hm, if_pos (nI_le (by omega) (by omega)), c_named hT.1 rfl, c_used hT.1 rfl, m_howMany, m_used]
    unfold fX12_ends_135
    by_cases q : x = 0
    · rw [if_pos q, if_pos q, Option.bind_some, Option.bind_some, f5, Option.bind_some]
      exact ⟨_, _, _, rfl, rfl, hR5⟩
    · rw [if_neg q, if_neg q, Option.bind_some, Option.bind_some, f5, Option.bind_some]
      exact ⟨_, _, _, rfl, rfl, hR5⟩
  | succ d ih =>
    intro r F F' gC1 gM1 hr hF hF' hT hj
    obtain ⟨F, rfl⟩ : ∃ f, F = f + 1 := ⟨F - 1, by omega⟩
    obtain ⟨F', rfl⟩ : ∃ f, F' = f + 1 := ⟨F' - 1, by omega⟩
    have hr10 : r < 10 := by omega
    have c98 : gC1.1 70 3 = nI pl := by
      rw [hT.2.2.2.2.2.1 70 (by decide) (by decide)]
      exact (hs.1 98).symm.trans hm
    have ca : gC1.1 71 r = gM.1 1 (99 + 2 * r) := by
      rw [hT.2.2.2.2.2.1 71 (by decide) (by decide), hs.1, p_al_pa _ _ hr10]
    have cb : gC1.1 72 r = gM.1 1 (99 + 2 * r + 1) := by
      rw [hT.2.2.2.2.2.1 72 (by decide) (by decide), hs.1, p_al_pb _ _ hr10]
    have ea : (99 : Int32) + (2 : Int32) * nI r = nI (99 + 2 * r) := by
      show nI 99 + nI 2 * nI r = _
      rw [pk_mul, nI_add]
    have eb : (100 : Int32) + (2 : Int32) * nI r = nI (99 + 2 * r + 1) := by
      show nI 100 + nI 2 * nI r = _
      rw [pk_mul, nI_add, show 100 + 2 * r = 99 + 2 * r + 1 by omega]
    obtain ⟨pa, pb⟩ := hs.2.2.1.2 r hr10
    have hk : p_N (gM.1 1 (99 + 2 * r)) 4 := by
      have z := hs.2.2.1.1 (99 + 2 * r) (by omega)
      unfold p_ok at z
      rwa [if_neg (by omega), if_neg (by omega), if_neg (by omega), if_neg (by omega), if_neg (by omega), if_neg (by omega), if_neg (by omega), if_neg (by omega), if_neg (by omega), if_pos (by omega), if_pos (by omega)] at z
    have next : ∀ gC2 gM2 : c_G, q_T gC gM gC2 gM2 W L (9999 + (r + 1)) → (∀ j, 98 ≤ j → gM2.1 1 j = gM1.1 1 j) → ∃ gC3 gM3 y, fX11_ends_143 (fX11_ends_24 a1 F) a1 x (nI r) gC2 = some (gC3, y) ∧ fX12_ends_114 (fX12_ends_18 a1' F') a1' x (nI r) gM2 = some (gM3, y) ∧ p_R gC3 gM3 := by
      intro gC2 gM2 hT2 hj2
      unfold fX11_ends_143 fX12_ends_114
      rw [c_let_d, c_let_d, nI_1]
      exact ih (r + 1) F F' gC2 gM2 (by omega) (by omega) (by omega) hT2 fun j z => (hj2 j z).trans (hj j z)
    have mono : ∀ gC2 gM2 : c_G, q_T gC gM gC2 gM2 W L (9999 + r) → q_T gC gM gC2 gM2 W L (9999 + (r + 1)) := by
      rintro gC2 gM2 ⟨t1, t2, t3, ⟨su, s1, s2⟩, t5⟩
      exact ⟨t1, t2, t3, ⟨su, by omega, s2⟩, t5⟩
    rw [fX11_ends_24, c98, if_neg (nI_ge (by omega) (by omega)), fX12_ends_18, hj 98 (by omega), hm, if_neg (nI_ge (by omega) (by omega)), p_in hr10 (by decide), if_pos rfl, nI_clamp (show r < 2 ^ 31 by omega), ea, eb, p_in (show 99 + 2 * r < 136 by omega) (by decide), if_pos rfl, p_in (show 99 + 2 * r + 1 < 136 by omega) (by decide), if_pos rfl, nI_clamp (show 99 + 2 * r < 2 ^ 31 by omega), nI_clamp (show 99 + 2 * r + 1 < 2 ^ 31 by omega), ca, cb, hj (99 + 2 * r) (by omega), hj (99 + 2 * r + 1) (by omega)]
    generalize gM.1 1 (99 + 2 * r) = A at *
    generalize gM.1 1 (99 + 2 * r + 1) = B at *
    obtain ⟨k, hk4, rfl⟩ := hk
    rcases (show k = 0 ∨ k = 1 ∨ k = 2 ∨ k = 3 by omega) with rfl | rfl | rfl | rfl
    · rw [if_pos (show nI 0 = (0 : Int32) from rfl), if_pos (show nI 0 = (0 : Int32) from rfl)]
      obtain ⟨g1, g2, k1, k2, k3, k4⟩ := hT.sunday hL (by omega)
      rw [k1, k2, Option.bind_some, Option.bind_some]
      exact next g1 g2 k3 fun j z => by rw [k4]; exact (q_sunday_ok hT.1.2.2.1.ok).2.2 j (by omega)
    · rw [if_neg (show ¬ nI 1 = (0 : Int32) by decide), if_neg (show ¬ nI 1 = (0 : Int32) by decide), if_pos (show nI 1 = (1 : Int32) from rfl), if_pos (show nI 1 = (1 : Int32) from rfl)]
      obtain ⟨c, e, hc, he, rfl⟩ := pa rfl
      obtain ⟨d1, d2⟩ := e_dec10 (k := 10 * c + e) (by omega)
      rw [d2, d1, show (10 * c + e) / 10 = c by omega, show (10 * c + e) % 10 = e by omega]
      obtain ⟨t1, t2, t3⟩ := id hT
      obtain ⟨g1, f1, f2, f3⟩ := c_takeTo t1 rfl t2 hc he
      obtain ⟨g2, k1, k2, k3⟩ := m_goesTo t3.1 hc he (t1.okkind hc)
      rw [f1, k1, c_b2s, c_b2s]
      exact next g1 g2 (mono _ _ (hT.put (by rw [k2]; exact f2) f3 k3 fun j z => by rw [k2]; exact q_take_hi he z)) fun j z => by rw [k2]; exact q_take_hi he (by omega)
    · rw [if_neg (show ¬ nI 2 = (0 : Int32) by decide), if_neg (show ¬ nI 2 = (0 : Int32) by decide), if_neg (show ¬ nI 2 = (1 : Int32) by decide), if_neg (show ¬ nI 2 = (1 : Int32) by decide), if_pos (show nI 2 = (2 : Int32) from rfl), if_pos (show nI 2 = (2 : Int32) from rfl)]
      obtain ⟨e, he, rfl⟩ := pb (Or.inl rfl)
      rw [e_unname gC1 (s := 101) rfl he, e_forgets gM1 he, Option.bind_some, Option.bind_some]
      refine next _ _ (mono _ _ (hT.put ?_ ((q_fs.si (by omega) (by omega)).tr (q_fs.si (by omega) (by omega))) (q_fw.si.tr q_fw.si) fun j z => ?_)) fun j z => ?_
      · rw [e_up, e_up]
        exact hT.1.forget he
      · rw [p_si_ne _ _ _ _ (by omega), p_si_ne _ _ _ _ (by omega)]
      · rw [p_si_ne _ _ _ _ (by omega), p_si_ne _ _ _ _ (by omega)]
    · rw [if_neg (show ¬ nI 3 = (0 : Int32) by decide), if_neg (show ¬ nI 3 = (0 : Int32) by decide), if_neg (show ¬ nI 3 = (1 : Int32) by decide), if_neg (show ¬ nI 3 = (1 : Int32) by decide), if_neg (show ¬ nI 3 = (2 : Int32) by decide), if_neg (show ¬ nI 3 = (2 : Int32) by decide)]
      obtain ⟨e, he, rfl⟩ := pb (Or.inr rfl)
      rw [e_atE (c := e) (f := 3) 3 rfl, p_in he (by decide), if_pos rfl, p_in (show 4 * e + 3 < 136 by omega) (by decide), if_pos rfl, nI_clamp (show e < 2 ^ 31 by omega), nI_clamp (show 4 * e + 3 < 2 ^ 31 by omega), c_let_d, c_let_d]
      refine next _ _ (mono _ _ (hT.put ?_ (q_fs.si (by omega) (by omega)) q_fw.si fun j z => ?_)) fun j z => ?_
      · rw [e_up]
        exact p_pt_hid hT.1 he ⟨1, by decide, rfl⟩
      · rw [p_si_ne _ _ _ _ (by omega)]
      · rw [p_si_ne _ _ _ _ (by omega)]
theorem e_ends {gC gM : c_G} (h : p_R gC gM) (a : Int32) : p_Eq (fX11_ends gC a) (fX12_ends gM a) := by
  obtain ⟨n, hs, h1, h2, h3⟩ := id h
  unfold fX11_ends fX12_ends
  rcases e_isInK a (n := 2) (by decide) 1 rfl with ⟨q3, q4⟩ | ⟨q3, k, hk, rfl⟩
  · rw [q3, if_pos rfl]
    rcases e_lo (by decide) q4 with q | q
    · rw [if_pos q]
      exact h.same _
    · rw [if_neg (p_ge q (by decide)), if_neg (show ¬ a ≤ 1 from p_ltge (n := 2) q (k := 1) (by decide) (by decide))]
      exact h.same _
  · rw [q3, if_neg i10, if_neg (nI_pos (by omega)), if_pos (show nI k ≤ (1 : Int32) from nI_le (b := 1) (by omega) (by decide))]
    obtain ⟨W, L, g1, g2, hL, f1, f2, hT, hm⟩ := q_trial h
    obtain ⟨pl, hpl, epl⟩ : p_N (gM.1 1 98) 11 := hs.2.2.1.1 98 (by decide)
    obtain ⟨g3, g4, y, k1, k2, k3⟩ := e_endsL h hL (nI k) (nI k) (nI k) (by omega) epl pl 0 c_F c_F g1 g2 (by omega) (show pl < 5000 by omega) (show pl < 5000 by omega) hT (fun j _ => by rw [hm])
    rw [nI_0] at k1 k2
    rw [f1, f2, Option.bind_some, Option.bind_some]
    exact ⟨g3, g4, y, k1, k2, k3⟩
