/-! PURE: the reference weighs and says -/
def q_cg (W : (Nat → Int32) → Int32) : Prop := ∀ e e' : Nat → Int32, (∀ k, k < 6 → e k = e' k) → W e = W e'
/-- the valley that the reference holds means W and L -/
def q_M (g : c_G) (W : (Nat → Int32) → Int32) (L : Int32) : Prop := q_cg W ∧ p_Ks g ∧ ((g.1 1 81 = 0 ∧ (∀ e, W e = 0) ∧ L = 0) ∨ ∃ k n, k < 6 ∧ n ≤ 100 ∧ g.1 1 81 = nI (k + 1) ∧ g.1 6 k = nI n ∧ s_text (fun j => g.1 5 (100 * k + j)) n = .ok (W, L))
def q_fr (g g' : c_G) : Prop := (∀ a j, ¬ (a = 7 ∨ a = 8 ∨ (a = 0 ∧ 10 ≤ j ∧ j ≤ 15)) → g'.1 a j = g.1 a j) ∧ g'.2 = g.2
theorem q_fr.row {g g' : c_G} (h : q_fr g g') {a : Nat} (h1 : a ≠ 0) (h2 : a ≠ 7) (h3 : a ≠ 8) : g'.1 a = g.1 a := funext fun j => h.1 a j (by omega)
/-- scratch of the reference, the fits among it -/
def q_fq (g g' : c_G) : Prop := (∀ a j, ¬ (a = 7 ∨ a = 8 ∨ a = 12 ∨ (a = 0 ∧ 10 ≤ j ∧ j ≤ 15)) → g'.1 a j = g.1 a j) ∧ g'.2 = g.2
theorem q_fq.row {g g' : c_G} (h : q_fq g g') {a : Nat} (h1 : a ≠ 0) (h2 : a ≠ 7) (h3 : a ≠ 8) (h4 : a ≠ 12) : g'.1 a = g.1 a := funext fun j => h.1 a j (by omega)
theorem q_fq.rf (g : c_G) : q_fq g g := ⟨fun _ _ _ => rfl, rfl⟩
theorem q_fq.tr {a b c : c_G} (h : q_fq a b) (h2 : q_fq b c) : q_fq a c := ⟨fun x j q => (h2.1 x j q).trans (h.1 x j q), h2.2.trans h.2⟩
theorem q_fr.q {g g' : c_G} (h : q_fr g g') : q_fq g g' := ⟨fun a j q => h.1 a j (by omega), h.2⟩
theorem q_fq.si {g : c_G} {j : Nat} {v : Int32} : q_fq g (c_si g 12 j v) := ⟨fun a i q => p_si_ne _ _ _ _ (by omega), rfl⟩
theorem q_M.eq {g g' : c_G} {W : (Nat → Int32) → Int32} {L : Int32} (h : q_M g W L) (h81 : g'.1 1 81 = g.1 1 81) (h5 : g'.1 5 = g.1 5) (h6 : g'.1 6 = g.1 6) (h9 : g'.1 9 = g.1 9) (h10 : g'.1 10 = g.1 10) (h11 : g'.1 11 = g.1 11) (h15 : g'.1 15 = g.1 15) : q_M g' W L := by
  obtain ⟨a, b, c⟩ := h
  refine ⟨a, b.eq h9 h10 h11 h15, ?_⟩
  rw [h81, h5, h6]
  exact c
theorem q_M.fq {g g' : c_G} {W : (Nat → Int32) → Int32} {L : Int32} (h : q_M g W L) (hf : q_fq g g') : q_M g' W L :=
  h.eq (hf.1 1 81 (by omega)) (hf.row (by decide) (by decide) (by decide) (by decide)) (hf.row (by decide) (by decide) (by decide) (by decide)) (hf.row (by decide) (by decide) (by decide) (by decide)) (hf.row (by decide) (by decide) (by decide) (by decide)) (hf.row (by decide) (by decide) (by decide) (by decide)) (hf.row (by decide) (by decide) (by decide) (by decide))
theorem m_copyR (a1 a2 a3 : Int32) {k n : Nat} (hk : k < 6) (hn : n ≤ 100) : ∀ (d j F : Nat) (g : c_G), j + d = n → d < F → g.1 0 10 = nI n →
    ∃ g', fX12_readFor_120 a1 a2 a3 F (nI k) (nI j) g = (c_b2 (fX12_readAll g') fun g2 _ => some g2) ∧ (∀ a, a ≠ 7 → g'.1 a = g.1 a) ∧ g'.2 = g.2 ∧ ∀ i, g'.1 7 i = if j ≤ i ∧ i < n then g.1 5 (100 * k + i) else g.1 7 i
  | 0, j, F + 1, g, hj, hF, h10 => by
    refine ⟨g, ?_, fun _ _ => rfl, rfl, fun i => by rw [if_neg (by omega)]⟩
    rw [fX12_readFor_120, h10, if_pos (nI_le (by omega) (by omega))]
  | d + 1, j, F + 1, g, hj, hF, h10 => by
    have e : (100 : Int32) * nI k + nI j = nI (100 * k + j) := by
      show nI 100 * nI k + _ = _
      rw [pk_mul, nI_add]
    obtain ⟨g', e1, e2, e3, e4⟩ := m_copyR a1 a2 a3 hk hn d (j + 1) F (c_si g 7 j (g.1 5 (100 * k + j))) (by omega) (by omega) (by rw [p_si_ne _ _ _ _ (by omega)]; exact h10)
    refine ⟨g', ?_, fun a ha => (e2 a ha).trans (c_sr_ne ha), e3, fun i => ?_⟩
    · rw [fX12_readFor_120, h10, if_neg (nI_ge (by omega) (by omega)), e, p_in (show 100 * k + j < 600 by omega) (by decide), if_pos rfl, p_in (show j < 100 by omega) (by decide), if_pos rfl, nI_clamp (show j < 2 ^ 31 by omega), nI_clamp (show 100 * k + j < 2 ^ 31 by omega), c_let_d, c_let_d, nI_1]
      exact e1
    · rw [e4, p_si_ne _ 7 j _ (show ¬ (5 = 7 ∧ _) by omega)]
      by_cases q : i = j
      · subst q
        rw [if_neg (by omega), if_pos (by omega), p_si_at]
      · rw [p_si_ne _ _ _ _ (by omega)]
        by_cases q3 : j + 1 ≤ i ∧ i < n
        · rw [if_pos q3, if_pos (by omega)]
        · rw [if_neg q3, if_neg (by omega)]
theorem m_readFor {g : c_G} {W : (Nat → Int32) → Int32} {L : Int32} (hM : q_M g W L) {c e : Nat} (hc : c < 6) (he : e < 6) (x : Nat) :
    ∃ g', fX12_readFor g (nI c) (nI x) (nI e) = some g' ∧ q_fr g g' ∧ g'.1 0 14 = g.1 1 (4 * e) + W (q_env (g.1 1) c (g.1 1 (24 + 9 * c + 1)) x e) ∧ g'.1 0 15 = L := by
  have n8 : ∀ (g0 : c_G) (j : Nat) (x : Int32) (a : Nat), a ≠ 8 → (c_si g0 8 j x).1 a = g0.1 a := fun g0 j x a ha => c_sr_ne ha
  obtain ⟨hcg, hKs, hM⟩ := hM
  unfold fX12_readFor
  rw [c_let_d, e_one _ hc 0 (by decide) 0 rfl, Option.bind_some, c_let_d, e_one _ hc 1 (by decide) 1 rfl, Option.bind_some, c_let_d, c_let_d, e_of _ he 0 (by decide) 0 rfl, Option.bind_some, c_let_d, e_one _ hc 3 (by decide) 3 rfl, Option.bind_some, c_let_d, c_let_d]
  simp only [n8 _ _ _ 1 (by decide), Nat.add_zero]
  generalize hG : c_si (c_si (c_si (c_si (c_si (c_si g 8 0 (nI c)) 8 1 (g.1 1 (24 + 9 * c))) 8 2 (g.1 1 (24 + 9 * c + 1))) 8 3 (nI x)) 8 4 (g.1 1 (4 * e))) 8 5 (g.1 1 (24 + 9 * c + 3) - g.1 1 (24 + 9 * c + 3) / 10 * 10) = G
  have G1 : ∀ a, a ≠ 8 → G.1 a = g.1 a := fun a ha => by
    rw [← hG, n8 _ _ _ a ha, n8 _ _ _ a ha, n8 _ _ _ a ha, n8 _ _ _ a ha, n8 _ _ _ a ha, n8 _ _ _ a ha]
  have G2 : G.2 = g.2 := by rw [← hG]; rfl
  have GW : W (G.1 8) = W (q_env (g.1 1) c (g.1 1 (24 + 9 * c + 1)) x e) := hcg _ _ fun j hj => by
    rw [← hG]
    rcases (show j = 0 ∨ j = 1 ∨ j = 2 ∨ j = 3 ∨ j = 4 ∨ j = 5 by omega) with rfl | rfl | rfl | rfl | rfl | rfl
    · rw [p_si_ne _ _ _ _ (by omega), p_si_ne _ _ _ _ (by omega), p_si_ne _ _ _ _ (by omega), p_si_ne _ _ _ _ (by omega), p_si_ne _ _ _ _ (by omega), p_si_at]; rfl
    · rw [p_si_ne _ _ _ _ (by omega), p_si_ne _ _ _ _ (by omega), p_si_ne _ _ _ _ (by omega), p_si_ne _ _ _ _ (by omega), p_si_at]; rfl
    · rw [p_si_ne _ _ _ _ (by omega), p_si_ne _ _ _ _ (by omega), p_si_ne _ _ _ _ (by omega), p_si_at]; rfl
    · rw [p_si_ne _ _ _ _ (by omega), p_si_ne _ _ _ _ (by omega), p_si_at]; rfl
    · rw [p_si_ne _ _ _ _ (by omega), p_si_at]; rfl
    · rw [p_si_at]; rfl
  have G84 : G.1 8 4 = g.1 1 (4 * e) := by
    rw [← hG, p_si_ne _ _ _ _ (by omega), p_si_at]
  rcases hM with ⟨h81, hW, hL⟩ | ⟨k, n, hk, hn, h81, h6, hs⟩
  · rw [h81, if_pos rfl, c_let_d, c_let_d, G84]
    refine ⟨_, rfl, ⟨fun a j q => ?_, ?_⟩, ?_, ?_⟩
    · rw [p_si_ne _ _ _ _ (by omega), p_si_ne _ _ _ _ (by omega), G1 a (by omega)]
    · exact G2
    · rw [p_si_ne _ _ _ _ (by omega), p_si_at, hW, Int32.add_zero]
    · rw [p_si_at, hL]
  · have ek : nI (k + 1) - 1 = nI k := pk_sub (a := k + 1) (b := 1) (by omega)
    rw [h81, if_neg (fun z => by have := (nI_eq (a := k + 1) (b := 0) (by omega) (by decide)).mp z; omega), c_let_d, ek, p_in hk (by decide), if_pos rfl, nI_clamp (by omega), G1 6 (by decide), h6, c_let_d]
    obtain ⟨g', e1, e2, e3, e4⟩ := m_copyR (nI c) (nI x) (nI e) hk hn n 0 c_F (c_si G 0 10 (nI n)) (by omega) (show n < 5000 by omega) (p_si_at _ _ _ _)
    have H1 : ∀ a, a ≠ 7 → a ≠ 8 → a ≠ 0 → g'.1 a = g.1 a := fun a z1 z2 z3 => by
      rw [e2 a z1, show (c_si G 0 10 (nI n)).1 a = G.1 a from c_sr_ne z3, G1 a z2]
    have H8 : g'.1 8 = G.1 8 := by rw [e2 8 (by decide), show (c_si G 0 10 (nI n)).1 8 = G.1 8 from c_sr_ne (by decide)]
    have H0 : ∀ j, j ≠ 10 → g'.1 0 j = g.1 0 j := fun j z => by
      rw [e2 0 (by decide), p_si_ne _ _ _ _ (by omega), G1 0 (by decide)]
    have B : q_B g' (fun j => g.1 5 (100 * k + j)) n := by
      refine ⟨hn, ?_, fun j hj => ?_, hKs.eq (H1 9 (by decide) (by decide) (by decide)) (H1 10 (by decide) (by decide) (by decide)) (H1 11 (by decide) (by decide) (by decide)) (H1 15 (by decide) (by decide) (by decide))⟩
      · rw [e2 0 (by decide), p_si_at]
      · rw [e4, if_pos ⟨Nat.zero_le _, hj⟩, show (c_si G 0 10 (nI n)).1 5 = G.1 5 from c_sr_ne (by decide), G1 5 (by decide)]
    have res := m_readAll B
    rw [hs] at res
    obtain ⟨d, eq⟩ := res
    rw [nI_0] at e1
    rw [e1, eq, c_b2s]
    refine ⟨_, rfl, ⟨fun a j q => ?_, ?_⟩, ?_, ?_⟩
    · by_cases a0 : a = 0
      · subst a0
        show (if j = 11 then _ else _) = _
        rw [if_neg (by omega), if_neg (by omega), if_neg (by omega), if_neg (by omega), if_neg (by omega)]
        exact H0 j (by omega)
      · rw [q_gr g' n 1 d _ _ a0, H1 a (by omega) (by omega) a0]
    · exact e3.trans G2
    · rw [q_g14, H8, G84, GW]
    · rw [q_g15]
theorem m_fit {g : c_G} {W : (Nat → Int32) → Int32} {L : Int32} (hM : q_M g W L) {c e x : Nat} (hc : c < 6) (he : e < 6) (hx : x < 12) (hk : p_N (g.1 1 (24 + 9 * c)) 7) :
    ∃ g', fX12_fit g (nI c) (nI x) (nI e) = some (g', q_fit (g.1 1) W c (g.1 1 (24 + 9 * c + 1)) e x) ∧ q_fr g g' := by
  obtain ⟨g', e1, e2, e3, -⟩ := m_readFor hM hc he x
  have r1 : g'.1 1 = g.1 1 := e2.row (by decide) (by decide) (by decide)
  have e5 : (5 : Int32) + (nI x - nI x / (4 : Int32) * (4 : Int32)) = nI (5 + x % 4) := by
    rw [e_rem4 hx]
    exact nI_add 5 _
  refine ⟨g', ?_, e2⟩
  unfold fX12_fit
  rw [e1, Option.bind_some]
  have key : ∀ y1 : Int32, y1 = (if x < 6 then g.1 1 (24 + 9 * c + 1) else 0) → fX12_fit_27 (nI c) (nI x) (nI e) (nI c) (nI x) (nI e) (g'.1 0 14) y1 g' = some (g', q_fit (g.1 1) W c (g.1 1 (24 + 9 * c + 1)) e x) := by
    intro y1 hy
    unfold fX12_fit_27
    rw [c_let_d, e_of g' he 0 (by decide) 0 rfl, Option.bind_some, c_let_d, e_one g' hc 0 (by decide) 0 rfl, Option.bind_some, e_one g' hc 3 (by decide) 3 rfl, e_one g' hc 1 (by decide) 1 rfl, e_one g' hc (5 + x % 4) (by omega) _ e5, Option.bind_some, Option.bind_some, Option.bind_some, r1, e3, hy]
    unfold q_fit q_kindfit
    simp only [Nat.add_zero]
    obtain ⟨k, hk7, ek⟩ := hk
    rw [ek]
    rcases (show k = 0 ∨ k = 1 ∨ k = 2 ∨ k = 3 ∨ k = 4 ∨ k = 5 ∨ k = 6 by omega) with rfl | rfl | rfl | rfl | rfl | rfl | rfl
    · rfl
    · rfl
    · rfl
    · rfl
    · show (if g.1 1 (24 + 9 * c + 1) ≤ g.1 1 (24 + 9 * c + 3) then _ else _) = some (g', if g.1 1 (24 + 9 * c + 3) < g.1 1 (24 + 9 * c + 1) then _ else _)
      by_cases q : g.1 1 (24 + 9 * c + 1) ≤ g.1 1 (24 + 9 * c + 3)
      · rw [if_pos q, if_neg (fun z => p_lnl z q)]
      · rw [if_neg q, if_pos (Int32.not_le.mp q)]
    · rfl
    · rfl
  by_cases q : x < 6
  · rw [if_neg (show ¬ (6 : Int32) ≤ nI x from nI_ge (b := 6) q (by decide)), e_one g' hc 1 (by decide) 1 rfl, Option.bind_some]
    exact key _ (by rw [if_pos q, r1])
  · rw [if_pos (show (6 : Int32) ≤ nI x from nI_le (a := 6) (by omega) (by omega))]
    exact key _ (by rw [if_neg q])
theorem m_tell {g : c_G} {W : (Nat → Int32) → Int32} {L : Int32} (hM : q_M g W L) {c e : Nat} (hc : c < 6) (he : e < 6) (hk : p_N (g.1 1 (24 + 9 * c)) 7) :
    ∃ g', fX12_tell g (nI c) (nI e) = some g' ∧ q_fq g g' ∧ (∀ w, w < 12 → g'.1 12 (12 * e + w) = q_fit (g.1 1) W c (g.1 1 (24 + 9 * c + 1)) e w) ∧ ∀ j, ¬ (12 * e ≤ j ∧ j < 12 * e + 12) → g'.1 12 j = g.1 12 j := by
  have loop : ∀ (d w F : Nat) (g1 : c_G), w + d = 12 → d < F → q_fq g g1 →
      ∃ g', fX12_tell_2 (nI c) (nI e) F (nI c) (nI e) (nI w) g1 = some g' ∧ q_fq g g' ∧ ∀ j, g'.1 12 j = if 12 * e + w ≤ j ∧ j < 12 * e + 12 then q_fit (g.1 1) W c (g.1 1 (24 + 9 * c + 1)) e (j - 12 * e) else g1.1 12 j := by
    intro d
    induction d with
    | zero =>
      intro w F g1 hw hF hf
      obtain ⟨F, rfl⟩ : ∃ f, F = f + 1 := ⟨F - 1, by omega⟩
      refine ⟨g1, ?_, hf, fun j => by rw [if_neg (by omega)]⟩
      rw [fX12_tell_2, if_pos (show (12 : Int32) ≤ nI w from nI_le (a := 12) (by omega) (by omega))]
    | succ d ih =>
      intro w F g1 hw hF hf
      obtain ⟨F, rfl⟩ : ∃ f, F = f + 1 := ⟨F - 1, by omega⟩
      have r1 : g1.1 1 = g.1 1 := hf.row (by decide) (by decide) (by decide) (by decide)
      obtain ⟨g2, e1, e2⟩ := m_fit (x := w) (hM.fq hf) hc he (by omega) (by rw [r1]; exact hk)
      rw [r1] at e1
      have ea : (12 : Int32) * nI e + nI w = nI (12 * e + w) := by
        show nI 12 * nI e + _ = _
        rw [pk_mul, nI_add]
      obtain ⟨g3, f1, f2, f3⟩ := ih (w + 1) F (c_si g2 12 (12 * e + w) (q_fit (g.1 1) W c (g.1 1 (24 + 9 * c + 1)) e w)) (by omega) (by omega) ((hf.tr e2.q).tr q_fq.si)
      refine ⟨g3, ?_, f2, fun j => ?_⟩
      · rw [fX12_tell_2, if_neg (show ¬ (12 : Int32) ≤ nI w from nI_ge (b := 12) (by omega) (by decide)), e1, c_b2s, ea, p_in (show 12 * e + w < 72 by omega) (by decide), if_pos rfl, nI_clamp (by omega), c_let_d, c_let_d, nI_1]
        exact f1
      · rw [f3]
        by_cases q : j = 12 * e + w
        · subst q
          rw [if_neg (by omega), if_pos (by omega), p_si_at, show 12 * e + w - 12 * e = w by omega]
        · rw [p_si_ne _ _ _ _ (by omega)]
          by_cases q3 : 12 * e + (w + 1) ≤ j ∧ j < 12 * e + 12
          · rw [if_pos q3, if_pos (by omega)]
          · rw [if_neg q3, if_neg (by omega), e2.row (by decide) (by decide) (by decide)]
  obtain ⟨g', e1, e2, e3⟩ := loop 12 0 c_F g rfl (by decide) (q_fq.rf g)
  refine ⟨g', e1, e2, fun w hw => ?_, fun j hj => ?_⟩
  · rw [e3, if_pos (by omega), show 12 * e + w - 12 * e = w by omega]
  · rw [e3, if_neg (by omega)]
theorem m_used (g : c_G) : fX12_used g = some (q_used (g.1 1)) := by
  have loop : ∀ (k e F : Nat) (b : Int32), e + k = 6 → k < F → fX12_used_10 F b (nI e) g = some (q_usedL (g.1 1) k e b) := by
    intro k
    induction k with
    | zero =>
      intro e F b he hF
      obtain ⟨F, rfl⟩ : ∃ f, F = f + 1 := ⟨F - 1, by omega⟩
      rw [fX12_used_10, if_pos (show (6 : Int32) ≤ nI e from nI_le (a := 6) (by omega) (by omega))]
      rfl
    | succ k ih =>
      intro e F b he hF
      obtain ⟨F, rfl⟩ : ∃ f, F = f + 1 := ⟨F - 1, by omega⟩
      have he6 : e < 6 := by omega
      rw [fX12_used_10, if_neg (show ¬ (6 : Int32) ≤ nI e from nI_ge (b := 6) (by omega) (by decide)), e_of g he6 1 (by decide) 1 rfl, Option.bind_some, Option.bind_some]
      unfold fX12_used_47 q_usedL
      by_cases q : g.1 1 (4 * e + 1) = -1
      · rw [if_pos q, if_pos q, c_let_d, c_let_d, nI_1, Int32.or_zero]
        exact ih (e + 1) F b (by omega) (by omega)
      · rw [if_neg q, if_neg q, c_let_d, c_let_d, nI_1]
        exact ih (e + 1) F _ (by omega) (by omega)
  unfold fX12_used
  exact loop 6 0 c_F _ rfl (by decide)
theorem m_howMany (g : c_G) : fX12_howMany g = some (nI (q_named (g.1 1))) := by
  have loop : ∀ (k e F b : Nat), e + k = 6 → k < F → fX12_howMany_4 F (nI b) (nI e) g = some (nI (q_namedL (g.1 1) k e b)) := by
    intro k
    induction k with
    | zero =>
      intro e F b he hF
      obtain ⟨F, rfl⟩ : ∃ f, F = f + 1 := ⟨F - 1, by omega⟩
      rw [fX12_howMany_4, if_pos (show (6 : Int32) ≤ nI e from nI_le (a := 6) (by omega) (by omega))]
      rfl
    | succ k ih =>
      intro e F b he hF
      obtain ⟨F, rfl⟩ : ∃ f, F = f + 1 := ⟨F - 1, by omega⟩
      have he6 : e < 6 := by omega
      rw [fX12_howMany_4, if_neg (show ¬ (6 : Int32) ≤ nI e from nI_ge (b := 6) (by omega) (by decide)), e_of g he6 1 (by decide) 1 rfl, Option.bind_some]
      unfold fX12_howMany_30 q_namedL
      by_cases q : g.1 1 (4 * e + 1) = -1
      · rw [if_pos q, if_pos q, c_let_d, c_let_d, nI_1, Int32.add_zero]
        exact ih (e + 1) F b (by omega) (by omega)
      · rw [if_neg q, if_neg q, c_let_d, c_let_d, nI_1, nI_1]
        exact ih (e + 1) F _ (by omega) (by omega)
  unfold fX12_howMany
  exact loop 6 0 c_F 0 rfl (by decide)
theorem m_isMute (g : c_G) {e : Nat} (he : e < 6) : fX12_isMute g (nI e) = some (if q_mute (g.1 1) e = true then 1 else 0) := by
  unfold fX12_isMute q_mute
  rw [e_of g he 1 (by decide) 1 rfl, e_of g he 3 (by decide) 3 rfl, Option.bind_some, Option.bind_some]
  by_cases q : g.1 1 (4 * e + 1) = -1
  · rw [if_pos q]
    by_cases q2 : g.1 1 (4 * e + 3) = 1
    · rw [if_pos q2, if_pos (by simp [q2])]
    · rw [if_neg q2, if_neg (by simp [q, q2])]
  · rw [if_neg q, if_pos (by simp [q])]
theorem m_saysBy (g : c_G) {e : Nat} (he : e < 6) (kn us : Int32) : fX12_saysBy g (nI e) kn us = some (if q_mute (g.1 1) e = true then -1 else q_best (fun w => g.1 12 (12 * e + w)) (b_bit (kn &&& (us ^^^ (-1)))) 12 0 (-1) 0) := by
  unfold fX12_saysBy
  by_cases hm : q_mute (g.1 1) e = true
  · rw [if_pos hm, show c_F = 4999 + 1 from rfl, fX12_saysBy_9, if_neg (by decide), m_isMute g he, if_pos hm, Option.bind_some, if_neg i10]
  · rw [if_neg hm]
    have loop : ∀ (k w F : Nat) (b mo : Int32), w + k = 12 → k < F → fX12_saysBy_9 (nI e) kn us F (nI e) kn us b mo (nI w) g = some (q_best (fun w => g.1 12 (12 * e + w)) (b_bit (kn &&& (us ^^^ (-1)))) k w b mo) := by
      intro k
      induction k with
      | zero =>
        intro w F b mo hw hF
        obtain ⟨F, rfl⟩ : ∃ f, F = f + 1 := ⟨F - 1, by omega⟩
        rw [fX12_saysBy_9, if_pos (show (12 : Int32) ≤ nI w from nI_le (a := 12) (by omega) (by omega))]
        rfl
      | succ k ih =>
        intro w F b mo hw hF
        obtain ⟨F, rfl⟩ : ∃ f, F = f + 1 := ⟨F - 1, by omega⟩
        have ea : (12 : Int32) * nI e + nI w = nI (12 * e + w) := by
          show nI 12 * nI e + _ = _
          rw [pk_mul, nI_add]
        rw [fX12_saysBy_9, if_neg (show ¬ (12 : Int32) ≤ nI w from nI_ge (b := 12) (by omega) (by decide)), m_isMute g he, if_neg hm, Option.bind_some, if_pos rfl, ea, p_in (show 12 * e + w < 72 by omega) (by decide), if_pos rfl, nI_clamp (by omega)]
        unfold q_best fX12_saysBy_72
        by_cases q : b_bit (kn &&& (us ^^^ (-1))) w = true
        · rw [if_neg (fun z => by rw [(b_and0 _ (show w < 31 by omega)).mp z] at q; cases q)]
          by_cases q2 : mo < g.1 12 (12 * e + w)
          · rw [if_neg (p_lnl q2), if_pos ⟨q, q2⟩, c_let_d, nI_1]
            exact ih (w + 1) F _ _ (by omega) (by omega)
          · rw [if_pos (Int32.not_lt.mp q2), if_neg (fun z => q2 z.2), c_let_d, nI_1]
            exact ih (w + 1) F b mo (by omega) (by omega)
        · rw [if_pos ((b_and0 _ (show w < 31 by omega)).mpr (by simpa using q)), if_neg (fun z => q z.1), c_let_d, nI_1]
          exact ih (w + 1) F b mo (by omega) (by omega)
    exact loop 12 0 c_F (-1) 0 rfl (by decide)
/-- what stands in the fits told is what fits -/
theorem m_saysByT {g g' : c_G} {W : (Nat → Int32) → Int32} {c e : Nat} {v : Int32} (he : e < 6) (h1 : g'.1 1 = g.1 1) (ht : ∀ w, w < 12 → g'.1 12 (12 * e + w) = q_fit (g.1 1) W c v e w) (kn us : Int32) : fX12_saysBy g' (nI e) kn us = some (if q_mute (g.1 1) e = true then -1 else q_best (q_fit (g.1 1) W c v e) (b_bit (kn &&& (us ^^^ (-1)))) 12 0 (-1) 0) := by
  rw [m_saysBy g' he, h1]
  refine congrArg some ?_
  split
  · rfl
  · exact q_best_cg 12 0 (-1) 0 fun y h1 h2 => ⟨ht y (by omega), rfl⟩
theorem m_says {g : c_G} {W : (Nat → Int32) → Int32} {L : Int32} (hM : q_M g W L) {c e : Nat} (hc : c < 6) (he : e < 6) (hk : p_N (g.1 1 (24 + 9 * c)) 7) :
    ∃ g', fX12_says g (nI c) (nI e) = some (g', q_says (g.1 1) W c (g.1 1 (24 + 9 * c + 1)) (g.1 1 (24 + 9 * c + 2)) e) ∧ q_fq g g' ∧ ∀ w, w < 12 → g'.1 12 (12 * e + w) = q_fit (g.1 1) W c (g.1 1 (24 + 9 * c + 1)) e w := by
  obtain ⟨g', e1, e2, e3, -⟩ := m_tell hM hc he hk
  have r1 : g'.1 1 = g.1 1 := e2.row (by decide) (by decide) (by decide) (by decide)
  refine ⟨g', ?_, e2, e3⟩
  unfold fX12_says
  rw [e1, Option.bind_some, e_one g' hc 2 (by decide) 2 rfl, Option.bind_some, m_used, Option.bind_some, r1, m_saysByT he r1 e3, Option.bind_some]
  rfl
