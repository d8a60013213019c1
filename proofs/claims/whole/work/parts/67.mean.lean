/-! PURE: mean -/
theorem q_cdI (a1 a2 : Int32) (g g' : c_G) : ∀ (n : Nat) (x0 x1 x2 : Int32), fX11_commonDivisor_2 a1 a2 n x0 x1 x2 g = fX11_commonDivisor_2 a1 a2 n x0 x1 x2 g'
  | 0, _, _, _ => rfl
  | n + 1, x0, x1, x2 => by
    rw [fX11_commonDivisor_2, fX11_commonDivisor_2]
    unfold fX11_commonDivisor_21
    simp only [c_let_d, q_cdI a1 a2 g g' n]
theorem q_cd00 (g : c_G) (a b : Int32) : fX11_commonDivisor g a b = fX11_commonDivisor g00 a b := by
  unfold fX11_commonDivisor
  exact q_cdI a b g g00 _ _ _ _
def q_mC (b n p : Nat) : Option Int64 := (fX11_commonDivisor g00 (nI b) (nI n)).bind fun r => if r = 0 then none else some ((if p = 0 then nI b else nI n) / r).toInt64
def q_mM (b n p : Nat) : Option Int64 := fX12_fraction g00 (nI b).toInt64 (nI n).toInt64 (nI p)
def q_mok (b n p : Nat) : Bool := n == 0 || ((q_mC b n p).isSome && decide (q_mC b n p = q_mM b n p))
theorem q_m_all : ∀ b, b < 73 → ∀ n, n < 7 → ∀ p, p < 2 → q_mok b n p = true := by decide +kernel
theorem q_mCM {b n p : Nat} (hb : b < 73) (hn : n < 7) (h0 : n ≠ 0) (hp : p < 2) : ∃ y, q_mC b n p = some y ∧ q_mM b n p = some y := by
  have h := q_m_all b hb n hn p hp
  unfold q_mok at h
  rw [Bool.or_eq_true, Bool.and_eq_true, beq_iff_eq, decide_eq_true_eq] at h
  rcases h with h | ⟨h1, h2⟩
  · exact absurd h h0
  · obtain ⟨y, hy⟩ := Option.isSome_iff_exists.mp h1
    exact ⟨y, hy, h2.symm.trans hy⟩
theorem e_meanL {gC gM : c_G} (hR : p_R gC gM) {W : (Nat → Int32) → Int32} {L : Int32} {bb : Nat} {gC1 gM1 : c_G} (hT : q_T gC gM gC1 gM1 W L bb) {n p : Nat} (hn : n < 7) (h0 : n ≠ 0) (hp : p < 2) (e55 : gC.1 55 6 = nI n) (e78 : gM1.1 1 78 = nI n) (em : gM.1 1 78 = nI n) (a1 a1' : Int32) (a2 a2' : Int32) :
    ∀ (d c F F' b : Nat), c + d = n → d < F → d < F' → b ≤ 12 * c →
      ∃ gM2 y, fX11_mean_55 a1 a2 F (nI p) (nI b) (nI c) gC1 = some (gC1, y) ∧ fX12_mean_48 a1' a2' F' (nI p) (nI b) (nI c) gM1 = some (gM2, y) ∧ p_R gC1 gM2 := by
  intro d
  induction d with
  | zero =>
    intro c F F' b hc hF hF' hb
    obtain ⟨F, rfl⟩ : ∃ f, F = f + 1 := ⟨F - 1, by omega⟩
    obtain ⟨F', rfl⟩ : ∃ f, F' = f + 1 := ⟨F' - 1, by omega⟩
    obtain ⟨g5, f5, hR5, m5, -⟩ := hT.lay hR
    obtain ⟨y, y1, y2⟩ := q_mCM (b := b) (n := n) (p := p) (by omega) hn h0 hp
    have c6 : gC1.1 101 6 = nI n := (hT.1.1 78).symm.trans e78
    have c55 : gC1.1 55 6 = nI n := by rw [hT.2.2.2.2.2.1 55 (by decide) (by decide), e55]
    refine ⟨g5, y, ?_, ?_, hR5⟩
    · rw [fX11_mean_55, c6, if_pos (nI_le (by omega) (by omega))]
      unfold fX11_mean_104
      rw [c55, q_cd00]
      unfold q_mC at y1
      obtain ⟨r, r1, r2⟩ := c_bd y1
      have r3 := c_gn r2
      rcases (show p = 0 ∨ p = 1 by omega) with rfl | rfl
      · rw [if_pos (show nI 0 = 0 from rfl), r1, Option.bind_some, if_neg r3.1]
        have := Option.some.inj r3.2
        rw [if_pos rfl] at this
        rw [this]
      · rw [if_neg (show ¬ nI 1 = 0 by decide), r1, Option.bind_some, if_neg r3.1]
        have := Option.some.inj r3.2
        rw [if_neg (by decide)] at this
        rw [this]
    · rw [fX12_mean_48, e78, if_pos (nI_le (by omega) (by omega)), f5, Option.bind_some, m5, em, q_fr00]
      unfold q_mM at y2
      rw [y2, Option.bind_some]
  | succ d ih =>
    intro c F F' b hc hF hF' hb
    obtain ⟨F, rfl⟩ : ∃ f, F = f + 1 := ⟨F - 1, by omega⟩
    obtain ⟨F', rfl⟩ : ∃ f, F' = f + 1 := ⟨F' - 1, by omega⟩
    have hc6 : c < 6 := by omega
    have c6 : gC1.1 101 6 = nI n := (hT.1.1 78).symm.trans e78
    have ck : gC1.1 108 c = gM1.1 1 (24 + 9 * c + 2) := by rw [hT.1.1, p_al_knows _ _ hc6]
    have hle := q_cnt_le (b_bit (gM1.1 1 (24 + 9 * c + 2))) 12 0
    obtain ⟨gM2, y, y1, y2, y3⟩ := ih (c + 1) F F' (b + q_cnt (b_bit (gM1.1 1 (24 + 9 * c + 2))) 12 0) (by omega) (by omega) (by omega) (by omega)
    refine ⟨gM2, y, ?_, ?_, y3⟩
    · rw [fX11_mean_55, c6, if_neg (nI_ge (by omega) (by omega)), p_in hc6 (by decide), if_pos rfl, nI_clamp (by omega), ck, q_bcN (hT.1.okknows hc6), nI_add, c_let_d, c_let_d, nI_1]
      exact y1
    · rw [fX12_mean_48, e78, if_neg (nI_ge (by omega) (by omega)), e_one gM1 hc6 2 (by decide) 2 rfl, Option.bind_some, m_many, Option.bind_some, nI_add, c_let_d, c_let_d, nI_1]
      exact y2
theorem q_sundays_78 {W : (Nat → Int32) → Int32} {L : Int32} : ∀ (k : Nat) (m : Nat → Int32), q_ok m → q_sundays W L k m 78 = m 78
  | 0, _, _ => rfl
  | k + 1, m, h => (q_sundays_78 k _ (q_sunday_ok h).1).trans (q_sunday_ok h).2.1
theorem e_mean {gC gM : c_G} (h : p_R gC gM) (a b : Int32) : p_El (fX11_mean gC a b) (fX12_mean gM a b) := by
  obtain ⟨n, hs, h1, h2, h3⟩ := id h
  obtain ⟨c, hc, e1, e2⟩ := hs.many
  unfold fX11_mean fX12_mean
  rcases e_sundays a with ⟨q1, q2, -⟩ | ⟨q1, q2, k, hk, rfl⟩
  · rw [q1, q2]
    exact h.sameL _
  · rw [q1, q2, if_neg i10, if_neg i10]
    rcases e_part b with ⟨q3, q4⟩ | ⟨q3, q4, p, hp, rfl⟩
    · rw [q3, q4]
      exact h.sameL _
    · rw [q3, q4, if_neg i10, if_neg i10, e1, e2]
      by_cases q0 : c = 0
      · subst q0
        rw [if_pos (show nI 0 = 0 from rfl), if_pos (show nI 0 = 0 from rfl)]
        exact h.sameL _
      · rw [if_neg (p_nz q0 (by omega)), if_neg (p_nz q0 (by omega))]
        obtain ⟨W, L, g1, g2, hL, f1, f2, hT, hm⟩ := q_trial h
        obtain ⟨g3, g4, f3, f4, hT2, hm2⟩ := hT.sundays hL (k := k) (by omega) (by omega)
        have e78 : g4.1 1 78 = nI c := by rw [hm2, hm, q_sundays_78 k _ hs.2.2.1.ok, e2]
        obtain ⟨g5, y, y1, y2, y3⟩ := e_meanL h hT2 hc q0 hp e1 e78 e2 (nI k) (nI k) (nI p) (nI p) c 0 c_F c_F 0 (by omega) (show c < 5000 by omega) (show c < 5000 by omega) (by omega)
        rw [nI_0] at y1 y2
        rw [f1, f2, Option.bind_some, Option.bind_some, f3, f4, Option.bind_some, Option.bind_some, y1, y2]
        exact ⟨g3, g5, y, rfl, rfl, y3⟩
