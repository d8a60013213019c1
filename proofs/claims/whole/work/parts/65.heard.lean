/-! PURE: what is heard: can, knew, of -/
theorem m_tellAll {g : c_G} {W : (Nat → Int32) → Int32} {L : Int32} (hM : q_M g W L) {c : Nat} (hc : c < 6) (hk : p_N (g.1 1 (24 + 9 * c)) 7) :
    ∃ g', fX12_tellAll g (nI c) = some g' ∧ q_fq g g' ∧ ∀ e w, e < 6 → w < 12 → g'.1 12 (12 * e + w) = q_fit (g.1 1) W c (g.1 1 (24 + 9 * c + 1)) e w := by
  have loop : ∀ (d e F : Nat) (g1 : c_G), e + d = 6 → d < F → q_fq g g1 → (∀ x w, x < e → w < 12 → g1.1 12 (12 * x + w) = q_fit (g.1 1) W c (g.1 1 (24 + 9 * c + 1)) x w) →
      ∃ g', fX12_tellAll_2 (nI c) F (nI c) (nI e) g1 = some g' ∧ q_fq g g' ∧ ∀ x w, x < 6 → w < 12 → g'.1 12 (12 * x + w) = q_fit (g.1 1) W c (g.1 1 (24 + 9 * c + 1)) x w := by
    intro d
    induction d with
    | zero =>
      intro e F g1 he hF hf ht
      obtain ⟨F, rfl⟩ : ∃ f, F = f + 1 := ⟨F - 1, by omega⟩
      refine ⟨g1, ?_, hf, fun x w hx hw => ht x w (by omega) hw⟩
      rw [fX12_tellAll_2, if_pos (show (6 : Int32) ≤ nI e from nI_le (a := 6) (by omega) (by omega))]
    | succ d ih =>
      intro e F g1 he hF hf ht
      obtain ⟨F, rfl⟩ : ∃ f, F = f + 1 := ⟨F - 1, by omega⟩
      have r1 : g1.1 1 = g.1 1 := hf.row (by decide) (by decide) (by decide) (by decide)
      obtain ⟨g2, e1, e2, e3, e4⟩ := m_tell (hM.fq hf) hc (e := e) (by omega) (by rw [r1]; exact hk)
      obtain ⟨g3, f1, f2, f3⟩ := ih (e + 1) F g2 (by omega) (by omega) (hf.tr e2) fun x w hx hw => by
        by_cases q : x = e
        · subst q
          rw [e3 w hw, r1]
        · rw [e4 _ (by omega)]
          exact ht x w (by omega) hw
      refine ⟨g3, ?_, f2, f3⟩
      rw [fX12_tellAll_2, if_neg (show ¬ (6 : Int32) ≤ nI e from nI_ge (b := 6) (by omega) (by decide)), e1, Option.bind_some, c_let_d, nI_1]
      exact f1
  unfold fX12_tellAll
  exact loop 6 0 c_F g rfl (by decide) (q_fq.rf g) fun x w hx => by omega
/-- whether all that is heard of a child is so -/
def q_allH (m : Nat → Int32) (W : (Nat → Int32) → Int32) (c : Nat) (v kn us : Int32) : Nat → Nat → Bool
  | 0, _ => true
  | k + 1, r => if m (83 + 3 * r) = nI c then (if q_val m W c v (m (83 + 3 * r + 1)).toNatClampNeg kn us = m (83 + 3 * r + 2) then q_allH m W c v kn us k (r + 1) else false) else q_allH m W c v kn us k (r + 1)
/-- what is heard is of children and elders that there are -/
def q_hok (m : Nat → Int32) : Prop := (∃ k, k < 6 ∧ m 82 = nI k) ∧ ∀ r, r < 5 → p_N (m (83 + 3 * r + 1)) 6 ∧ p_O (m (83 + 3 * r + 2)) 12
theorem p_Inv.hok {m : Nat → Int32} (h : p_Inv m) : q_hok m := by
  refine ⟨h.1 82 (by decide), fun r hr => ⟨?_, ?_⟩⟩
  · have z := h.1 (83 + 3 * r + 1) (by omega)
    unfold p_ok at z
    rwa [if_neg (by omega), if_neg (by omega), if_neg (by omega), if_neg (by omega), if_neg (by omega), if_neg (by omega), if_neg (by omega), if_pos (by omega), if_neg (by omega)] at z
  · have z := h.1 (83 + 3 * r + 2) (by omega)
    unfold p_ok at z
    rwa [if_neg (by omega), if_neg (by omega), if_neg (by omega), if_neg (by omega), if_neg (by omega), if_neg (by omega), if_neg (by omega), if_pos (by omega), if_pos (by omega)] at z
theorem e_at83 {r : Nat} : (83 : Int32) + (3 : Int32) * nI r = nI (83 + 3 * r) := by
  show nI 83 + nI 3 * nI r = _
  rw [pk_mul, nI_add]
theorem m_allHeard {g : c_G} {m : Nat → Int32} (hm : g.1 1 = m) (ho : q_hok m) {k : Nat} (hk : k < 6) (ek : m 82 = nI k) {W : (Nat → Int32) → Int32} {c : Nat} {v : Int32} (ht : ∀ e w, e < 6 → w < 12 → g.1 12 (12 * e + w) = q_fit m W c v e w) (kn us : Int32) :
    fX12_isAllHeard g (nI c) kn us = some (if q_allH m W c v kn us k 0 = true then 1 else 0) := by
  subst hm
  have loop : ∀ (d r F : Nat), r + d = k → d < F → fX12_isAllHeard_3 (nI c) kn us F (nI c) kn us (nI r) g = some (if q_allH (g.1 1) W c v kn us d r = true then 1 else 0) := by
    intro d
    induction d with
    | zero =>
      intro r F hr hF
      obtain ⟨F, rfl⟩ : ∃ f, F = f + 1 := ⟨F - 1, by omega⟩
      rw [fX12_isAllHeard_3, ek, if_pos (nI_le (by omega) (by omega))]
      rfl
    | succ d ih =>
      intro r F hr hF
      obtain ⟨F, rfl⟩ : ∃ f, F = f + 1 := ⟨F - 1, by omega⟩
      have ih' := ih (r + 1) F (by omega) (by omega)
      obtain ⟨⟨e, he, ee⟩, -⟩ := ho.2 r (by omega)
      rw [fX12_isAllHeard_3, ek, if_neg (nI_ge (by omega) (by omega)), c_let_d, e_at83, nI_1, p_in (show 83 + 3 * r < 136 by omega) (by decide), if_pos rfl, nI_clamp (by omega)]
      unfold q_allH fX12_isAllHeard_64
      by_cases q : g.1 1 (83 + 3 * r) = nI c
      · rw [if_pos q, if_pos q, p_in (show 83 + 3 * r + 1 < 136 by omega) (by decide), if_pos rfl, nI_clamp (by omega), ee, m_saysByT (g := g) (g' := g) (W := W) (c := c) (v := v) he rfl (fun w hw => ht e w he hw) kn us, Option.bind_some, show nI (83 + 3 * r) + 2 = nI (83 + 3 * r + 2) from nI_add _ 2, p_in (show 83 + 3 * r + 2 < 136 by omega) (by decide), if_pos rfl, nI_clamp (by omega), nI_clamp (show e < 2 ^ 31 by omega)]
        show (if q_val (g.1 1) W c v e kn us = _ then _ else _) = _
        by_cases q2 : q_val (g.1 1) W c v e kn us = g.1 1 (83 + 3 * r + 2)
        · rw [if_pos q2, if_pos q2, c_let_d, nI_1]
          exact ih'
        · rw [if_neg q2, if_neg q2]
          rfl
      · rw [if_neg q, if_neg q, c_let_d, nI_1]
        exact ih'
  unfold fX12_isAllHeard
  exact loop k 0 c_F (by omega) (show k < 5000 by omega)
theorem p_St.hwC {g : c_G} {s : Nat} {m : Nat → Int32} (h : p_St g s m) {r : Nat} (hr : r < 5) : g.1 (s + 14) r = p_or (m (83 + 3 * r + 2)) := by
  have h1 : ¬ g.1 (s + 14) r = -1 := by
    rcases (show r = 0 ∨ r = 1 ∨ r = 2 ∨ r = 3 ∨ r = 4 by omega) with rfl | rfl | rfl | rfl | rfl
    · exact h.2.1 85 (by decide) rfl
    · exact h.2.1 88 (by decide) rfl
    · exact h.2.1 91 (by decide) rfl
    · exact h.2.1 94 (by decide) rfl
    · exact h.2.1 97 (by decide) rfl
  rw [h.1, p_al_hw _ _ hr, p_or_un h1]
theorem c_heardIsSo {g : c_G} {m : Nat → Int32} {W : (Nat → Int32) → Int32} {L : Int32} (hs : p_St g 55 m) (hW : q_C g 55 W L) {k : Nat} (hk : k < 6) (ek : m 82 = nI k) {c : Nat} (hc : c < 6) (v : Int32) :
    ∃ g', fX11_heardIsSo g (nI c) v = some (g', if q_allH m W c v (m (24 + 9 * c + 2)) (q_used m) k 0 = true then 1 else 0) ∧ (∀ a, a ≠ 3 → a ≠ 4 → g'.1 a = g.1 a) ∧ g'.2 = g.2 := by
  have ho := hs.2.2.1.hok
  have loop : ∀ (d r F : Nat) (g1 : c_G), r + d = k → d < F → p_St g1 55 m → q_C g1 55 W L → (∀ a, a ≠ 3 → a ≠ 4 → g1.1 a = g.1 a) → g1.2 = g.2 →
      ∃ g', fX11_heardIsSo_2 (nI c) v F (nI c) v (nI r) g1 = some (g', if q_allH m W c v (m (24 + 9 * c + 2)) (q_used m) d r = true then 1 else 0) ∧ (∀ a, a ≠ 3 → a ≠ 4 → g'.1 a = g.1 a) ∧ g'.2 = g.2 := by
    intro d
    induction d with
    | zero =>
      intro r F g1 hr hF hs1 hW1 h1 h2
      obtain ⟨F, rfl⟩ : ∃ f, F = f + 1 := ⟨F - 1, by omega⟩
      refine ⟨g1, ?_, h1, h2⟩
      rw [fX11_heardIsSo_2, show g1.1 66 3 = nI k from (hs1.1 82).symm.trans ek, if_pos (nI_le (by omega) (by omega))]
      rfl
    | succ d ih =>
      intro r F g1 hr hF hs1 hW1 h1 h2
      obtain ⟨F, rfl⟩ : ∃ f, F = f + 1 := ⟨F - 1, by omega⟩
      have hr5 : r < 5 := by omega
      obtain ⟨⟨e, he, ee⟩, hwO⟩ := ho.2 r hr5
      have c67 : g1.1 67 r = m (83 + 3 * r) := by rw [hs1.1, p_al_hc _ _ hr5]
      have c68 : g1.1 68 r = m (83 + 3 * r + 1) := by rw [hs1.1, p_al_he _ _ hr5]
      have c62 : g1.1 62 c = m (24 + 9 * c + 2) := by rw [hs1.1, p_al_knows _ _ hc]
      have c69 : g1.1 69 r = p_or (m (83 + 3 * r + 2)) := hs1.hwC hr5
      rw [fX11_heardIsSo_2, show g1.1 66 3 = nI k from (hs1.1 82).symm.trans ek, if_neg (nI_ge (by omega) (by omega)), p_in hr5 (by decide), if_pos rfl, nI_clamp (show r < 2 ^ 31 by omega), c67, c68, p_in hc (by decide), if_pos rfl, nI_clamp (show c < 2 ^ 31 by omega), c62, ee]
      unfold q_allH fX11_heardIsSo_87
      by_cases q : m (83 + 3 * r) = nI c
      · obtain ⟨g2, f1, f2, f3⟩ := c_says hs1 rfl hW1 hc he v (m (24 + 9 * c + 2))
        have hs2 : p_St g2 55 m := hs1.eq (fun a z1 z2 => f2 a (by omega) (by omega)) (by rw [f3])
        rw [if_pos q, if_pos q, f1, c_b2s, f2 69 (by decide) (by decide), c69, ee, nI_clamp (show e < 2 ^ 31 by omega), q_says_val]
        have hW2 : q_C g2 55 W L := hW1.eq hs1.2.2.2 (fun a z1 z2 => f2 a (by omega) (by omega)) (by rw [f3])
        have go := ih (r + 1) F g2 (by omega) (by omega) hs2 hW2 (fun a z1 z2 => (f2 a z1 z2).trans (h1 a z1 z2)) (f3.trans h2)
        have iff := p_or_inj (n := 12) (by decide) (q_val_O m W c v e (m (24 + 9 * c + 2)) (q_used m)) hwO
        by_cases q2 : q_val m W c v e (m (24 + 9 * c + 2)) (q_used m) = m (83 + 3 * r + 2)
        · rw [if_pos (iff.mpr q2), if_pos q2, c_let_d, nI_1]
          exact go
        · rw [if_neg (fun z => q2 (iff.mp z)), if_neg q2]
          exact ⟨g2, rfl, fun a z1 z2 => (f2 a z1 z2).trans (h1 a z1 z2), f3.trans h2⟩
      · rw [if_neg q, if_neg q, c_let_d, nI_1]
        exact ih (r + 1) F g1 (by omega) (by omega) hs1 hW1 h1 h2
  unfold fX11_heardIsSo
  exact loop k 0 c_F g (by omega) (show k < 5000 by omega) hs hW (fun _ _ _ => rfl) rfl
/-- v is told apart from the row -/
theorem q_env_v {m : Nat → Int32} {c : Nat} {x v : Int32} {y e : Nat} (he : e < 6) : q_env (upd m (24 + 9 * c + 1) x) c v y e = q_env m c v y e := funext fun j => by
  unfold q_env
  match j with
  | 0 => rfl
  | 1 => exact pk_un (by omega)
  | 2 => rfl
  | 3 => rfl
  | 4 => exact pk_un (by omega)
  | _ + 5 => simp only [pk_un (show 24 + 9 * c + 3 ≠ 24 + 9 * c + 1 by omega)]
theorem q_fit_v {m : Nat → Int32} {W : (Nat → Int32) → Int32} {c : Nat} {x v : Int32} {e y : Nat} (he : e < 6) : q_fit (upd m (24 + 9 * c + 1) x) W c v e y = q_fit m W c v e y := by
  unfold q_fit
  rw [q_env_v he, pk_un (show 24 + 9 * c ≠ 24 + 9 * c + 1 by omega), pk_un (show 4 * e ≠ 24 + 9 * c + 1 by omega), pk_un (show 24 + 9 * c + 3 ≠ 24 + 9 * c + 1 by omega), pk_un (show 24 + 9 * c + (5 + y % 4) ≠ 24 + 9 * c + 1 by omega)]
theorem q_val_v {m : Nat → Int32} {W : (Nat → Int32) → Int32} {c : Nat} {x v kn us : Int32} {e : Nat} (he : e < 6) : q_val (upd m (24 + 9 * c + 1) x) W c v e kn us = q_val m W c v e kn us := by
  unfold q_val q_mute
  rw [pk_un (show 4 * e + 1 ≠ 24 + 9 * c + 1 by omega), pk_un (show 4 * e + 3 ≠ 24 + 9 * c + 1 by omega), show q_fit (upd m (24 + 9 * c + 1) x) W c v e = q_fit m W c v e from funext fun y => q_fit_v he]
theorem q_allH_v {m : Nat → Int32} (ho : q_hok m) {W : (Nat → Int32) → Int32} {c : Nat} (hc : c < 6) {x v kn us : Int32} : ∀ (k r : Nat), k + r < 6 → q_allH (upd m (24 + 9 * c + 1) x) W c v kn us k r = q_allH m W c v kn us k r
  | 0, r, _ => rfl
  | k + 1, r, h => by
    obtain ⟨⟨e, he, ee⟩, -⟩ := ho.2 r (by omega)
    unfold q_allH
    rw [pk_un (show 83 + 3 * r ≠ 24 + 9 * c + 1 by omega), pk_un (show 83 + 3 * r + 1 ≠ 24 + 9 * c + 1 by omega), pk_un (show 83 + 3 * r + 2 ≠ 24 + 9 * c + 1 by omega), ee, nI_clamp (by omega), q_val_v he, q_allH_v ho hc k (r + 1) (by omega)]
theorem q_prev {s : Nat} : nI s + (-1) = if s = 0 then -1 else nI (s - 1) := by
  by_cases h : s = 0
  · subst h; rfl
  · rw [if_neg h]
    obtain ⟨t, rfl⟩ : ∃ t, s = t + 1 := ⟨s - 1, by omega⟩
    rw [← nI_1, Int32.add_assoc, show (1 : Int32) + -1 = 0 by decide, Int32.add_zero]
    rfl
theorem p_upd_upd (m : Nat → Int32) (K : Nat) (a b : Int32) : upd (upd m K a) K b = upd m K b := funext fun j => by
  by_cases q : j = K
  · subst q; rw [pk_us, pk_us]
  · rw [pk_un q, pk_un q, pk_un q]
/-- the index of a loop downwards -/
def q_dn (s : Nat) : Int32 := if s = 0 then -1 else nI (s - 1)
theorem e_can {gC gM : c_G} (h : p_R gC gM) (a b : Int32) : p_Eq (fX11_can gC a b) (fX12_can gM a b) := by
  obtain ⟨n, hs, h1, h2, h3⟩ := id h
  obtain ⟨c9, hc9, e1, e2⟩ := hs.many
  unfold fX11_can fX12_can
  rcases e_child hc9 e1 e2 a with ⟨q1, q2, -⟩ | ⟨q1, q2, c, hcc, rfl⟩
  · rw [q1, q2]
    exact h.same _
  · rw [q1, q2, Option.bind_some, Option.bind_some, if_neg i10, if_neg i10]
    have hc : c < 6 := by omega
    rcases e_isInK b (n := 2) (by decide) 1 rfl with ⟨q3, q4⟩ | ⟨q3, p, hp, rfl⟩
    · rw [q3, if_pos rfl]
      rcases e_lo (by decide) q4 with q | q
      · rw [if_pos q]
        exact h.same _
      · rw [if_neg (p_ge q (by decide)), if_neg (show ¬ b ≤ 1 from p_ltge (n := 2) q (k := 1) (by decide) (by decide))]
        exact h.same _
    · obtain ⟨W, L, hL, hW, hM⟩ := hs.ctx h2 h3
      have ho := hs.2.2.1.hok
      obtain ⟨k, hk, ek⟩ := ho.1
      have key : ∀ (s F F' cnt : Nat) (y : Int32) (g1 g2 : c_G), s ≤ 10 → s < F → s < F' → (∀ a, a ≠ 3 → a ≠ 4 → g1.1 a = gC.1 a) → g1.2 = gC.2 → q_fw gM g2 → (∃ x, g2.1 1 = upd (gM.1 1) (24 + 9 * c + 1) x) →
          ∃ g3 g4 r, fX11_can_29 (nI c) (nI p) F (nI c) (nI p) (nI cnt) y (q_dn s) g1 = some (g3, r) ∧ fX12_can_43 (nI c) (nI p) F' (nI c) (nI p) (gM.1 1 (24 + 9 * c + 1)) (q_used (gM.1 1)) (nI cnt) y (q_dn s) g2 = some (g4, r) ∧ p_R g3 g4 := by
        intro s
        induction s with
        | zero =>
          intro F F' cnt y g1 g2 _ hF hF' c1 c2 hw hx
          obtain ⟨F, rfl⟩ : ∃ f, F = f + 1 := ⟨F - 1, by omega⟩
          obtain ⟨F', rfl⟩ : ∃ f, F' = f + 1 := ⟨F' - 1, by omega⟩
          obtain ⟨x, hx⟩ := hx
          have m0 : (c_si g2 1 (24 + 9 * c + 1) (gM.1 1 (24 + 9 * c + 1))).1 1 = gM.1 1 := by rw [e_up, hx, p_upd_upd, p_upd_self]
          have hR : p_R g1 (c_si g2 1 (24 + 9 * c + 1) (gM.1 1 (24 + 9 * c + 1))) := h.scr (q_fC34 c1 c2) (hw.fM.tr q_fw.si.fM) (fun a z1 z2 => c1 a (by omega) (by omega)) (by rw [c2]) m0
          rw [fX11_can_29, fX12_can_43, show q_dn 0 = -1 from rfl, if_pos (show (-1 : Int32) < 0 by decide), if_pos (show (-1 : Int32) < 0 by decide), e_change g2 hc 1 (by decide) 1 rfl, c_b2s]
          by_cases q : nI p = 0
          · rw [if_pos q, if_pos q]
            exact ⟨_, _, _, rfl, rfl, hR⟩
          · rw [if_neg q, if_neg q]
            exact ⟨_, _, _, rfl, rfl, hR⟩
        | succ s ih =>
          intro F F' cnt y g1 g2 hs10 hF hF' c1 c2 hw hx
          obtain ⟨F, rfl⟩ : ∃ f, F = f + 1 := ⟨F - 1, by omega⟩
          obtain ⟨F', rfl⟩ : ∃ f, F' = f + 1 := ⟨F' - 1, by omega⟩
          obtain ⟨x, hx⟩ := hx
          have hs1 : p_St g1 55 (gM.1 1) := hs.eq (fun a z1 z2 => c1 a (by omega) (by omega)) (by rw [c2])
          have hW1 : q_C g1 55 W L := hW.eq hs.2.2.2 (fun a z1 z2 => c1 a (by omega) (by omega)) (by rw [c2])
          obtain ⟨g3, f1, f2, f3⟩ := c_heardIsSo hs1 hW1 hk ek hc (nI s)
          generalize hg4 : c_si g2 1 (24 + 9 * c + 1) (nI s) = g4
          have m4 : g4.1 1 = upd (gM.1 1) (24 + 9 * c + 1) (nI s) := by rw [← hg4, e_up, hx, p_upd_upd]
          have w4 : q_fw gM g4 := by rw [← hg4]; exact hw.tr q_fw.si
          have m4ne : ∀ j, j ≠ 24 + 9 * c + 1 → g4.1 1 j = gM.1 1 j := fun j hj => by rw [m4, pk_un hj]
          have m4v : g4.1 1 (24 + 9 * c + 1) = nI s := by rw [m4, pk_us]
          have hM4 : q_M g4 W L := hM.fw w4 (m4ne 81 (by omega))
          obtain ⟨g5, k1, k2, k3⟩ := m_tellAll hM4 hc (by rw [m4ne _ (by omega)]; exact hs.okkind hc)
          have m5 : g5.1 1 = upd (gM.1 1) (24 + 9 * c + 1) (nI s) := (k2.row (by decide) (by decide) (by decide) (by decide)).trans m4
          have t5 : ∀ e w, e < 6 → w < 12 → g5.1 12 (12 * e + w) = q_fit (upd (gM.1 1) (24 + 9 * c + 1) (nI s)) W c (nI s) e w := fun e w he hw => by
            rw [k3 e w he hw, m4v, m4]
          have ho5 : q_hok (upd (gM.1 1) (24 + 9 * c + 1) (nI s)) := ⟨⟨k, hk, by rw [pk_un (by omega)]; exact ek⟩, fun r hr => by
            rw [pk_un (by omega), pk_un (by omega)]
            exact ho.2 r hr⟩
          have hH := m_allHeard m5 ho5 hk (by rw [pk_un (by omega)]; exact ek) t5 (gM.1 1 (24 + 9 * c + 2)) (q_used (gM.1 1))
          rw [q_allH_v ho hc k 0 (by omega)] at hH
          have next := fun cnt y => ih F F' cnt y g3 g5 (by omega) (by omega) (by omega) (fun a z1 z2 => (f2 a z1 z2).trans (c1 a z1 z2)) (f3.trans c2) (w4.tr k2.w) ⟨_, m5⟩
          rw [fX11_can_29, fX12_can_43, show q_dn (s + 1) = nI s from rfl, if_neg (nI_pos (by omega)), if_neg (nI_pos (by omega)), f1, c_b2s, e_change g2 hc 1 (by decide) 1 rfl, c_b2s, hg4, k1, Option.bind_some, e_one g5 hc 2 (by decide) 2 rfl, Option.bind_some, show g5.1 1 (24 + 9 * c + 2) = gM.1 1 (24 + 9 * c + 2) by rw [m5, pk_un (by omega)], hH, Option.bind_some]
          unfold fX11_can_51 fX12_can_89 fX12_can_104
          by_cases q : q_allH (gM.1 1) W c (nI s) (gM.1 1 (24 + 9 * c + 2)) (q_used (gM.1 1)) k 0 = true
          · rw [if_pos q, if_neg i10, if_neg i10, c_let_d, c_let_d, c_let_d, if_neg i10, c_let_d, nI_1, q_prev]
            exact next (cnt + 1) (nI s)
          · rw [if_neg q, if_pos rfl, if_pos rfl, c_let_d, c_let_d, if_pos rfl, c_let_d, Int32.add_zero, q_prev]
            exact next cnt y
      obtain ⟨g3, g4, r, k1, k2, k3⟩ := key 10 c_F c_F 0 (-5) gC gM (by decide) (by decide) (by decide) (fun _ _ _ => rfl) rfl (q_fw.rf gM) ⟨_, (p_upd_self _ _).symm⟩
      rw [q3, if_neg i10, if_neg (nI_pos (by omega)), if_pos (show nI p ≤ (1 : Int32) from nI_le (b := 1) (by omega) (by decide)), e_one gM hc 1 (by decide) 1 rfl, Option.bind_some, m_used, Option.bind_some]
      exact ⟨g3, g4, r, k1, k2, k3⟩
/-! KNEW: how many sets there are -/
def q_num (D : Nat → Bool) : Nat → Nat
  | 0 => 0
  | s + 1 => q_num D s + if D s = true then 1 else 0
def q_lst (D : Nat → Bool) : Nat → Int32 → Int32
  | 0, y => y
  | s + 1, y => q_lst D s (if D s = true then nI s else y)
theorem q_num_cg {D D' : Nat → Bool} : ∀ (s : Nat), (∀ x, x < s → D x = D' x) → q_num D s = q_num D' s
  | 0, _ => rfl
  | s + 1, h => by
    unfold q_num
    rw [h s (by omega), q_num_cg s fun x hx => h x (by omega)]
theorem q_lst_cg {D D' : Nat → Bool} : ∀ (s : Nat) (y : Int32), (∀ x, x < s → D x = D' x) → q_lst D s y = q_lst D' s y
  | 0, _, _ => rfl
  | s + 1, y, h => by
    unfold q_lst
    rw [h s (by omega), q_lst_cg s _ fun x hx => h x (by omega)]
theorem q_num_add {D : Nat → Bool} (n : Nat) : ∀ (k : Nat), q_num D (n + k) = q_num D n + q_num (fun s => D (n + s)) k
  | 0 => rfl
  | k + 1 => by
    show q_num D (n + k) + _ = q_num D n + (q_num (fun s => D (n + s)) k + _)
    rw [q_num_add n k, Nat.add_assoc]
    rfl
theorem q_num_0 {D : Nat → Bool} : ∀ (s : Nat), (∀ x, x < s → D x = false) → q_num D s = 0
  | 0, _ => rfl
  | s + 1, h => by
    unfold q_num
    rw [h s (by omega), q_num_0 s fun x hx => h x (by omega)]
    rfl
theorem q_lst_no {D : Nat → Bool} : ∀ (s : Nat) (y : Int32), (∀ x, x < s → D x = false) → q_lst D s y = y
  | 0, _, _ => rfl
  | s + 1, y, h => by
    unfold q_lst
    rw [h s (by omega)]
    exact q_lst_no s y fun x hx => h x (by omega)
theorem q_lst_at {D : Nat → Bool} {a : Nat} (ha : D a = true) (hl : ∀ x, x < a → D x = false) : ∀ (s : Nat) (y : Int32), a < s → q_lst D s y = nI a
  | 0, _, h => by omega
  | s + 1, y, h => by
    unfold q_lst
    by_cases e : a = s
    · subst e
      rw [if_pos ha]
      exact q_lst_no a _ hl
    · exact q_lst_at ha hl s _ (by omega)
/-- all of A in it, none of B -/
def q_in (A B : Nat → Bool) : Nat → Nat → Bool
  | 0, _ => true
  | k + 1, s => q_in A B k s && ((!A k || s.testBit k) && (!B k || !s.testBit k))
theorem q_in_iff {A B : Nat → Bool} {s : Nat} : ∀ (k : Nat), q_in A B k s = true ↔ ∀ w, w < k → (A w = true → s.testBit w = true) ∧ (B w = true → s.testBit w = false)
  | 0 => ⟨fun _ w hw => by omega, fun _ => rfl⟩
  | k + 1 => by
    show (q_in A B k s && _) = true ↔ _
    rw [Bool.and_eq_true, q_in_iff k]
    constructor
    · rintro ⟨h1, h2⟩ w hw
      by_cases e : w = k
      · subst e
        revert h2
        cases A w <;> cases B w <;> cases s.testBit w <;> simp
      · exact h1 w (by omega)
    · intro h
      refine ⟨fun w hw => h w (by omega), ?_⟩
      have := h k (by omega)
      revert this
      cases A k <;> cases B k <;> cases s.testBit k <;> simp
theorem q_in_lo {A B : Nat → Bool} {s s' : Nat} : ∀ (k : Nat), (∀ w, w < k → s.testBit w = s'.testBit w) → q_in A B k s = q_in A B k s'
  | 0, _ => rfl
  | k + 1, h => by
    show (q_in A B k s && _) = (q_in A B k s' && _)
    rw [q_in_lo k fun w hw => h w (by omega), h k (by omega)]
theorem q_cnt_snoc {D : Nat → Bool} : ∀ (k w : Nat), q_cnt D (k + 1) w = q_cnt D k w + if D (w + k) = true then 1 else 0
  | 0, w => by
    show (if D w = true then 1 else 0) + 0 = 0 + _
    rw [Nat.add_zero, Nat.zero_add, Nat.add_zero]
  | k + 1, w => by
    show (if D w = true then 1 else 0) + q_cnt D (k + 1) (w + 1) = (if D w = true then 1 else 0) + q_cnt D k (w + 1) + _
    rw [q_cnt_snoc k (w + 1), show w + 1 + k = w + (k + 1) by omega, Nat.add_assoc]
theorem q_num_in {A B : Nat → Bool} : ∀ (k : Nat), (∀ w, w < k → ¬ (A w = true ∧ B w = true)) → q_num (q_in A B k) (2 ^ k) = 2 ^ (k - q_cnt (fun w => A w || B w) k 0)
  | 0, _ => rfl
  | k + 1, h => by
    have ih := q_num_in (A := A) (B := B) k fun w hw => h w (by omega)
    have hle := q_cnt_le (fun w => A w || B w) k 0
    have lo : q_num (q_in A B (k + 1)) (2 ^ k) = if A k = true then 0 else q_num (q_in A B k) (2 ^ k) := by
      by_cases q : A k = true
      · rw [if_pos q]
        refine q_num_0 _ fun x hx => ?_
        show (q_in A B k x && _) = false
        rw [q, Nat.testBit_lt_two_pow hx]
        simp
      · rw [if_neg q]
        refine q_num_cg _ fun x hx => ?_
        show (q_in A B k x && _) = _
        rw [show A k = false by simpa using q, Nat.testBit_lt_two_pow hx]
        simp
    have tb : ∀ x, x < 2 ^ k → (2 ^ k + x).testBit k = true ∧ ∀ w, w < k → (2 ^ k + x).testBit w = x.testBit w := by
      intro x hx
      refine ⟨?_, fun w hw => ?_⟩
      · rw [Nat.testBit_two_pow_add_eq, Nat.testBit_lt_two_pow hx]; rfl
      · exact Nat.testBit_two_pow_add_gt hw x
    have hi : q_num (fun s => q_in A B (k + 1) (2 ^ k + s)) (2 ^ k) = if B k = true then 0 else q_num (q_in A B k) (2 ^ k) := by
      by_cases q : B k = true
      · rw [if_pos q]
        refine q_num_0 _ fun x hx => ?_
        show (q_in A B k (2 ^ k + x) && _) = false
        rw [q, (tb x hx).1]
        simp
      · rw [if_neg q]
        refine q_num_cg _ fun x hx => ?_
        show (q_in A B k (2 ^ k + x) && _) = _
        rw [show B k = false by simpa using q, (tb x hx).1, q_in_lo k (tb x hx).2]
        simp
    rw [show 2 ^ (k + 1) = 2 ^ k + 2 ^ k by rw [Nat.pow_succ]; omega, q_num_add, lo, hi, ih, q_cnt_snoc, Nat.zero_add]
    have hk := h k (by omega)
    by_cases qa : A k = true
    · have qb : B k = false := by simpa using fun z => hk ⟨qa, z⟩
      rw [if_pos qa, if_neg (by simp [qb]), if_pos (by simp [qa]), Nat.zero_add, show k + 1 - (q_cnt (fun w => A w || B w) k 0 + 1) = k - q_cnt (fun w => A w || B w) k 0 by omega]
    · by_cases qb : B k = true
      · rw [if_neg qa, if_pos qb, if_pos (by simp [qb]), Nat.add_zero, show k + 1 - (q_cnt (fun w => A w || B w) k 0 + 1) = k - q_cnt (fun w => A w || B w) k 0 by omega]
      · rw [if_neg qa, if_neg qb, if_neg (by simp [show A k = false by simpa using qa, show B k = false by simpa using qb]), Nat.add_zero (q_cnt (fun w => A w || B w) k 0), show k + 1 - q_cnt (fun w => A w || B w) k 0 = k - q_cnt (fun w => A w || B w) k 0 + 1 by omega, Nat.pow_succ]
        omega
theorem m_knewL (a1 a2 : Int32) {g : c_G} {m : Nat → Int32} (hm : g.1 1 = m) (ho : q_hok m) {k : Nat} (hk : k < 6) (ek : m 82 = nI k) {W : (Nat → Int32) → Int32} {c : Nat} {v us : Int32} (ht : ∀ e w, e < 6 → w < 12 → g.1 12 (12 * e + w) = q_fit m W c v e w) (x2 : Int32) : ∀ (s F b : Nat) (y : Int32), s ≤ 4096 → s < F →
    fX12_knew_22 a1 a2 F (nI c) x2 us (nI b) y (q_dn s) g = some (g, if x2 = 0 then q_lst (fun s => q_allH m W c v (nI s) us k 0) s y else nI (b + q_num (fun s => q_allH m W c v (nI s) us k 0) s)) := by
  intro s
  induction s with
  | zero =>
    intro F b y hs hF
    obtain ⟨F, rfl⟩ : ∃ f, F = f + 1 := ⟨F - 1, by omega⟩
    rw [fX12_knew_22, show q_dn 0 = -1 from rfl, if_pos (by decide)]
    split <;> rfl
  | succ s ih =>
    intro F b y hs hF
    obtain ⟨F, rfl⟩ : ∃ f, F = f + 1 := ⟨F - 1, by omega⟩
    rw [fX12_knew_22, show q_dn (s + 1) = nI s from rfl, if_neg (nI_pos (by omega)), m_allHeard hm ho hk ek ht (nI s) us, Option.bind_some]
    unfold fX12_knew_49 fX12_knew_64 q_num q_lst
    by_cases q : q_allH m W c v (nI s) us k 0 = true
    · rw [if_pos q, if_neg i10, c_let_d, if_neg i10, c_let_d, nI_1, q_prev, if_pos q, if_pos q, show b + (q_num (fun s => q_allH m W c v (nI s) us k 0) s + 1) = b + 1 + q_num (fun s => q_allH m W c v (nI s) us k 0) s by omega]
      exact ih F (b + 1) (nI s) (by omega) (by omega)
    · rw [if_neg q, if_pos rfl, c_let_d, if_pos rfl, c_let_d, Int32.add_zero, q_prev, if_neg q, if_neg q, Nat.add_zero]
      exact ih F b y (by omega) (by omega)
