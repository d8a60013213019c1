/-! PURE: what a call on both sides needs and leaves -/
theorem q_cgW {g : c_G} {v : Nat} {W : (Nat → Int32) → Int32} (h : p_W g v W) : q_cg W := fun _ _ he => h.cg he
theorem p_St.ctx {gC gM : c_G} {n : Nat} (hs : p_St gC 55 (gM.1 1)) (hr : p_Rule n (gM.1 1)) (h3 : p_Rest gC gM n) : ∃ W L, p_N L 100 ∧ q_C gC 55 W L ∧ q_M gM W L := by
  obtain ⟨⟨hn, v1, v2, hv, v3, v4⟩, -, -, -, -, hk, -⟩ := h3
  have hV := hs.2.2.2
  have hu : gM.1 1 81 = p_rule (gC.2.2 55) := hs.1 81
  obtain ⟨u, hu1, hu2⟩ := hr
  have hcase : gC.2.2 55 = 51 ∨ ∃ k, k < 6 ∧ gC.2.2 55 = 27 + 4 * k := by
    simp only [c_isV, Bool.or_eq_true, beq_iff_eq] at hV
    rcases hV with (((((h | h) | h) | h) | h) | h) | h
    · exact Or.inr ⟨0, by decide, h⟩
    · exact Or.inr ⟨1, by decide, h⟩
    · exact Or.inr ⟨2, by decide, h⟩
    · exact Or.inr ⟨3, by decide, h⟩
    · exact Or.inr ⟨4, by decide, h⟩
    · exact Or.inr ⟨5, by decide, h⟩
    · exact Or.inl h
  rcases hcase with h | ⟨k, hk6, h⟩
  · have e81 : gM.1 1 81 = 0 := by rw [hu, h]; rfl
    have hW : p_W gC 51 (fun _ => 0) := ⟨0, by decide, v3, fun i hi => by omega, fun _ => rfl⟩
    exact ⟨fun _ => 0, 0, ⟨0, by decide, rfl⟩, ⟨by rw [h]; exact hW, by rw [h]; exact v4, 0, by decide, rfl⟩, q_cgW hW, hk, Or.inl ⟨e81, fun _ => rfl, rfl⟩⟩
  · have er : p_rule (27 + 4 * k) = nI (k + 1) := by
      unfold p_rule
      rw [if_neg (by omega), show (27 + 4 * k - 27) / 4 = k by omega]
    have e81 : gM.1 1 81 = nI (k + 1) := by rw [hu, h, er]
    have ek : k + 1 = u := (nI_eq (by omega) (by omega)).mp (e81.symm.trans hu2)
    obtain ⟨t, W, L, a1, a2, a3, a4, a5, a6⟩ := hv k (by omega)
    exact ⟨W, L, a5, ⟨by rw [h]; exact a6, by rw [h]; exact a4, a5⟩, q_cgW a6, hk, Or.inr ⟨k, t, hk6, a1, e81, a2, a3⟩⟩
theorem p_R.scr {gC gM gC' gM' : c_G} (h : p_R gC gM) (hC : p_fC gC gC') (hM : p_fM gM gM') (c1 : ∀ a, 55 ≤ a → a < 78 → gC'.1 a = gC.1 a) (c2 : gC'.2.2 55 = gC.2.2 55) (m1 : gM'.1 1 = gM.1 1) : p_R gC' gM' := by
  obtain ⟨n, hs, h1, h2, h3⟩ := h
  refine p_R.step h3 ?_ (by rw [m1]; exact h1) (by rw [m1]; exact h2) hC hM
  rw [m1]
  exact hs.eq (fun a z1 z2 => c1 a z1 (by omega)) c2
theorem q_fs.fC {s : Nat} {g g' : c_G} (h : q_fs s g g') (hS : s = 55 ∨ s = 101) : p_fC g g' := by
  refine ⟨fun a j q => ?_, by rw [h.2], by rw [h.2]⟩
  simp only [p_scC, Bool.or_eq_false_iff, Bool.and_eq_false_iff, beq_eq_false_iff_ne, decide_eq_false_iff_not] at q
  rw [h.1 a (by omega) (by omega) (by omega)]
theorem q_fw.fM {g g' : c_G} (h : q_fw g g') : p_fM g g' := by
  refine ⟨fun a j q => ?_, by rw [h.2]⟩
  simp only [p_scM, Bool.or_eq_false_iff, Bool.and_eq_false_iff, beq_eq_false_iff_ne] at q
  exact h.1 a j (by omega)
theorem q_fC34 {g g' : c_G} (h : ∀ a, a ≠ 3 → a ≠ 4 → g'.1 a = g.1 a) (h2 : g'.2 = g.2) : p_fC g g' := by
  refine ⟨fun a j q => ?_, by rw [h2], by rw [h2]⟩
  simp only [p_scC, Bool.or_eq_false_iff, Bool.and_eq_false_iff, beq_eq_false_iff_ne, decide_eq_false_iff_not] at q
  rw [h a (by omega) (by omega)]
/-- both sides only weighed -/
theorem p_R.said {gC gM gC' gM' : c_G} (h : p_R gC gM) (h1 : ∀ a, a ≠ 3 → a ≠ 4 → gC'.1 a = gC.1 a) (h2 : gC'.2 = gC.2) (hM : q_fq gM gM') : p_R gC' gM' :=
  h.scr (q_fC34 h1 h2) hM.w.fM (fun a z1 z2 => h1 a (by omega) (by omega)) (by rw [h2]) (hM.row (by decide) (by decide) (by decide) (by decide))
theorem e_takeC {gC gM : c_G} (h : p_R gC gM) (a b : Int32) : p_Eq (fX11_take gC a b) (fX12_take gM a b) := by
  obtain ⟨n, hs, h1, h2, h3⟩ := id h
  obtain ⟨c, hc, e1, e2⟩ := hs.many
  unfold fX11_take fX12_take
  rcases e_child hc e1 e2 a with ⟨q1, q2, -⟩ | ⟨q1, q2, i, hi, rfl⟩
  · rw [q1, q2]
    exact h.same _
  · rw [q1, q2]
    rcases e_elder b with ⟨q3, q4, -⟩ | ⟨q3, q4, e, he, rfl⟩
    · rw [q3, q4]
      exact h.same _
    · rw [q3, q4]
      have hi6 : i < 6 := by omega
      obtain ⟨W, L, hL, hW, hM⟩ := hs.ctx h2 h3
      obtain ⟨g1, f1, f2, f3⟩ := c_takeTo hs rfl hW hi6 he
      obtain ⟨g2, k1, k2, k3⟩ := m_goesTo hM hi6 he (hs.okkind hi6)
      rw [f1, k1]
      refine ⟨g1, g2, _, rfl, rfl, p_R.step h3 (by rw [k2]; exact f2) ?_ ?_ (f3.fC (Or.inl rfl)) k3.fM⟩
      · rw [k2]
        exact (h1.ag.eq fun j z1 _ => q_take_hi he z1).age (by decide)
      · rw [k2]
        obtain ⟨u, u1, u2⟩ := h2
        exact ⟨u, u1, (q_take_hi he (by omega)).trans u2⟩
theorem e_fits {gC gM : c_G} (h : p_R gC gM) (a b d : Int32) : p_Eq (fX11_fits gC a b d) (fX12_fits gM a b d) := by
  obtain ⟨n, hs, h1, h2, h3⟩ := id h
  obtain ⟨c, hc, e1, e2⟩ := hs.many
  unfold fX11_fits fX12_fits
  rcases e_child hc e1 e2 a with ⟨q1, q2, -⟩ | ⟨q1, q2, i, hi, rfl⟩
  · rw [q1, q2]
    exact h.same _
  · rw [q1, q2]
    rcases e_word b with ⟨q3, q4, -⟩ | ⟨q3, q4, w, hw, rfl⟩
    · rw [q3, q4]
      exact h.same _
    · rw [q3, q4]
      rcases e_elder d with ⟨q5, q6, -⟩ | ⟨q5, q6, e, he, rfl⟩
      · rw [q5, q6]
        exact h.same _
      · rw [q5, q6]
        have hi6 : i < 6 := by omega
        obtain ⟨W, L, hL, hW, hM⟩ := hs.ctx h2 h3
        have r6 : gC.1 61 i = gM.1 1 (24 + 9 * i + 1) := by rw [hs.1, p_al_v _ _ hi6]
        obtain ⟨g1, f1, f2, f3, f4⟩ := c_weigh hs rfl hW hi6 he (gM.1 1 (24 + 9 * i + 1))
        obtain ⟨g2, k1, k2⟩ := m_fit hM hi6 he hw (hs.okkind hi6)
        simp only [Option.bind_some, i10, p_in hi6 (show 6 < 2 ^ 31 by decide), nI_clamp (show i < 2 ^ 31 by omega), r6, f1, k1, c_b2s, p_in hw (show 12 < 2 ^ 31 by decide), nI_clamp (show w < 2 ^ 31 by omega), f4 w hw, ↓reduceIte]
        exact ⟨g1, g2, _, rfl, rfl, h.said f2 f3 k2.q⟩
theorem e_pass {gC gM : c_G} (h : p_R gC gM) (a : Int32) : p_Eq (fX11_pass gC a) (fX12_pass gM a) := by
  obtain ⟨n, hs, h1, h2, h3⟩ := id h
  unfold fX11_pass fX12_pass
  rcases e_sundays a with ⟨q1, q2, -⟩ | ⟨q1, q2, k, hk, rfl⟩
  · rw [q1, q2]
    exact h.same _
  · rw [q1, q2, if_neg i10, if_neg i10]
    obtain ⟨su, s1, s2, s3⟩ := id h1
    have e5 : gC.1 55 5 = nI su := (hs.1 80).symm.trans s2
    rw [e5, s2, nI_add]
    by_cases q : su + k ≤ 9999
    · rw [if_pos (show nI (su + k) ≤ (9999 : Int32) from nI_le (b := 9999) q (by decide)), if_pos (show nI (su + k) ≤ (9999 : Int32) from nI_le (b := 9999) q (by decide))]
      obtain ⟨W, L, hL, hW, hM⟩ := hs.ctx h2 h3
      have hA : q_Ag su (gM.1 1) := ⟨su, Nat.le_refl _, s2, s3⟩
      obtain ⟨g1, f1, f2, f3⟩ := c_letGo (k := k) (o := 9999) rfl hs hW hA (by omega) (by omega) q (by decide)
      obtain ⟨g2, k1, k2, k3, k4⟩ := m_sundays hL (show k < 100 by omega) hM hs.2.2.1.ok hA (by omega)
      have f1' : fX11_letGo gC 55 (nI k) 9999 = some g1 := f1
      rw [f1', k1, Option.bind_some, Option.bind_some]
      have hq : ∀ (k : Nat) (b : Nat) (m : Nat → Int32), q_ok m → q_Ag b m → b + k < 20000 → q_ok (q_sundays W L k m) ∧ q_Ag (b + k) (q_sundays W L k m) ∧ q_sundays W L k m 81 = m 81 := by
        intro k
        induction k with
        | zero => intro b m ho hA _; exact ⟨ho, hA, rfl⟩
        | succ k ih =>
          intro b m ho hA hb
          obtain ⟨o1, o2, o3⟩ := q_sunday_ok (W := W) (L := L) ho
          obtain ⟨i1, i2, i3⟩ := ih (b + 1) (q_sunday W L m) o1 (q_sunday_Ag hA (by omega) ho) (by omega)
          exact ⟨i1, by rw [show b + (k + 1) = b + 1 + k by omega]; exact i2, i3.trans (o3 81 (by omega))⟩
      obtain ⟨j1, j2, j3⟩ := hq k su (gM.1 1) hs.2.2.1.ok hA (by omega)
      refine ⟨g1, g2, g2.1 1 80, ?_, rfl, p_R.step h3 (by rw [k2]; exact f2) (by rw [k2]; exact j2.age (by omega)) ?_ (f3.fC (Or.inl rfl)) k3.fM⟩
      · rw [k2, show q_sundays W L k (gM.1 1) 80 = g1.1 55 5 from f2.1 80]
      · rw [k2]
        obtain ⟨u, u1, u2⟩ := h2
        exact ⟨u, u1, j3.trans u2⟩
    · have e : nI (su + k) ≤ (9999 : Int32) ↔ su + k ≤ 9999 := nI_leI (by omega) (by decide)
      rw [if_neg (fun z => q (e.mp z)), if_neg (fun z => q (e.mp z))]
      exact h.same _
/-! what is asked goes on: on a copy here, on the row itself there -/
def q_T (gC gM gC1 gM1 : c_G) (W : (Nat → Int32) → Int32) (L : Int32) (b : Nat) : Prop :=
  p_St gC1 101 (gM1.1 1) ∧ q_C gC1 101 W L ∧ q_M gM1 W L ∧ q_Ag b (gM1.1 1) ∧ p_fC gC gC1 ∧ (∀ a, 55 ≤ a → a < 78 → gC1.1 a = gC.1 a) ∧ gC1.2.2 55 = gC.2.2 55 ∧ p_fM gM gM1 ∧ ∀ j, j < 136 → gM1.1 2 j = gM.1 1 j
theorem q_trial {gC gM : c_G} (h : p_R gC gM) : ∃ W L gC1 gM1, p_N L 100 ∧ fX7_copyFrom gC 101 55 = some gC1 ∧ fX12_keep gM 0 = some gM1 ∧ q_T gC gM gC1 gM1 W L 9999 ∧ gM1.1 1 = gM.1 1 := by
  obtain ⟨n, hs, h1, h2, h3⟩ := id h
  obtain ⟨W, L, hL, hW, hM⟩ := hs.ctx h2 h3
  obtain ⟨g', e1, e2⟩ := e_copy gC (s := 101) (a := 55) rfl rfl (by decide)
  obtain ⟨gM', f1, f2, f3, f4⟩ := e_keep gM
  have hC : ∀ x, (x < 101 ∨ 124 ≤ x) → (c_so g' 101 (gC.2.2 55)).1 x = gC.1 x := fun x q => e2.out (by omega)
  have m1 : gM'.1 1 = gM.1 1 := f3 1 (by decide)
  have u55 : (c_so g' 101 (gC.2.2 55)).2.2 55 = gC.2.2 55 := by rw [c_so_ne (by decide), e2.2]
  have u78 : (c_so g' 101 (gC.2.2 55)).2.2 78 = gC.2.2 78 := by rw [c_so_ne (by decide), e2.2]
  have u101 : (c_so g' 101 (gC.2.2 55)).2.2 101 = gC.2.2 55 := by
    show (if 101 = 101 then gC.2.2 55 else g'.2.2 101) = gC.2.2 55
    rw [if_pos rfl]
  refine ⟨W, L, _, gM', hL, e1, f1, ⟨by rw [m1]; exact e2.St hs, ?_, ?_, by rw [m1]; exact h1.ag, ⟨fun a j q => ?_, ?_, u78⟩, fun a z1 z2 => hC a (by omega), u55, ⟨fun a j q => ?_, by rw [f2]⟩, f4⟩, m1⟩
  · have := hW.eq hs.2.2.2 (g' := c_so g' 101 (gC.2.2 55)) (fun a z1 z2 => hC a (by omega)) u55
    unfold q_C at this ⊢
    rw [u101]
    rw [u55] at this
    exact this
  · exact hM.eq (by rw [m1]) (f3 5 (by decide)) (f3 6 (by decide)) (f3 9 (by decide)) (f3 10 (by decide)) (f3 11 (by decide)) (f3 15 (by decide))
  · simp only [p_scC, Bool.or_eq_false_iff, Bool.and_eq_false_iff, beq_eq_false_iff_ne, decide_eq_false_iff_not] at q
    rw [hC a (by omega)]
  · show g'.2.1 = _
    rw [e2.2]
  · simp only [p_scM, Bool.or_eq_false_iff, Bool.and_eq_false_iff, beq_eq_false_iff_ne] at q
    rw [f3 a (by omega)]
theorem q_fs.T {gC g g' : c_G} (h : q_fs 101 g g') (h1 : p_fC gC g) (h2 : ∀ a, 55 ≤ a → a < 78 → g.1 a = gC.1 a) (h3 : g.2.2 55 = gC.2.2 55) : p_fC gC g' ∧ (∀ a, 55 ≤ a → a < 78 → g'.1 a = gC.1 a) ∧ g'.2.2 55 = gC.2.2 55 :=
  ⟨h1.tr (h.fC (Or.inr rfl)), fun a z1 z2 => (h.1 a (by omega) (by omega) (by omega)).trans (h2 a z1 z2), by rw [h.2]; exact h3⟩
theorem q_T.sundays {gC gM gC1 gM1 : c_G} {W : (Nat → Int32) → Int32} {L : Int32} {b : Nat} (h : q_T gC gM gC1 gM1 W L b) (hL : p_N L 100) {k : Nat} (hk : k < 100) (hb : b + k < 19997) :
    ∃ gC2 gM2, fX11_letGo gC1 101 (nI k) 1000000 = some gC2 ∧ fX12_sundays gM1 (nI k) = some gM2 ∧ q_T gC gM gC2 gM2 W L (b + k) ∧ gM2.1 1 = q_sundays W L k (gM1.1 1) := by
  obtain ⟨t1, t2, t3, t4, t5, t6, t7, t8, t9⟩ := h
  obtain ⟨g1, f1, f2, f3⟩ := c_letGo (k := k) (o := 1000000) (b := b) rfl t1 t2 t4 hk hb (by omega) (by decide)
  obtain ⟨g2, k1, k2, k3, k4⟩ := m_sundays hL hk t3 t1.2.2.1.ok t4 (by omega)
  obtain ⟨r1, r2, r3⟩ := f3.T t5 t6 t7
  have hq : ∀ (k : Nat) (b : Nat) (m : Nat → Int32), q_ok m → q_Ag b m → b + k < 20000 → q_Ag (b + k) (q_sundays W L k m) := by
    intro k
    induction k with
    | zero => intro b m ho hA _; exact hA
    | succ k ih =>
      intro b m ho hA hb
      obtain ⟨o1, o2, o3⟩ := q_sunday_ok (W := W) (L := L) ho
      have i2 := ih (b + 1) (q_sunday W L m) o1 (q_sunday_Ag hA (by omega) ho) (by omega)
      rw [show b + (k + 1) = b + 1 + k by omega]
      exact i2
  exact ⟨g1, g2, f1, k1, ⟨by rw [k2]; exact f2, t2.fs t1.2.2.2 rfl f3, k4, by rw [k2]; exact hq k b _ t1.2.2.1.ok t4 (by omega), r1, r2, r3, t8.tr k3.fM, fun j hj => by rw [k3.row (by decide) (by decide) (by decide) (by decide) (by decide)]; exact t9 j hj⟩, k2⟩
theorem q_T.sunday {gC gM gC1 gM1 : c_G} {W : (Nat → Int32) → Int32} {L : Int32} {b : Nat} (h : q_T gC gM gC1 gM1 W L b) (hL : p_N L 100) (hb : b + 1 < 19997) :
    ∃ gC2 gM2, fX11_letGo gC1 101 1 1000000 = some gC2 ∧ fX12_sunday gM1 = some gM2 ∧ q_T gC gM gC2 gM2 W L (b + 1) ∧ gM2.1 1 = q_sunday W L (gM1.1 1) := by
  obtain ⟨t1, t2, t3, t4, t5, t6, t7, t8, t9⟩ := h
  obtain ⟨g1, f1, f2, f3⟩ := c_letGo (k := 1) (o := 1000000) (b := b) rfl t1 t2 t4 (by decide) hb (by omega) (by decide)
  obtain ⟨g2, k1, k2, k3, k4⟩ := m_sunday t3 hL t1.2.2.1.ok t4 (by omega)
  obtain ⟨r1, r2, r3⟩ := f3.T t5 t6 t7
  exact ⟨g1, g2, f1, k1, ⟨by rw [k2]; exact f2, t2.fs t1.2.2.2 rfl f3, k4, by rw [k2]; exact q_sunday_Ag t4 (by omega) t1.2.2.1.ok, r1, r2, r3, t8.tr k3.fM, fun j hj => by rw [k3.row (by decide) (by decide) (by decide) (by decide) (by decide)]; exact t9 j hj⟩, k2⟩
theorem q_T.take {gC gM gC1 gM1 : c_G} {W : (Nat → Int32) → Int32} {L : Int32} {b : Nat} (h : q_T gC gM gC1 gM1 W L b) {c e : Nat} (hc : c < 6) (he : e < 6) :
    ∃ gC2 gM2 r r', fX11_takeTo gC1 101 (nI c) (nI e) = some (gC2, r) ∧ fX12_goesTo gM1 (nI c) (nI e) = some (gM2, r') ∧ q_T gC gM gC2 gM2 W L b := by
  obtain ⟨t1, t2, t3, t4, t5, t6, t7, t8, t9⟩ := h
  obtain ⟨g1, f1, f2, f3⟩ := c_takeTo t1 rfl t2 hc he
  obtain ⟨g2, k1, k2, k3⟩ := m_goesTo t3 hc he (t1.okkind hc)
  obtain ⟨r1, r2, r3⟩ := f3.T t5 t6 t7
  refine ⟨g1, g2, _, _, f1, k1, by rw [k2]; exact f2, t2.fs t1.2.2.2 rfl f3, t3.fw k3 (by rw [k2]; exact q_take_hi he (by omega)), ?_, r1, r2, r3, t8.tr k3.fM, fun j hj => by rw [k3.row (by decide) (by decide) (by decide) (by decide) (by decide)]; exact t9 j hj⟩
  rw [k2]
  exact t4.eq fun j z1 _ => q_take_hi he z1
/-- a write into the row below 24, alike -/
theorem q_T.put {gC gM gC1 gM1 : c_G} {W : (Nat → Int32) → Int32} {L : Int32} {b : Nat} (h : q_T gC gM gC1 gM1 W L b) {gC2 gM2 : c_G} (hs : p_St gC2 101 (gM2.1 1)) (hf : q_fs 101 gC1 gC2) (hw : q_fw gM1 gM2) (hj : ∀ j, 24 ≤ j → gM2.1 1 j = gM1.1 1 j) : q_T gC gM gC2 gM2 W L b := by
  obtain ⟨t1, t2, t3, t4, t5, t6, t7, t8, t9⟩ := h
  obtain ⟨r1, r2, r3⟩ := hf.T t5 t6 t7
  exact ⟨hs, t2.fs t1.2.2.2 rfl hf, t3.fw hw (hj 81 (by omega)), t4.eq fun j z1 _ => hj j z1, r1, r2, r3, t8.tr hw.fM, fun j hj => by rw [hw.row (by decide) (by decide) (by decide) (by decide) (by decide)]; exact t9 j hj⟩
/-- the row is laid again: nothing has changed -/
theorem q_T.lay {gC gM gC1 gM1 : c_G} {W : (Nat → Int32) → Int32} {L : Int32} {b : Nat} (hR : p_R gC gM) (h : q_T gC gM gC1 gM1 W L b) : ∃ gM2, fX12_lay gM1 0 = some gM2 ∧ p_R gC1 gM2 ∧ gM2.1 1 = gM.1 1 ∧ (∀ a, a ≠ 1 → gM2.1 a = gM1.1 a) := by
  obtain ⟨t1, t2, t3, t4, t5, t6, t7, t8, t9⟩ := h
  obtain ⟨g', e1, e2, e3, e4⟩ := e_lay gM1
  obtain ⟨n, hs, -⟩ := id hR
  have m1 : g'.1 1 = gM.1 1 := funext fun j => by
    rw [e4]
    by_cases q : j < 136
    · rw [if_pos q, t9 j q]
    · rw [if_neg q, t1.hi (by omega), hs.hi (by omega)]
  refine ⟨g', e1, hR.scr t5 (t8.tr ⟨fun a j q => ?_, by rw [e2]⟩) t6 t7 m1, m1, e3⟩
  simp only [p_scM, Bool.or_eq_false_iff, Bool.and_eq_false_iff, beq_eq_false_iff_ne] at q
  rw [e3 a (by omega)]
theorem q_sub {x : Int32} {k j : Nat} (h : x - nI k = nI j) : x = nI (k + j) := by
  rw [← Int32.sub_add_cancel x (nI k), h, nI_add, Nat.add_comm]
