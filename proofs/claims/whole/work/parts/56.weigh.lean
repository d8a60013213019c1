/-! PURE: the class weighs and says -/
/-- the valley that a state of the class holds means W and L -/
def q_C (g : c_G) (s : Nat) (W : (Nat → Int32) → Int32) (L : Int32) : Prop := p_W g (g.2.2 s) W ∧ g.1 (g.2.2 s) 7 = L ∧ p_N L 100
theorem c_isV_lt {v : Nat} (h : c_isV v = true) : 27 ≤ v ∧ v + 3 < 55 := by
  simp only [c_isV, Bool.or_eq_true, beq_iff_eq] at h
  omega
theorem c_isS_ge {s : Nat} (h : c_isS s = true) : 55 ≤ s ∧ s < 102 := by
  simp only [c_isS, Bool.or_eq_true, beq_iff_eq] at h
  omega
theorem p_W.eq {g g' : c_G} {v : Nat} {W : (Nat → Int32) → Int32} (h : p_W g v W) (h0 : g'.1 v = g.1 v) (h1 : g'.1 (v + 1) = g.1 (v + 1)) (h2 : g'.1 (v + 2) = g.1 (v + 2)) (h3 : g'.1 (v + 3) = g.1 (v + 3)) : p_W g' v W := by
  obtain ⟨st, a1, a2, a3, a4⟩ := h
  exact ⟨st, a1, by rw [h0]; exact a2, by rw [h1, h2]; exact a3, by rw [h1, h2, h3]; exact a4⟩
theorem q_C.eq {g g' : c_G} {s : Nat} {W : (Nat → Int32) → Int32} {L : Int32} (h : q_C g s W L) (hv : c_isV (g.2.2 s) = true) (h1 : ∀ a, 27 ≤ a → a < 55 → g'.1 a = g.1 a) (h2 : g'.2.2 s = g.2.2 s) : q_C g' s W L := by
  have hl := c_isV_lt hv
  obtain ⟨a1, a2, a3⟩ := h
  unfold q_C
  rw [h2]
  exact ⟨a1.eq (h1 _ (by omega) (by omega)) (h1 _ (by omega) (by omega)) (h1 _ (by omega) (by omega)) (h1 _ (by omega) (by omega)), by rw [h1 _ (by omega) (by omega)]; exact a2, a3⟩
theorem c_fit {g : c_G} {k : Nat} (hk : k < 7) (sum : Int32) {x : Nat} (hx : x < 12) (h3 : g.1 3 3 = nI x) : v_fit g (20 + k) sum = some (q_kindfit (nI k) sum (g.1 3 2) (g.1 3 4) (g.1 3 6) (g.1 3 7) x) := by
  have b : fX1_fit g 24 sum = some (sum + (if x < 6 then g.1 3 2 else 0)) ∧ fX1_fit g 21 sum = some (sum + (if x < 6 then g.1 3 2 else 0)) := by
    unfold fX1_fit
    rw [h3]
    by_cases q : x < 6
    · rw [if_neg (show ¬ (6 : Int32) ≤ nI x from nI_ge (b := 6) q (by decide)), if_pos q]
      exact ⟨rfl, rfl⟩
    · rw [if_pos (show (6 : Int32) ≤ nI x from nI_le (a := 6) (by omega) (by omega)), if_neg q, Int32.add_zero]
      exact ⟨rfl, rfl⟩
  unfold v_fit q_kindfit
  rcases (show k = 0 ∨ k = 1 ∨ k = 2 ∨ k = 3 ∨ k = 4 ∨ k = 5 ∨ k = 6 by omega) with rfl | rfl | rfl | rfl | rfl | rfl | rfl
  · rfl
  · exact b.2
  · rfl
  · rfl
  · show fX3_fit g sum = _
    unfold fX3_fit
    rw [b.1, Option.bind_some]
    show (if g.1 3 2 ≤ g.1 3 6 then _ else _) = some (if g.1 3 6 < g.1 3 2 then _ else _)
    by_cases q : g.1 3 2 ≤ g.1 3 6
    · rw [if_pos q, if_neg (fun z => p_lnl z q)]
    · rw [if_neg q, if_pos (Int32.not_le.mp q)]
  · rfl
  · rfl
theorem e_rem4 {x : Nat} (hx : x < 12) : nI x - nI x / (4 : Int32) * (4 : Int32) = nI (x % 4) := pk_rem (d := 4) (by omega) (by decide) (by decide)
theorem c_weigh {g : c_G} {s c e : Nat} {m : Nat → Int32} {W : (Nat → Int32) → Int32} {L : Int32} (hs : p_St g s m) (hS : c_isS s = true) (hW : q_C g s W L) (hc : c < 6) (he : e < 6) (v : Int32) :
    ∃ g', fX11_weigh g s (nI c) v (nI e) = some g' ∧ (∀ a, a ≠ 3 → a ≠ 4 → g'.1 a = g.1 a) ∧ g'.2 = g.2 ∧ ∀ w, w < 12 → g'.1 4 w = q_fit m W c v e w := by
  have hv := hs.2.2.2
  have hl := c_isV_lt hv
  have hl2 := c_isS_ge hS
  obtain ⟨k, hk, ek⟩ := hs.okkind hc
  have r1 : g.1 (s + 1) e = m (4 * e) := by rw [hs.1, p_al_look _ _ he]
  have r5 : g.1 (s + 5) c = m (24 + 9 * c) := by rw [hs.1, p_al_kind _ _ hc]
  have r8 : g.1 (s + 8) c = m (24 + 9 * c + 3) := by rw [hs.1, p_al_age _ _ hc]
  have r10 : ∀ q, q < 4 → g.1 (s + 10) (4 * c + q) = m (24 + 9 * c + (5 + q)) := fun q hq => by rw [hs.1, p_al_row _ _ hc hq]
  have loop : ∀ (d w F : Nat) (g1 : c_G), w + d = 12 → d < F → (∀ a, a ≠ 3 → a ≠ 4 → g1.1 a = g.1 a) → g1.2 = g.2 → g1.1 3 0 = nI c → g1.1 3 1 = m (24 + 9 * c) → g1.1 3 2 = v → g1.1 3 4 = m (4 * e) → g1.1 3 5 = m (24 + 9 * c + 3) - m (24 + 9 * c + 3) / (10 : Int32) * (10 : Int32) → g1.1 3 6 = m (24 + 9 * c + 3) → (∀ y, y < w → g1.1 4 y = q_fit m W c v e y) →
      ∃ g', fX11_weigh_83 s (nI c) v (nI e) F (nI c) (nI e) (20 + k) (nI w) g1 = some g' ∧ (∀ a, a ≠ 3 → a ≠ 4 → g'.1 a = g.1 a) ∧ g'.2 = g.2 ∧ ∀ y, y < 12 → g'.1 4 y = q_fit m W c v e y := by
    intro d
    induction d with
    | zero =>
      intro w F g1 hw hF h1 h2 t0 t1 t2 t4 t5 t6 h3
      obtain ⟨F, rfl⟩ : ∃ f, F = f + 1 := ⟨F - 1, by omega⟩
      refine ⟨g1, ?_, h1, h2, fun y hy => h3 y (by omega)⟩
      rw [fX11_weigh_83, if_pos (show (12 : Int32) ≤ nI w from nI_le (a := 12) (by omega) (by omega))]
    | succ d ih =>
      intro w F g1 hw hF h1 h2 t0 t1 t2 t4 t5 t6 h3
      obtain ⟨F, rfl⟩ : ∃ f, F = f + 1 := ⟨F - 1, by omega⟩
      have hw12 : w < 12 := by omega
      have e4 : nI c * (4 : Int32) + nI (w % 4) = nI (4 * c + w % 4) := by
        show nI c * nI 4 + _ = _
        rw [pk_mul, nI_add, Nat.mul_comm]
      have hA : ∀ x, ∀ a, a ≠ 3 → (c_si (c_si g1 3 3 (nI w)) 3 7 x).1 a = g1.1 a := fun x a ha => (c_sr_ne ha).trans (c_sr_ne ha)
      have hrow : (c_si g1 3 3 (nI w)).1 (s + 10) (4 * c + w % 4) = m (24 + 9 * c + (5 + w % 4)) := by
        rw [p_si_ne _ _ _ _ (by omega), h1 _ (by omega) (by omega), r10 _ (by omega)]
      rw [fX11_weigh_83, if_neg (show ¬ (12 : Int32) ≤ nI w from nI_ge (b := 12) (by omega) (by decide)), c_let_d, e_rem4 hw12, e4, p_in (show 4 * c + w % 4 < 24 by omega) (by decide), if_pos rfl, nI_clamp (by omega), hrow, c_let_d, p_in he (by decide), if_pos rfl]
      generalize hg2 : c_si (c_si g1 3 3 (nI w)) 3 7 (m (24 + 9 * c + (5 + w % 4))) = g2
      have u1 : ∀ a, a ≠ 3 → g2.1 a = g1.1 a := fun a ha => by rw [← hg2]; exact hA _ a ha
      have u2 : g2.2 = g.2 := by rw [← hg2]; exact h2
      have u3 : ∀ j, j ≠ 3 → j ≠ 7 → g2.1 3 j = g1.1 3 j := fun j z1 z2 => by rw [← hg2, p_si_ne _ _ _ _ (by omega), p_si_ne _ _ _ _ (by omega)]
      have u33 : g2.1 3 3 = nI w := by rw [← hg2, p_si_ne _ _ _ _ (by omega), p_si_at]
      have u37 : g2.1 3 7 = m (24 + 9 * c + (5 + w % 4)) := by rw [← hg2, p_si_at]
      have v2 : g2.2.2 s = g.2.2 s := by rw [u2]
      have hW2 : p_W g2 (g.2.2 s) W := hW.1.eq (by rw [u1 _ (by omega), h1 _ (by omega) (by omega)]) (by rw [u1 _ (by omega), h1 _ (by omega) (by omega)]) (by rw [u1 _ (by omega), h1 _ (by omega) (by omega)]) (by rw [u1 _ (by omega), h1 _ (by omega) (by omega)])
      have eW : W (g2.1 3) = W (q_env m c v w e) := hW2.cg fun j hj => by
        rcases (show j = 0 ∨ j = 1 ∨ j = 2 ∨ j = 3 ∨ j = 4 ∨ j = 5 by omega) with rfl | rfl | rfl | rfl | rfl | rfl
        · rw [u3 0 (by decide) (by decide), t0]; rfl
        · rw [u3 1 (by decide) (by decide), t1]; rfl
        · rw [u3 2 (by decide) (by decide), t2]; rfl
        · rw [u33]; rfl
        · rw [u3 4 (by decide) (by decide), t4]; rfl
        · rw [u3 5 (by decide) (by decide), t5]; rfl
      have ef : q_kindfit (nI k) (g2.1 (s + 1) e + W (g2.1 3)) (g2.1 3 2) (g2.1 3 4) (g2.1 3 6) (g2.1 3 7) w = q_fit m W c v e w := by
        rw [eW, u37, u3 2 (by decide) (by decide), u3 4 (by decide) (by decide), u3 6 (by decide) (by decide), t2, t4, t6, u1 _ (by omega), h1 _ (by omega) (by omega), r1, ← ek]
        rfl
      rw [v2, c_weight hv hW2, Option.bind_some, if_pos hv, nI_clamp (show e < 2 ^ 31 by omega), c_fit hk _ hw12 u33, Option.bind_some, ef, p_in hw12 (by decide), if_pos rfl, nI_clamp (show w < 2 ^ 31 by omega), c_let_d, c_let_d, nI_1]
      have a4 : ∀ j, (c_si g2 4 w (q_fit m W c v e w)).1 3 j = g2.1 3 j := fun j => p_si_ne _ _ _ _ (by omega)
      refine ih (w + 1) F _ (by omega) (by omega) (fun a z1 z2 => ?_) u2 ?_ ?_ ?_ ?_ ?_ ?_ fun y hy => ?_
      · rw [show (c_si g2 4 w (q_fit m W c v e w)).1 a = g2.1 a from c_sr_ne z2, u1 a z1, h1 a z1 z2]
      · rw [a4, u3 0 (by decide) (by decide), t0]
      · rw [a4, u3 1 (by decide) (by decide), t1]
      · rw [a4, u3 2 (by decide) (by decide), t2]
      · rw [a4, u3 4 (by decide) (by decide), t4]
      · rw [a4, u3 5 (by decide) (by decide), t5]
      · rw [a4, u3 6 (by decide) (by decide), t6]
      · by_cases z : y = w
        · subst z; rw [p_si_at]
        · rw [p_si_ne _ _ _ _ (by omega), u1 4 (by decide), h3 y (by omega)]
  have k7 : c_in (m (24 + 9 * c)) 7 = true := by rw [ek]; exact p_in hk (by decide)
  have n3 : ∀ (g0 : c_G) (j : Nat) (x : Int32) (a : Nat), a ≠ 3 → (c_si g0 3 j x).1 a = g0.1 a := fun g0 j x a ha => c_sr_ne ha
  unfold fX11_weigh
  rw [if_pos hS, p_in hc (by decide), if_pos rfl, nI_clamp (show c < 2 ^ 31 by omega), r5, k7, if_pos rfl, c_let_d, n3 _ _ _ (s + 5) (by omega), r5, c_let_d, c_let_d, p_in he (by decide), if_pos rfl, nI_clamp (show e < 2 ^ 31 by omega), n3 _ _ _ (s + 1) (by omega), n3 _ _ _ (s + 1) (by omega), n3 _ _ _ (s + 1) (by omega), r1, c_let_d, n3 _ _ _ (s + 8) (by omega), n3 _ _ _ (s + 8) (by omega), n3 _ _ _ (s + 8) (by omega), n3 _ _ _ (s + 8) (by omega), r8, c_let_d, c_let_d, n3 _ _ _ (s + 8) (by omega), n3 _ _ _ (s + 8) (by omega), n3 _ _ _ (s + 8) (by omega), n3 _ _ _ (s + 8) (by omega), n3 _ _ _ (s + 8) (by omega), r8, c_let_d, ek, nI_clamp (show k < 2 ^ 31 by omega)]
  refine loop 12 0 c_F _ rfl (by decide) (fun a z1 z2 => ?_) rfl ?_ ?_ ?_ ?_ ?_ ?_ fun y hy => by omega
  · rw [n3 _ _ _ a z1, n3 _ _ _ a z1, n3 _ _ _ a z1, n3 _ _ _ a z1, n3 _ _ _ a z1, n3 _ _ _ a z1]
  · rw [p_si_ne _ _ _ _ (by omega), p_si_ne _ _ _ _ (by omega), p_si_ne _ _ _ _ (by omega), p_si_ne _ _ _ _ (by omega), p_si_ne _ _ _ _ (by omega), p_si_at]
  · rw [p_si_ne _ _ _ _ (by omega), p_si_ne _ _ _ _ (by omega), p_si_ne _ _ _ _ (by omega), p_si_ne _ _ _ _ (by omega), p_si_at, ← ek]
  · rw [p_si_ne _ _ _ _ (by omega), p_si_ne _ _ _ _ (by omega), p_si_ne _ _ _ _ (by omega), p_si_at]
  · rw [p_si_ne _ _ _ _ (by omega), p_si_ne _ _ _ _ (by omega), p_si_at]
  · rw [p_si_ne _ _ _ _ (by omega), p_si_at]
  · rw [p_si_at]
theorem q_best_cg {f f' : Nat → Int32} {P P' : Nat → Bool} : ∀ (k w : Nat) (b mo : Int32), (∀ y, w ≤ y → y < w + k → f y = f' y ∧ P y = P' y) → q_best f P k w b mo = q_best f' P' k w b mo
  | 0, _, _, _, _ => rfl
  | k + 1, w, b, mo, h => by
    unfold q_best
    rw [(h w (by omega) (by omega)).1, (h w (by omega) (by omega)).2]
    split
    · exact q_best_cg k (w + 1) _ _ fun y h1 h2 => h y (by omega) (by omega)
    · exact q_best_cg k (w + 1) _ _ fun y h1 h2 => h y (by omega) (by omega)
theorem c_says {g : c_G} {s c e : Nat} {m : Nat → Int32} {W : (Nat → Int32) → Int32} {L : Int32} (hs : p_St g s m) (hS : c_isS s = true) (hW : q_C g s W L) (hc : c < 6) (he : e < 6) (v kn : Int32) :
    ∃ g', fX11_says g s (nI c) v kn (nI e) = some (g', p_or (q_says m W c v kn e)) ∧ (∀ a, a ≠ 3 → a ≠ 4 → g'.1 a = g.1 a) ∧ g'.2 = g.2 := by
  unfold fX11_says
  rw [if_pos hS, c_listens hs hS he, Option.bind_some]
  unfold q_says
  by_cases q : q_mute m e = true
  · rw [if_pos q, if_pos rfl, if_pos q]
    exact ⟨g, rfl, fun _ _ _ => rfl, rfl⟩
  · obtain ⟨g', e1, e2, e3, e4⟩ := c_weigh hs hS hW hc he v
    have hl2 := c_isS_ge hS
    have hs' : p_St g' s m := hs.eq (fun a h1 h2 => e2 a (by omega) (by omega)) (by rw [e3])
    rw [if_neg q, if_neg i10, if_neg q, e1, Option.bind_some, c_used hs' hS, Option.bind_some, show (0 : Int32) = nI 0 from rfl, c_best g' (h := 4) (N := 12) (fr := 0) rfl (by decide) (by decide), Option.bind_some, q_best_cg (f' := q_fit m W c v e) 12 0 (-1) 0 (fun y h1 h2 => ⟨by rw [Nat.zero_add]; exact e4 y (by omega), rfl⟩)]
    exact ⟨g', rfl, e2, e3⟩
