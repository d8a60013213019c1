/-! PURE: plan, feed, looked, child -/
theorem e_dec10 {k : Nat} (hk : k < 2 ^ 31) : nI k / (10 : Int32) = nI (k / 10) ∧ nI k - nI k / (10 : Int32) * (10 : Int32) = nI (k % 10) := ⟨pk_div (d := 10) hk (by decide) (by decide), pk_rem (d := 10) hk (by decide) (by decide)⟩
theorem e_plan {gC gM : c_G} (h : p_R gC gM) (a b : Int32) : p_Eq (fX11_plan gC a b) (fX12_plan gM a b) := by
  obtain ⟨n, hs, h1, h2, h3⟩ := id h
  obtain ⟨c9, hc, e1, e2⟩ := hs.many
  have hz : p_Eq (some (c_si gC 70 3 0, (0 : Int32))) (some (c_si gM 1 98 0, 0)) := by
    exact ⟨_, _, _, rfl, rfl, p_R.put h1 h2 h3 (p_pt_plans hs ⟨0, by decide, rfl⟩) (by decide) (by decide) (by omega) (fun _ _ => by omega) (by omega)⟩
  obtain ⟨k, hk, ek⟩ : p_N (gM.1 1 98) 11 := hs.2.2.1.1 98 (by decide)
  have ekc : gC.1 70 3 = nI k := by rw [← ek]; exact (hs.1 98).symm
  have key : p_N a 4 → p_pl a b → p_Eq (fX11_plan_73 a b a b gC) (fX12_plan_66 a b a b gM) := by
    intro ha hab
    unfold fX11_plan_73 fX12_plan_66 fX12_plan_71
    by_cases k8 : k = 10
    · subst k8
      rw [e_addF gC (r0 := 70) rfl (by decide) ekc, ek]
      exact h.same _
    · have hk8 : k < 10 := by omega
      have v8 : (99 : Int32) + 2 * gM.1 1 98 = nI (99 + 2 * k) := by
        rw [ek]
        show nI 99 + nI 2 * nI k = _
        rw [pk_mul, nI_add]
      have up1 : (c_si gM 1 (99 + 2 * k) a).1 1 98 = nI k := by rw [p_si_ne _ _ _ _ (by omega)]; exact ek
      have v9 : (100 : Int32) + 2 * nI k = nI (99 + 2 * k + 1) := by
        show nI 100 + nI 2 * nI k = _
        rw [pk_mul, nI_add, show 100 + 2 * k = 99 + 2 * k + 1 by omega]
      rw [e_add gC (r0 := 70) rfl hk8 (by decide) ekc]
      have n8 : ¬ gM.1 1 98 = 10 := by
        rw [ek]; intro z
        exact k8 ((nI_eq (by omega) (by decide)).mp z)
      have up : (c_si (c_si gM 1 (99 + 2 * k) a) 1 (99 + 2 * k + 1) b).1 1 98 = nI k := by
        rw [p_si_ne _ _ _ _ (by omega)]; exact up1
      simp only [n8, v8, up1, v9, i10, c_let, c_b2, Option.bind_some, p_in (show 99 + 2 * k < 136 by omega) (by decide), p_in (show 99 + 2 * k + 1 < 136 by omega) (by decide), nI_clamp (show 99 + 2 * k < 2 ^ 31 by omega), nI_clamp (show 99 + 2 * k + 1 < 2 ^ 31 by omega), up, nI_1, p_si_at, ↓reduceIte]
      have s2 := p_pt_plan hs (r := k) hk8 ha hab
      have s3 := s2.side 18 k 0 (Or.inl rfl)
      have s4 := p_pt_plans s3 (v := nI (k + 1)) ⟨k + 1, by omega, rfl⟩
      have hM : p_fM gM (c_si (c_si (c_si gM 1 (99 + 2 * k) a) 1 (99 + 2 * k + 1) b) 1 98 (nI (k + 1))) := ((p_fM.si rfl).tr (p_fM.si rfl)).tr (p_fM.si rfl)
      have hC : p_fC gC (c_si (c_si (c_si (c_si gC (70 + 1) k a) (70 + 2) k b) (70 + 3) k 0) 70 3 (nI (k + 1))) := ((((p_st_fC (by decide) (by decide)).tr (p_st_fC (by decide) (by decide))).tr (p_st_fC (by decide) (by decide))).tr (p_st_fC (by decide) (by decide)))
      refine ⟨_, _, _, rfl, rfl, p_R.step h3 ?_ ?_ ?_ hC hM⟩
      · rw [e_up, e_up, e_up]; exact s4
      · rw [e_up, e_up, e_up]
        exact h1.hi fun j hj => by rw [pk_un (by omega), pk_un (by omega), pk_un (by omega)]
      · rw [e_up, e_up, e_up]
        exact h2.hi fun j hj => by rw [pk_un (by omega), pk_un (by omega), pk_un (by omega)]
  have no : p_Eq (some (gC, (-1 : Int32))) (fX12_plan_70 a b a b gM) := by
    unfold fX12_plan_70 fX12_plan_71
    exact h.same _
  unfold fX11_plan fX12_plan
  by_cases q0 : a = -1
  · simp only [q0, fX5_clear, c_isR, c_let, c_b2, Option.bind_some, ↓reduceIte]
    exact hz
  · rcases p_ix a (n := 4) (by decide) with q | q | ⟨j, hj, e⟩
    · have z0 : ¬ a = 0 := fun e => p_neg q 0 (by decide) e
      have z1 : ¬ a = 1 := fun e => p_neg q 1 (by decide) e
      have z2 : ¬ a = 2 := fun e => p_neg q 2 (by decide) e
      have z3 : ¬ a = 3 := fun e => p_neg q 3 (by decide) e
      simp only [q0, q, z0, z1, z2, z3, fX12_plan_49, ↓reduceIte]
      exact no
    · have z : ∀ k : Nat, k < 4 → ¬ a = nI k := fun k hk e => by subst e; exact nI_ge hk (by decide) q
      simp only [q0, p_ge q (by decide), show ¬ a ≤ 3 from p_ltge q (k := 3) (by decide) (by decide), show ¬ a = 0 from z 0 (by decide), show ¬ a = 1 from z 1 (by decide), show ¬ a = 2 from z 2 (by decide), show ¬ a = 3 from z 3 (by decide), fX12_plan_49, ↓reduceIte]
      exact no
    · have hp : p_N a 4 := ⟨j, hj, e⟩
      rcases (show j = 0 ∨ j = 1 ∨ j = 2 ∨ j = 3 by omega) with rfl | rfl | rfl | rfl
      · have k0 := key hp ⟨fun z => absurd (e.symm.trans z) (by decide), fun z => by rcases z with z | z <;> exact absurd (e.symm.trans z) (by decide)⟩
        subst e
        simp only [show ¬ nI 0 = -1 by decide, show ¬ nI 0 < 0 by decide, show nI 0 ≤ (3 : Int32) by decide, show ¬ nI 0 = (1 : Int32) by decide, show nI 0 ≤ (1 : Int32) by decide, show nI 0 = (0 : Int32) by decide, fX11_plan_59, ↓reduceIte]
        exact k0
      · subst e
        have no' := no
        simp only [show ¬ nI 1 = -1 by decide, show ¬ nI 1 < 0 by decide, show nI 1 ≤ (3 : Int32) by decide, show nI 1 = (1 : Int32) by decide, show (1 : Int32) ≤ 1 by decide, show ¬ (1 : Int32) = 0 by decide, show ¬ (1 : Int32) = 2 by decide, show ¬ (1 : Int32) = 3 by decide, fX11_plan_59, fX12_plan_49, ↓reduceIte] at no' ⊢
        by_cases q : b < 0
        · simp only [q, ↓reduceIte]
          exact no'
        · simp only [q, ↓reduceIte]
          obtain ⟨t, ht, rfl⟩ := nI_of q
          obtain ⟨d1, d2⟩ := e_dec10 ht
          rcases e_child hc e1 e2 (nI (t / 10)) with ⟨q1, q2, -⟩ | ⟨q1, q2, i, hi, ei⟩
          · simp only [d1, q1, q2, Option.bind_some, ↓reduceIte]
            exact no'
          · rcases e_elder (nI (t % 10)) with ⟨q3, q4, -⟩ | ⟨q3, q4, e, he, ee⟩
            · simp only [d1] at *
              simp only [q1, q2, d2, q3, q4, i10, Option.bind_some, ↓reduceIte]
              exact no'
            · have h10 : t / 10 = i := (nI_eq (by omega) (by omega)).mp ei
              have h11 : t % 10 = e := (nI_eq (by omega) (by omega)).mp ee
              have k0 := key hp ⟨fun _ => ⟨i, e, by omega, he, by congr 1; omega⟩, fun z => by rcases z with z | z <;> exact absurd z (by decide)⟩
              simp only [d1] at *
              simp only [q1, q2, d2, q3, q4, i10, Option.bind_some, ↓reduceIte]
              exact k0
      · have k0 : p_N b 6 → _ := fun z => key hp ⟨fun y => absurd (e.symm.trans y) (by decide), fun _ => z⟩
        subst e
        simp only [show ¬ nI 2 = -1 by decide, show ¬ nI 2 < 0 by decide, show nI 2 ≤ (3 : Int32) by decide, show ¬ nI 2 = (1 : Int32) by decide, show ¬ nI 2 ≤ (1 : Int32) by decide, show ¬ nI 2 = (0 : Int32) by decide, show nI 2 = (2 : Int32) by decide, fX11_plan_59, fX12_plan_49, fX12_plan_59, ↓reduceIte]
        rcases e_elder b with ⟨q3, q4, -⟩ | ⟨q3, q4, q5⟩
        · simp only [q3, q4, ↓reduceIte]
          exact no
        · simp only [q3, q4, i10, ↓reduceIte]
          exact k0 q5
      · have k0 : p_N b 6 → _ := fun z => key hp ⟨fun y => absurd (e.symm.trans y) (by decide), fun _ => z⟩
        subst e
        simp only [show ¬ nI 3 = -1 by decide, show ¬ nI 3 < 0 by decide, show nI 3 ≤ (3 : Int32) by decide, show ¬ nI 3 = (1 : Int32) by decide, show ¬ nI 3 ≤ (1 : Int32) by decide, show ¬ nI 3 = (0 : Int32) by decide, show ¬ nI 3 = (2 : Int32) by decide, show nI 3 = (3 : Int32) by decide, fX11_plan_59, fX12_plan_49, fX12_plan_59, ↓reduceIte]
        rcases e_elder b with ⟨q3, q4, -⟩ | ⟨q3, q4, q5⟩
        · simp only [q3, q4, ↓reduceIte]
          exact no
        · simp only [q3, q4, i10, ↓reduceIte]
          exact k0 q5
theorem e_feed {gC gM : c_G} (h : p_R gC gM) (a : Int32) : p_Eq (fX11_feed gC a) (fX12_feed gM a) := by
  obtain ⟨n, hs, h1, h2, ⟨v, im, ⟨t, t1, t2, t3, t4⟩, r5⟩⟩ := id h
  unfold fX11_feed fX12_feed
  rcases e_isInK a (n := 128) (by decide) 127 rfl with ⟨q, q2⟩ | ⟨q, k, hk, rfl⟩
  · simp only [q, ↓reduceIte]
    rcases e_lo (by decide) q2 with z | z
    · simp only [z, ↓reduceIte]
      exact h.same _
    · simp only [p_ge z (by decide), show ¬ a ≤ 127 from p_ltge z (k := 127) (by decide) (by decide), ↓reduceIte]
      exact h.same _
  · simp only [q, i10, nI_pos (show k < 2 ^ 31 by omega), show nI k ≤ (127 : Int32) from nI_le (b := 127) (by omega) (by decide), ↓reduceIte]
    by_cases tf : t = 100
    · subst tf
      simp only [t2, t3, show ¬ nI 100 < (100 : Int32) by decide, show nI 100 = (100 : Int32) by decide, ↓reduceIte]
      exact h.same _
    · have ht : t < 100 := by omega
      have n1 : ¬ nI t = (100 : Int32) := fun z => tf ((nI_eq (by omega) (by decide)).mp z)
      have hb : (nI k).toInt8.toInt32 = nI k := lg_i2b_small (by rw [nI_toInt (by omega)]; omega) (by rw [nI_toInt (by omega)]; omega)
      have hv : vp_nar .byte (nI k).toInt8.toInt32 = nI k := by rw [pk_vb, hb]
      have u1 : (c_si gC 1 t (nI k)).1 0 2 = nI t := by rw [p_si_ne _ _ _ _ (by omega)]; exact t2
      have u2 : (c_si gM 4 t (nI k)).1 0 5 = nI t := by rw [p_si_ne _ _ _ _ (by omega)]; exact t3
      simp only [t2, t3, n1, show nI t < (100 : Int32) from nI_lt (b := 100) ht (by decide), p_in ht (by decide), nI_clamp (show t < 2 ^ 31 by omega), c_let, hv, u1, u2, nI_1, p_si_at, ↓reduceIte]
      refine ⟨_, _, _, rfl, rfl, ?_⟩
      have eC : ∀ x y, ¬ (x = 0 ∧ y = 2) → x ≠ 1 → (c_si (c_si gC 1 t (nI k)) 0 2 (nI (t + 1))).1 x y = gC.1 x y := fun x y z1 z2 => by rw [p_si_ne _ _ _ _ z1, p_si_ne _ _ _ _ (fun z => z2 z.1)]
      have eM : ∀ x y, ¬ (x = 0 ∧ y = 5) → x ≠ 4 → (c_si (c_si gM 4 t (nI k)) 0 5 (nI (t + 1))).1 x y = gM.1 x y := fun x y z1 z2 => by rw [p_si_ne _ _ _ _ z1, p_si_ne _ _ _ _ (fun z => z2 z.1)]
      have rC : ∀ x, x ≠ 0 → x ≠ 1 → (c_si (c_si gC 1 t (nI k)) 0 2 (nI (t + 1))).1 x = gC.1 x := fun x z1 z2 => funext fun y => eC x y (by omega) z2
      have rM : ∀ x, x ≠ 0 → x ≠ 4 → (c_si (c_si gM 4 t (nI k)) 0 5 (nI (t + 1))).1 x = gM.1 x := fun x z1 z2 => funext fun y => eM x y (by omega) z2
      obtain ⟨ac, tp, ks, kb⟩ := r5
      obtain ⟨hn, v1, v2, hv', v3, v4⟩ := v
      refine ⟨n, ?_, by rw [rM 1 (by decide) (by decide)]; exact h1, by rw [rM 1 (by decide) (by decide)]; exact h2, ⟨hn, ?_, ?_, fun k hk => ?_, ?_, ?_⟩, ?_, ⟨t + 1, ht, ?_, ?_, fun j hj => ?_⟩, ?_, fun u hu => ?_, ?_, ?_⟩
      · rw [rM 1 (by decide) (by decide)]
        exact hs.eq (fun b q1 q2 => rC b (by omega) (by omega)) rfl
      · rw [eC 0 4 (by decide) (by decide)]; exact v1
      · rw [eM 0 8 (by decide) (by decide)]; exact v2
      · obtain ⟨q, W, L, a1, a2, a3, a4, a5, st, b1, b2, b3, b4⟩ := hv' k hk
        refine ⟨q, W, L, a1, by rw [rM 6 (by decide) (by decide)]; exact a2, by rw [rM 5 (by decide) (by decide)]; exact a3, by rw [rC _ (by omega) (by omega)]; exact a4, a5, st, b1, ?_, ?_, ?_⟩
        · rw [rC _ (by omega) (by omega)]; exact b2
        · rw [rC _ (by omega) (by omega), rC (27 + 4 * k + 2) (by omega) (by omega)]; exact b3
        · rw [rC _ (by omega) (by omega), rC (27 + 4 * k + 2) (by omega) (by omega), rC (27 + 4 * k + 3) (by omega) (by omega)]; exact b4
      · rw [rC 51 (by decide) (by decide)]; exact v3
      · rw [rC 51 (by decide) (by decide)]; exact v4
      · rcases im with ⟨i1, i2⟩ | ⟨i1, i2, m, i6, i3, i4, i5⟩
        · exact Or.inl ⟨by rw [eC 0 8 (by decide) (by decide)]; exact i1, by rw [eM 0 3 (by decide) (by decide)]; exact i2⟩
        · refine Or.inr ⟨by rw [eC 0 8 (by decide) (by decide)]; exact i1, by rw [eM 0 3 (by decide) (by decide)]; exact i2, m, by rw [rM 3 (by decide) (by decide)]; exact i6, ?_, i4, i5⟩
          exact i3.eq (fun b q1 q2 => rC b (by omega) (by omega)) rfl
      · rw [p_si_at]
      · rw [p_si_at]
      · rw [p_si_ne (c_si gC 1 t (nI k)) 0 2 _ (show ¬ (1 = 0 ∧ j = 2) by omega), p_si_ne (c_si gM 4 t (nI k)) 0 5 _ (show ¬ (4 = 0 ∧ j = 5) by omega)]
        by_cases z : j = t
        · subst z
          rw [p_si_at, p_si_at]
          exact ⟨rfl, k, hk, rfl⟩
        · rw [p_si_ne _ _ _ _ (by omega), p_si_ne _ _ _ _ (by omega)]
          exact t4 j hj
      · obtain ⟨r, r0, r1, r2, r3⟩ := ac
        refine ⟨r, r0, by rw [rC 8 (by decide) (by decide)]; exact r1, by rw [eM 0 27 (by decide) (by decide)]; exact r2, ?_⟩
        rw [rC 9 (by decide) (by decide), rM 17 (by decide) (by decide)]; exact r3
      · have z := tp u hu
        unfold p_Tp at z ⊢
        rw [rC 10 (by decide) (by decide), rC 11 (by decide) (by decide), rM 18 (by decide) (by decide), rM 19 (by decide) (by decide)]
        exact z
      · obtain ⟨k1, k2, k3, k4, k5⟩ := ks
        exact ⟨by rw [rM 9 (by decide) (by decide)]; exact k1, by rw [rM 10 (by decide) (by decide)]; exact k2, by rw [rM 11 (by decide) (by decide)]; exact k3, by rw [rM 15 (by decide) (by decide)]; exact k4, fun _ _ => rfl⟩
      · unfold p_Kb
        rw [rM 16 (by decide) (by decide)]
        exact kb
