/-! PURE: image, undo, child -/
theorem c_let_d {α β : Type} (v : α) (k : α → β) : c_let v k = k v := rfl
theorem e_image {gC gM : c_G} (h : p_R gC gM) : p_Eq (fX11_image gC) (fX12_image gM) := by
  obtain ⟨n, hs, h1, h2, hv, hi, hx, ha, ht, hk, hb⟩ := id h
  obtain ⟨g', e1, e2⟩ := e_copy gC (s := 78) (a := 55) rfl rfl (by decide)
  obtain ⟨gM', f1, f2, f3, f4⟩ := e_imageM 136 0 c_F (c_si gM 0 3 1) rfl (by decide)
  have hC : ∀ x j, ¬ (x = 0 ∧ j = 8) → (x < 78 ∨ 101 ≤ x) → (c_si (c_so g' 78 (gC.2.2 55)) 0 8 1).1 x j = gC.1 x j := fun x j q1 q2 => by
    rw [p_si_ne _ _ _ _ q1]
    exact congrFun (e2.out (by omega)) j
  have rC : ∀ x, x ≠ 0 → (x < 78 ∨ 101 ≤ x) → (c_si (c_so g' 78 (gC.2.2 55)) 0 8 1).1 x = gC.1 x := fun x q1 q2 => funext fun j => hC x j (by omega) q2
  have rM : ∀ x, x ≠ 0 → x ≠ 3 → gM'.1 x = gM.1 x := fun x q1 q2 => (f3 x q2).trans (c_sr_ne q1)
  have mM : ∀ j, j ≠ 3 → gM'.1 0 j = gM.1 0 j := fun j q => by rw [f3 0 (by decide), p_si_ne _ _ _ _ (by omega)]
  have u55 : (c_si (c_so g' 78 (gC.2.2 55)) 0 8 1).2.2 55 = gC.2.2 55 := by
    show (c_so g' 78 (gC.2.2 55)).2.2 55 = _
    rw [c_so_ne (by decide), e2.2]
  have hR : p_R (c_si (c_so g' 78 (gC.2.2 55)) 0 8 1) gM' := by
    refine ⟨n, ?_, by rw [rM 1 (by decide) (by decide)]; exact h1, by rw [rM 1 (by decide) (by decide)]; exact h2, hv.eq (fun a q1 q2 => rC a (by omega) (by omega)) (hC 0 4 (by omega) (by omega)) (mM 8 (by decide)) (rM 5 (by decide) (by decide)) (rM 6 (by decide) (by decide)), Or.inr ⟨p_si_at _ _ _ _, ?_, gM.1 1, fun k hk => ?_, ?_, h1, h2⟩, hx.eq (rC 1 (by decide) (by decide)) (hC 0 2 (by omega) (by omega)) (rM 4 (by decide) (by decide)) (mM 5 (by decide)), ha.eq (rC 9 (by decide) (by decide)) (hC 8 2 (by omega) (by omega)) (rM 17 (by decide) (by decide)) (mM 27 (by decide)), fun t q => (ht t q).eq (hC 10 t (by omega) (by omega)) (hC 11 t (by omega) (by omega)) (by rw [rM 18 (by decide) (by decide)]) (by rw [rM 19 (by decide) (by decide)]) ?_ fun j hj => ?_, hk.eq (rM 9 (by decide) (by decide)) (rM 10 (by decide) (by decide)) (rM 11 (by decide) (by decide)) (rM 15 (by decide) (by decide)), hb.eq (rM 16 (by decide) (by decide))⟩
    · rw [rM 1 (by decide) (by decide)]
      exact hs.eq (fun b q1 q2 => rC b (by omega) (by omega)) u55
    · rw [f3 0 (by decide), p_si_at]
    · rw [f4, if_pos ⟨by omega, hk⟩, p_si_ne _ _ _ _ (by omega)]
    · exact (e2.St hs).out (by omega)
    · show g'.2.1 (13 + t) = _
      rw [e2.2]
    · rw [f2]; rfl
  have b2 : fX12_image gM = some (gM', gC.1 55 6) := by
    rw [nI_0] at f1
    rw [fX12_image.eq_1, c_let_d, f1, p_si_ne _ _ _ _ (by omega), show gM.1 1 78 = gC.1 55 6 from hs.1 78]
  have b1 : fX11_image gC = some (c_si (c_so g' 78 (gC.2.2 55)) 0 8 1, gC.1 55 6) := by
    unfold fX11_image
    rw [e1, Option.bind_some, c_let_d, hC 55 6 (by omega) (by omega)]
  exact ⟨_, gM', gC.1 55 6, b1, b2, hR⟩
theorem p_St.hi {g : c_G} {s : Nat} {m : Nat → Int32} (h : p_St g s m) {j : Nat} (hj : 136 ≤ j) : m j = 0 := by
  rw [h.1]
  unfold p_al
  rw [if_neg (by omega), if_neg (by omega)]
theorem e_undo {gC gM : c_G} (h : p_R gC gM) : p_Eq (fX11_undo gC) (fX12_undo gM) := by
  obtain ⟨n, hs, h1, h2, hv, hi, hx, ha, ht, hk, hb⟩ := id h
  unfold fX11_undo fX12_undo
  rcases id hi with ⟨i1, i2⟩ | ⟨i1, i2, m, i6, i3, i4, i5⟩
  · rw [i1, i2]
    exact h.same _
  · obtain ⟨g', e1, e2⟩ := e_copy gC (s := 55) (a := 78) rfl rfl (by decide)
    obtain ⟨gM', f1, f2, f3, f4⟩ := e_undoM 136 0 c_F gM rfl (by decide)
    have hC : ∀ x, (x < 55 ∨ 78 ≤ x) → (c_so g' 55 (gC.2.2 78)).1 x = gC.1 x := fun x q => e2.out (by omega)
    have u78 : (c_so g' 55 (gC.2.2 78)).2.2 78 = gC.2.2 78 := by rw [c_so_ne (by decide), e2.2]
    have em : gM'.1 1 = m := funext fun j => by
      rw [f4]
      by_cases q : j < 136
      · rw [if_pos ⟨by omega, q⟩, i6 j q]
      · rw [if_neg (by omega), hs.hi (by omega), i3.hi (by omega)]
    have hs' := e2.St i3
    have hR : p_R (c_so g' 55 (gC.2.2 78)) gM' := by
      refine ⟨n, by rw [em]; exact hs', by rw [em]; exact i4, by rw [em]; exact i5, hv.eq (fun a q1 q2 => hC a (by omega)) (by rw [hC 0 (by omega)]) (by rw [f3 0 (by decide)]) (f3 5 (by decide)) (f3 6 (by decide)), hi.eq (fun a q1 q2 => hC a (by omega)) (by rw [hC 0 (by omega)]) u78 (by rw [f3 0 (by decide)]) (f3 3 (by decide)), hx.eq (hC 1 (by omega)) (by rw [hC 0 (by omega)]) (f3 4 (by decide)) (by rw [f3 0 (by decide)]), ha.eq (hC 9 (by omega)) (by rw [hC 8 (by omega)]) (f3 17 (by decide)) (by rw [f3 0 (by decide)]), fun t q => (ht t q).eq (by rw [hC 10 (by omega)]) (by rw [hC 11 (by omega)]) (by rw [f3 18 (by decide)]) (by rw [f3 19 (by decide)]) ?_ fun j hj => ?_, hk.eq (f3 9 (by decide)) (f3 10 (by decide)) (f3 11 (by decide)) (f3 15 (by decide)), hb.eq (f3 16 (by decide))⟩
      · show g'.2.1 (13 + t) = _
        rw [e2.2]
      · rw [f2]
    refine ⟨_, gM', gM'.1 1 78, ?_, ?_, hR⟩
    · rw [i1, if_neg i10, e1, Option.bind_some, em, show m 78 = (c_so g' 55 (gC.2.2 78)).1 55 6 from hs'.1 78]
    · rw [i2, if_neg i10]
      exact f1
/-! child -/
theorem p_upd_c {m : Nat → Int32} {K : Nat} {v : Int32} {j : Nat} : upd m K v j = if j = K then v else m j := rfl
theorem e_addL {i : Nat} (hi : i < 6) (a1 a2 a3 : Int32) : ∀ (d q F : Nat) (g : c_G) (m : Nat → Int32), q + d = 4 → d < F → p_St g 55 m → g.1 55 6 = nI i → ∃ g', fX7_addChild_50 55 a1 a2 a3 F (nI i) (nI q) g = some (g', nI i) ∧ p_St g' 55 (upd (fun j => if 24 + 9 * i + 5 + q ≤ j ∧ j < 24 + 9 * i + 9 then 0 else m j) 78 (nI (i + 1))) ∧ p_fC g g'
  | 0, q, F + 1, g, m, hq, hF, hs, h6 => by
    have hs' := p_pt_many hs (v := nI (i + 1)) ⟨i + 1, by omega, rfl⟩
    refine ⟨c_si g 55 6 (nI (i + 1)), ?_, ?_, p_st_fC (by decide) (by decide)⟩
    · unfold fX7_addChild_50
      rw [if_pos (show (4 : Int32) ≤ nI q from nI_le (a := 4) (by omega) (by omega)), h6]
      simp only [c_let, nI_1]
    · have e : (fun j => if 24 + 9 * i + 5 + q ≤ j ∧ j < 24 + 9 * i + 9 then 0 else m j) = m := funext fun j => if_neg (by omega)
      rw [e]
      exact hs'
  | d + 1, q, F + 1, g, m, hq, hF, hs, h6 => by
    have hs' := p_pt_row hs (v := 0) (i := i) (q := q) hi (by omega) ⟨0, by decide, rfl⟩
    obtain ⟨g', e1, e2, e3⟩ := e_addL hi a1 a2 a3 d (q + 1) F _ _ (by omega) (by omega) hs' (by rw [p_si_ne _ _ _ _ (by omega)]; exact h6)
    refine ⟨g', ?_, ?_, (p_st_fC (by decide) (by decide)).tr e3⟩
    · unfold fX7_addChild_50
      have e4 : nI i * (4 : Int32) + nI q = nI (4 * i + q) := by
        show nI i * nI 4 + nI q = _
        rw [pk_mul, nI_add, Nat.mul_comm]
      rw [if_neg (show ¬ (4 : Int32) ≤ nI q from nI_ge (b := 4) (by omega) (by decide)), e4, p_in (by omega) (by decide), if_pos rfl, nI_clamp (by omega)]
      simp only [c_let, nI_1]
      exact e1
    · refine (congrArg (fun x => p_St g' 55 (upd x 78 (nI (i + 1)))) (funext fun j => ?_)).mp e2
      simp only [p_upd_c]
      by_cases z : j = 24 + 9 * i + (5 + q)
      · subst z
        rw [if_neg (by omega), if_pos rfl, if_pos (by omega)]
      · by_cases z2 : 24 + 9 * i + 5 + (q + 1) ≤ j ∧ j < 24 + 9 * i + 9
        · rw [if_pos z2, if_pos (by omega)]
        · rw [if_neg z2, if_neg z, if_neg (by omega)]
theorem e_zero {i : Nat} (hi : i < 6) (a1 a2 a3 x1 x2 x3 : Int32) : ∀ (d k F : Nat) (g : c_G), k + d = 9 → d < F → ∃ g' : c_G, fX12_child_54 a1 a2 a3 F x1 x2 x3 (nI i) (nI k) g = (c_let (g'.1 1 78 + (1 : Int32)) fun v => some (c_si (c_si (c_si (c_si (c_si g' 1 (24 + 9 * i) x1) 1 (24 + 9 * i + 1) x2) 1 (24 + 9 * i + 2) x3) 1 (24 + 9 * i + 4) (-1)) 1 78 v, nI i)) ∧ p_fM g g' ∧ ∀ j, g'.1 1 j = if 24 + 9 * i + k ≤ j ∧ j < 24 + 9 * i + 9 then 0 else g.1 1 j
  | 0, k, F + 1, g, hk, hF => by
    refine ⟨g, ?_, p_fM.rf g, fun j => by rw [if_neg (by omega)]⟩
    unfold fX12_child_54
    rw [if_pos (show (9 : Int32) ≤ nI k from nI_le (a := 9) (by omega) (by omega))]
    have c78 : (c_si (c_si (c_si (c_si g 1 (24 + 9 * i) x1) 1 (24 + 9 * i + 1) x2) 1 (24 + 9 * i + 2) x3) 1 (24 + 9 * i + 4) (-1)).1 1 78 = g.1 1 78 := by
      rw [p_si_ne _ _ _ _ (by omega), p_si_ne _ _ _ _ (by omega), p_si_ne _ _ _ _ (by omega), p_si_ne _ _ _ _ (by omega)]
    simp only [e_change _ hi 0 (by decide) 0 rfl, e_change _ hi 1 (by decide) 1 rfl, e_change _ hi 2 (by decide) 2 rfl, e_change _ hi 4 (by decide) 4 rfl, c_b2, Option.bind_some, c_let, Nat.add_zero, c78]
  | d + 1, k, F + 1, g, hk, hF => by
    obtain ⟨g', e1, e2, e3⟩ := e_zero hi a1 a2 a3 x1 x2 x3 d (k + 1) F (c_si g 1 (24 + 9 * i + k) 0) (by omega) (by omega)
    refine ⟨g', ?_, (p_fM.si rfl).tr e2, fun j => ?_⟩
    · rw [← e1]
      rw [fX12_child_54]
      rw [if_neg (show ¬ (9 : Int32) ≤ nI k from nI_ge (b := 9) (by omega) (by decide)), e_change _ hi k (by omega) (nI k) rfl]
      simp only [c_b2, Option.bind_some, c_let, nI_1]
    · rw [e3]
      by_cases z : j = 24 + 9 * i + k
      · subst z
        rw [if_neg (by omega), if_pos (by omega), p_si_at]
      · rw [p_si_ne _ _ _ _ (by omega)]
        by_cases z2 : 24 + 9 * i + (k + 1) ≤ j ∧ j < 24 + 9 * i + 9
        · rw [if_pos z2, if_pos (by omega)]
        · rw [if_neg z2, if_neg (by omega)]
theorem e_childC {gC gM : c_G} (h : p_R gC gM) (a b c : Int32) : p_Eq (fX11_child gC a b c) (fX12_child gM a b c) := by
  obtain ⟨n, hs, h1, h2, h3⟩ := id h
  obtain ⟨i, hi, e1, e2⟩ := hs.many
  unfold fX11_child fX12_child
  rcases e_isInK a (n := 7) (by decide) 6 rfl with ⟨q3, q4⟩ | ⟨q3, q4⟩
  · simp only [q3, ↓reduceIte]
    rcases e_lo (by decide) q4 with q | q
    · simp only [q, ↓reduceIte]
      exact h.same _
    · simp only [show ¬ a < 0 from p_ge q (by decide), show ¬ a < (7 : Int32) from p_nlo (n := 7) q (by decide), ↓reduceIte]
      exact h.same _
  · obtain ⟨k, hk, rfl⟩ := id q4
    simp only [q3, i10, nI_pos (show k < 2 ^ 31 by omega), show nI k < (7 : Int32) from nI_lt (b := 7) hk (by decide), ↓reduceIte]
    rcases e_digit b with ⟨q5, q6, -⟩ | ⟨q5, q6, q7⟩
    · simp only [q5, q6, ↓reduceIte]
      exact h.same _
    · rcases e_set c with ⟨q8, q9, -⟩ | ⟨q8, q9, q10⟩
      · simp only [q5, q6, q8, q9, i10, ↓reduceIte]
        exact h.same _
      · simp only [q5, q6, q8, q9, i10, e1, e2, ↓reduceIte]
        by_cases z : i = 6
        · subst z
          simp only [show ¬ nI 6 < (6 : Int32) by decide, show nI 6 = (6 : Int32) by decide, ↓reduceIte]
          exact h.same _
        · have hi6 : i < 6 := by omega
          have n6 : ¬ nI i = (6 : Int32) := fun w => z ((nI_eq (by omega) (by decide)).mp w)
          simp only [n6, show nI i < (6 : Int32) from nI_lt (b := 6) hi6 (by decide), ↓reduceIte]
          obtain ⟨gM', f1, f2, f3⟩ := e_zero hi6 (nI k) b c (nI k) b c 9 0 c_F gM rfl (by decide)
          have s1 := p_pt_kind hs (i := i) hi6 q4
          have s2 := p_pt_v s1 (i := i) hi6 q7
          have s3 := p_pt_knows s2 (i := i) hi6 q10
          have s4 := p_pt_age s3 (i := i) hi6 (v := 0) ⟨0, by decide, rfl⟩
          have s5 := p_pt_basket s4 (i := i) hi6 (v := -5) p_O_m1 (by decide)
          have g6 : (c_si (c_si (c_si (c_si (c_si gC 60 i (nI k)) 61 i b) 62 i c) 63 i 0) 64 i (-5)).1 55 6 = nI i := by
            rw [p_si_ne _ _ _ _ (by omega), p_si_ne _ _ _ _ (by omega), p_si_ne _ _ _ _ (by omega), p_si_ne _ _ _ _ (by omega), p_si_ne _ _ _ _ (by omega)]
            exact e1
          obtain ⟨gC', w1, w2, w3⟩ := e_addL hi6 (nI k) b c 4 0 c_F _ _ rfl (by decide) s5 g6
          have c1 : fX7_addChild gC 55 (nI k) b c = some (gC', nI i) := by
            unfold fX7_addChild
            simp only [e1, c_isS, p_in hi6 (by decide), nI_clamp (show i < 2 ^ 31 by omega), c_let, beq_self_eq_true, Bool.true_or, ↓reduceIte]
            exact w1
          have m78 : gM'.1 1 78 = nI i := by rw [f3, if_neg (by omega)]; exact e2
          rw [c1]
          have f1' := f1
          rw [m78] at f1'
          simp only [c_let, nI_1] at f1'
          have hMM : p_fM gM (c_si (c_si (c_si (c_si (c_si gM' 1 (24 + 9 * i) (nI k)) 1 (24 + 9 * i + 1) b) 1 (24 + 9 * i + 2) c) 1 (24 + 9 * i + 4) (-1)) 1 78 (nI (i + 1))) := f2.tr (((((p_fM.si rfl).tr (p_fM.si rfl)).tr (p_fM.si rfl)).tr (p_fM.si rfl)).tr (p_fM.si rfl))
          have hCC : p_fC gC gC' := (((((p_st_fC (by decide) (by decide)).tr (p_st_fC (by decide) (by decide))).tr (p_st_fC (by decide) (by decide))).tr (p_st_fC (by decide) (by decide))).tr (p_st_fC (by decide) (by decide))).tr w3
          have em : (c_si (c_si (c_si (c_si (c_si gM' 1 (24 + 9 * i) (nI k)) 1 (24 + 9 * i + 1) b) 1 (24 + 9 * i + 2) c) 1 (24 + 9 * i + 4) (-1)) 1 78 (nI (i + 1))).1 1 = upd (fun j => if 24 + 9 * i + 5 + 0 ≤ j ∧ j < 24 + 9 * i + 9 then 0 else upd (upd (upd (upd (upd (gM.1 1) (24 + 9 * i) (nI k)) (24 + 9 * i + 1) b) (24 + 9 * i + 2) c) (24 + 9 * i + 3) 0) (24 + 9 * i + 4) (p_un (-5)) j) 78 (nI (i + 1)) := by
            rw [e_up, e_up, e_up, e_up, e_up]
            funext j
            have f3j := f3 j
            simp only [p_upd_c]
            by_cases z0 : j = 78
            · rw [if_pos z0, if_pos z0]
            · rw [if_neg z0, if_neg z0, f3j]
              by_cases a4 : j = 24 + 9 * i + 4
              · rw [if_pos a4, if_neg (by omega), if_pos a4]; rfl
              · rw [if_neg a4]
                by_cases a2 : j = 24 + 9 * i + 2
                · rw [if_pos a2, if_neg (by omega), if_neg a4, if_neg (by omega), if_pos a2]
                · rw [if_neg a2]
                  by_cases a1 : j = 24 + 9 * i + 1
                  · rw [if_pos a1, if_neg (by omega), if_neg a4, if_neg (by omega), if_neg a2, if_pos a1]
                  · rw [if_neg a1]
                    by_cases a0 : j = 24 + 9 * i
                    · rw [if_pos a0, if_neg (by omega), if_neg a4, if_neg (by omega), if_neg a2, if_neg a1, if_pos a0]
                    · rw [if_neg a0]
                      by_cases a3 : j = 24 + 9 * i + 3
                      · rw [if_pos (by omega), if_neg (by omega), if_neg a4, if_pos a3]
                      · by_cases a5 : 24 + 9 * i + 5 + 0 ≤ j ∧ j < 24 + 9 * i + 9
                        · rw [if_pos (by omega), if_pos a5]
                        · rw [if_neg (by omega), if_neg a5, if_neg a4, if_neg a3, if_neg a2, if_neg a1, if_neg a0]
          have lo : ∀ j, j = 80 ∨ j = 81 → upd (fun j => if 24 + 9 * i + 5 + 0 ≤ j ∧ j < 24 + 9 * i + 9 then 0 else upd (upd (upd (upd (upd (gM.1 1) (24 + 9 * i) (nI k)) (24 + 9 * i + 1) b) (24 + 9 * i + 2) c) (24 + 9 * i + 3) 0) (24 + 9 * i + 4) (p_un (-5)) j) 78 (nI (i + 1)) j = gM.1 1 j := fun j hj => by
            simp only [p_upd_c]
            rw [if_neg (by omega), if_neg (by omega), if_neg (by omega), if_neg (by omega), if_neg (by omega), if_neg (by omega), if_neg (by omega)]
          refine ⟨gC', _, nI i, rfl, f1', p_R.step h3 ?_ ?_ ?_ hCC hMM⟩
          · rw [em]; exact w2
          · rw [em]
            obtain ⟨su, su1, su2, su3⟩ := h1
            refine ⟨su, su1, by rw [lo 80 (Or.inl rfl)]; exact su2, fun x hx => ?_⟩
            by_cases xe : x = i
            · subst xe
              refine ⟨0, by omega, ?_⟩
              simp only [p_upd_c]
              rw [if_neg (by omega), if_neg (by omega), if_neg (by omega), if_pos trivial]
              rfl
            · obtain ⟨a, a1, a2⟩ := su3 x hx
              refine ⟨a, a1, ?_⟩
              simp only [p_upd_c]
              rw [if_neg (by omega), if_neg (by omega), if_neg (by omega), if_neg (by omega), if_neg (by omega), if_neg (by omega), if_neg (by omega)]
              exact a2
          · rw [em]
            exact h2.eq (lo 81 (Or.inr rfl))
