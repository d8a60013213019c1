/-! PURE: rows that come behind one another: hear, plan, book; feed; looked -/
theorem p_al_side (g : c_G) (s h j : Nat) (v : Int32) (hh : h = 18 ∨ h = 22) (k : Nat) : p_al (c_si g (s + h) j v) s k = p_al g s k := by
  have hd : ∀ k, k < 136 → p_of k ≠ 18 ∧ p_of k ≠ 22 := by decide +kernel
  unfold p_al
  by_cases e81 : k = 81
  · rw [if_pos e81, if_pos e81]; rfl
  · rw [if_neg e81, if_neg e81]
    by_cases hk : k < 136
    · have := hd k hk
      rw [if_pos hk, if_pos hk, p_si, if_neg (by omega)]
    · rw [if_neg hk, if_neg hk]
theorem p_St.side {g : c_G} {s : Nat} {m : Nat → Int32} (h : p_St g s m) (a j : Nat) (v : Int32) (hh : a = 18 ∨ a = 22) : p_St (c_si g (s + a) j v) s m := by
  have hd : ∀ k, k < 136 → p_of k ≠ 18 ∧ p_of k ≠ 22 := by decide +kernel
  refine ⟨fun k => by rw [p_al_side g s a j v hh]; exact h.1 k, fun k hk hu => ?_, h.2.2.1, h.2.2.2⟩
  have := hd k hk
  rw [p_si, if_neg (by omega)]
  exact h.2.1 k hk hu
/-- a row of the plan is written, both its numbers -/
theorem p_pt_plan {g : c_G} {s : Nat} {m : Nat → Int32} (h : p_St g s m) {a b : Int32} {r : Nat} (hr : r < 10) (ha : p_N a 4) (hab : p_pl a b) : p_St (c_si (c_si g (s + 16) r a) (s + 17) r b) s (upd (upd m (99 + 2 * r) a) (99 + 2 * r + 1) b) := by
  have put : ∀ K, K = 99 + 2 * r → p_of K = 16 → p_xi K = r → p_of (K + 1) = 17 → p_xi (K + 1) = r → (∀ x, p_tr K x = x) → (∀ x, p_tr (K + 1) x = x) → p_isun K = false → p_isun (K + 1) = false → p_St (c_si (c_si g (s + 16) r a) (s + 17) r b) s (upd (upd m (99 + 2 * r) a) (99 + 2 * r + 1) b) := by
    intro K eK o1 x1 o2 x2 t1 t2 u1 u2
    have f1 : c_si g (s + 16) r a = c_si g (s + p_of K) (p_xi K) a := by rw [o1, x1]
    have f2 : c_si (c_si g (s + 16) r a) (s + 17) r b = c_si (c_si g (s + p_of K) (p_xi K) a) (s + p_of (K + 1)) (p_xi (K + 1)) b := by rw [o1, x1, o2, x2]
    rw [f2, ← eK]
    refine ⟨fun k => ?_, ?_, ⟨fun k hk => ?_, fun q hq => ?_⟩, h.2.2.2⟩
    · rw [p_al_put _ s (K + 1) b (by omega) (by omega) k]
      by_cases e : k = K + 1
      · rw [e, pk_us, if_pos rfl, t2]
      · rw [pk_un e, if_neg e, p_al_put _ s K a (by omega) (by omega) k]
        by_cases e2 : k = K
        · rw [e2, pk_us, if_pos rfl, t1]
        · rw [pk_un e2, if_neg e2]; exact h.1 k
    · exact (h.2.1.put (K := K) (by omega) (by omega) (fun q => by rw [u1] at q; cases q)).put (K := K + 1) (by omega) (by omega) (fun q => by rw [u2] at q; cases q)
    · by_cases e : k = K + 1
      · rw [e, pk_us]
        unfold p_ok
        rw [if_neg (by omega), if_neg (by omega), if_neg (by omega), if_neg (by omega), if_neg (by omega), if_neg (by omega), if_neg (by omega), if_neg (by omega), if_neg (by omega), if_pos (by omega), if_neg (by omega)]
        trivial
      · rw [pk_un e]
        by_cases e2 : k = K
        · rw [e2, pk_us]
          unfold p_ok
          rw [if_neg (by omega), if_neg (by omega), if_neg (by omega), if_neg (by omega), if_neg (by omega), if_neg (by omega), if_neg (by omega), if_neg (by omega), if_neg (by omega), if_pos (by omega), if_pos (by omega)]
          exact ha
        · rw [pk_un e2]; exact h.2.2.1.1 k hk
    · by_cases e : q = r
      · have e1 : 99 + 2 * q = K := by omega
        rw [e1, pk_us, pk_un (by omega), pk_us]
        exact hab
      · rw [pk_un (by omega), pk_un (by omega), pk_un (by omega), pk_un (by omega)]
        exact h.2.2.1.2 q hq
  rcases (show r = 0 ∨ r = 1 ∨ r = 2 ∨ r = 3 ∨ r = 4 ∨ r = 5 ∨ r = 6 ∨ r = 7 ∨ r = 8 ∨ r = 9 by omega) with rfl | rfl | rfl | rfl | rfl | rfl | rfl | rfl | rfl | rfl
  · exact put 99 rfl rfl rfl rfl rfl (fun _ => rfl) (fun _ => rfl) rfl rfl
  · exact put 101 rfl rfl rfl rfl rfl (fun _ => rfl) (fun _ => rfl) rfl rfl
  · exact put 103 rfl rfl rfl rfl rfl (fun _ => rfl) (fun _ => rfl) rfl rfl
  · exact put 105 rfl rfl rfl rfl rfl (fun _ => rfl) (fun _ => rfl) rfl rfl
  · exact put 107 rfl rfl rfl rfl rfl (fun _ => rfl) (fun _ => rfl) rfl rfl
  · exact put 109 rfl rfl rfl rfl rfl (fun _ => rfl) (fun _ => rfl) rfl rfl
  · exact put 111 rfl rfl rfl rfl rfl (fun _ => rfl) (fun _ => rfl) rfl rfl
  · exact put 113 rfl rfl rfl rfl rfl (fun _ => rfl) (fun _ => rfl) rfl rfl
  · exact put 115 rfl rfl rfl rfl rfl (fun _ => rfl) (fun _ => rfl) rfl rfl
  · exact put 117 rfl rfl rfl rfl rfl (fun _ => rfl) (fun _ => rfl) rfl rfl
theorem p_si_at (g : c_G) (h k : Nat) (v : Int32) : (c_si g h k v).1 h k = v := by rw [p_si, if_pos ⟨rfl, rfl⟩]
theorem p_si_ne (g : c_G) (h k : Nat) (v : Int32) {a j : Nat} (q : ¬ (a = h ∧ j = k)) : (c_si g h k v).1 a j = g.1 a j := by rw [p_si, if_neg q]
theorem e_add (g : c_G) {r0 k : Nat} (hr : c_isR r0 = true) (hk : k < c_rl r0) (hl : c_rl r0 < 100) (h3 : g.1 r0 3 = nI k) (a b c : Int32) : fX5_add g r0 a b c = some (c_si (c_si (c_si (c_si g (r0 + 1) k a) (r0 + 2) k b) (r0 + 3) k c) r0 3 (nI (k + 1)), nI (k + 1)) := by
  have e1 : (c_si g (r0 + 1) k a).1 r0 3 = nI k := by rw [p_si_ne _ _ _ _ (by omega)]; exact h3
  have e2 : (c_si (c_si g (r0 + 1) k a) (r0 + 2) k b).1 r0 3 = nI k := by rw [p_si_ne _ _ _ _ (by omega)]; exact e1
  have e3 : (c_si (c_si (c_si g (r0 + 1) k a) (r0 + 2) k b) (r0 + 3) k c).1 r0 3 = nI k := by rw [p_si_ne _ _ _ _ (by omega)]; exact e2
  unfold fX5_add
  simp only [hr, h3, nI_lt hk (by omega), p_in hk (by omega), nI_clamp (show k < 2 ^ 31 by omega), c_let, e1, e2, e3, nI_1, p_si_at, ↓reduceIte]
theorem e_addF (g : c_G) {r0 : Nat} (hr : c_isR r0 = true) (hl : c_rl r0 < 100) (h3 : g.1 r0 3 = nI (c_rl r0)) (a b c : Int32) : fX5_add g r0 a b c = some (g, -4) := by
  unfold fX5_add
  simp only [hr, h3, nI_nlt (Nat.le_refl _) (show c_rl r0 < 2 ^ 31 by omega), ↓reduceIte]
theorem p_Age.eq {m m' : Nat → Int32} (h : p_Age m) (h80 : m' 80 = m 80) (h2 : ∀ i, i < 6 → m' (24 + 9 * i + 3) = m (24 + 9 * i + 3)) : p_Age m' := by
  obtain ⟨su, a, b, c⟩ := h
  refine ⟨su, a, by rw [h80]; exact b, fun i hi => ?_⟩
  rw [h2 i hi]
  exact c i hi
theorem p_Rule.eq {n : Nat} {m m' : Nat → Int32} (h : p_Rule n m) (h81 : m' 81 = m 81) : p_Rule n m' := by
  obtain ⟨u, a, b⟩ := h
  exact ⟨u, a, by rw [h81]; exact b⟩
/-- no more than places above 82 change -/
theorem p_Age.hi {m m' : Nat → Int32} (h : p_Age m) (q : ∀ k, k < 82 → m' k = m k) : p_Age m' := h.eq (q _ (by omega)) fun i hi => q _ (by omega)
theorem p_Rule.hi {n : Nat} {m m' : Nat → Int32} (h : p_Rule n m) (q : ∀ k, k < 82 → m' k = m k) : p_Rule n m' := h.eq (q _ (by omega))
theorem p_mN {k : Nat} (hk : k < 2 ^ 31) : ¬ nI k = -1 := fun e => p_neg (by decide : (-1 : Int32) < 0) k hk e.symm
theorem p_5N {k : Nat} (hk : k < 2 ^ 31) : ¬ nI k = -5 := fun e => p_neg (by decide : (-5 : Int32) < 0) k hk e.symm
theorem e_hear {gC gM : c_G} (h : p_R gC gM) (a b c : Int32) : p_Eq (fX11_hear gC a b c) (fX12_hear gM a b c) := by
  obtain ⟨n, hs, h1, h2, h3⟩ := id h
  obtain ⟨c9, hc, e1, e2⟩ := hs.many
  have hz : p_Eq (some (c_si gC 66 3 0, (0 : Int32))) (some (c_si gM 1 82 0, 0)) := by
    exact ⟨_, _, _, rfl, rfl, p_R.put h1 h2 h3 (p_pt_sees hs ⟨0, by decide, rfl⟩) (by decide) (by decide) (by omega) (fun _ _ => by omega) (by omega)⟩
  unfold fX11_hear fX12_hear
  by_cases q0 : a = -1
  · simp only [q0, fX5_clear, c_isR, c_let, c_b2, Option.bind_some, ↓reduceIte]
    exact hz
  · rcases e_child hc e1 e2 a with ⟨q1, q2, -⟩ | ⟨q1, q2, i, hi, rfl⟩
    · simp only [q0, q1, q2, Option.bind_some, ↓reduceIte]
      exact h.same _
    · rcases e_elder b with ⟨q3, q4, -⟩ | ⟨q3, q4, e, he, rfl⟩
      · simp only [q0, q1, q2, q3, q4, i10, Option.bind_some, ↓reduceIte]
        exact h.same _
      · obtain ⟨k, hk, ek⟩ : p_N (gM.1 1 82) 6 := hs.2.2.1.1 82 (by decide)
        have ekc : gC.1 66 3 = nI k := by rw [← ek]; exact (hs.1 82).symm
        have key : ∀ (cC : Int32), p_un cC = c → ¬ cC = -1 → p_O c 12 → p_Eq (c_b2 (fX5_add gC 66 (nI i) (nI e) cC) fun g64002 r64003 => some (g64002, r64003)) (if gM.1 1 82 = 5 then some (gM, -4) else c_let (83 + 3 * gM.1 1 82) fun v8 => if c_in v8 136 = true then c_let (c_si gM 1 v8.toNatClampNeg (nI i)) fun g10 => if c_in (v8 + 1) 136 = true then c_let (c_si g10 1 (v8 + 1).toNatClampNeg (nI e)) fun g12 => if c_in (v8 + 2) 136 = true then c_let (c_si g12 1 (v8 + 2).toNatClampNeg c) fun g14 => c_let (g14.1 1 82 + 1) fun v15 => c_let (c_si g14 1 82 v15) fun g16 => some (g16, g16.1 1 82) else none else none else none) := by
          intro cC hu hne hO
          by_cases k5 : k = 5
          · subst k5
            rw [e_addF gC (r0 := 66) rfl (by decide) ekc, ek]
            exact h.same _
          · have hk5 : k < 5 := by omega
            have v8 : (83 : Int32) + 3 * gM.1 1 82 = nI (83 + 3 * k) := by
              rw [ek]
              show nI 83 + nI 3 * nI k = _
              rw [pk_mul, nI_add]
            have v9 : nI (83 + 3 * k) + 1 = nI (83 + 3 * k + 1) := nI_1 _
            have v10 : nI (83 + 3 * k) + 2 = nI (83 + 3 * k + 2) := nI_add _ 2
            rw [e_add gC (r0 := 66) rfl hk5 (by decide) ekc]
            have n5 : ¬ gM.1 1 82 = 5 := by
              rw [ek]; intro z
              exact k5 ((nI_eq (by omega) (by decide)).mp z)
            have up : (c_si (c_si (c_si gM 1 (83 + 3 * k) (nI i)) 1 (83 + 3 * k + 1) (nI e)) 1 (83 + 3 * k + 2) c).1 1 82 = nI k := by
              rw [p_si_ne _ _ _ _ (by omega), p_si_ne _ _ _ _ (by omega), p_si_ne _ _ _ _ (by omega)]; exact ek
            simp only [n5, v8, v9, v10, c_let, c_b2, Option.bind_some, p_in (show 83 + 3 * k < 136 by omega) (by decide), p_in (show 83 + 3 * k + 1 < 136 by omega) (by decide), p_in (show 83 + 3 * k + 2 < 136 by omega) (by decide), nI_clamp (show 83 + 3 * k < 2 ^ 31 by omega), nI_clamp (show 83 + 3 * k + 1 < 2 ^ 31 by omega), nI_clamp (show 83 + 3 * k + 2 < 2 ^ 31 by omega), up, nI_1, p_si_at, ↓reduceIte]
            have s1 := p_pt_hc hs (r := k) hk5 (v := nI i) ⟨i, by omega, rfl⟩
            have s2 := p_pt_he s1 (r := k) hk5 (v := nI e) ⟨e, he, rfl⟩
            have s3 := p_pt_hw s2 (r := k) hk5 (v := cC) (by rw [hu]; exact hO) hne
            have s4 := p_pt_sees s3 (v := nI (k + 1)) ⟨k + 1, by omega, rfl⟩
            rw [hu] at s4
            have hM : p_fM gM (c_si (c_si (c_si (c_si gM 1 (83 + 3 * k) (nI i)) 1 (83 + 3 * k + 1) (nI e)) 1 (83 + 3 * k + 2) c) 1 82 (nI (k + 1))) := ((((p_fM.si rfl).tr (p_fM.si rfl)).tr (p_fM.si rfl)).tr (p_fM.si rfl))
            have hC : p_fC gC (c_si (c_si (c_si (c_si gC (66 + 1) k (nI i)) (66 + 2) k (nI e)) (66 + 3) k cC) 66 3 (nI (k + 1))) := ((((p_st_fC (by decide) (by decide)).tr (p_st_fC (by decide) (by decide))).tr (p_st_fC (by decide) (by decide))).tr (p_st_fC (by decide) (by decide)))
            refine ⟨_, _, _, rfl, rfl, p_R.step h3 ?_ ?_ ?_ hC hM⟩
            · rw [e_up, e_up, e_up, e_up]; exact s4
            · rw [e_up, e_up, e_up, e_up]
              exact h1.hi fun j hj => by rw [pk_un (by omega), pk_un (by omega), pk_un (by omega), pk_un (by omega)]
            · rw [e_up, e_up, e_up, e_up]
              exact h2.hi fun j hj => by rw [pk_un (by omega), pk_un (by omega), pk_un (by omega), pk_un (by omega)]
        rcases e_isInM c (n := 12) (by decide) 11 rfl with ⟨q5, q6, q7⟩ | ⟨q5, q7⟩
        · rcases e_word c with ⟨q8, -, -⟩ | ⟨-, -, q8⟩
          · simp only [q0, q1, q2, q3, q4, q5, q6, q8, i10, Option.bind_some, ↓reduceIte]
            exact h.same _
          · exact absurd q8 q7
        · rcases q7 with rfl | ⟨w, hw, rfl⟩
          · simp only [q0, q1, q2, q3, q4, q5, i10, Option.bind_some, fX11_hear_45, fX11_hear_64, show ¬ (0 : Int32) ≤ -1 by decide, ↓reduceIte]
            exact key (-5) rfl (by decide) (Or.inl rfl)
          · rcases e_word (nI w) with ⟨-, -, q8⟩ | ⟨q8, -, -⟩
            · exact absurd ⟨w, hw, rfl⟩ q8
            · simp only [q0, q1, q2, q3, q4, q5, q8, p_mN (show w < 2 ^ 31 by omega), i10, Option.bind_some, fX11_hear_45, fX11_hear_64, show (0 : Int32) ≤ nI w from nI_pos' (by omega), ↓reduceIte]
              exact key (nI w) (p_un_nI (by omega)) (p_mN (by omega)) (Or.inr ⟨w, hw, rfl⟩)
theorem e_book {gC gM : c_G} (h : p_R gC gM) (a b : Int32) : p_Eq (fX11_book gC a b) (fX12_book gM a b) := by
  obtain ⟨n, hs, h1, h2, h3⟩ := id h
  have hz : p_Eq (some (c_si gC 74 3 0, (0 : Int32))) (some (c_si gM 1 119 0, 0)) := by
    exact ⟨_, _, _, rfl, rfl, p_R.put h1 h2 h3 (p_pt_books hs ⟨0, by decide, rfl⟩) (by decide) (by decide) (by omega) (fun _ _ => by omega) (by omega)⟩
  unfold fX11_book fX12_book
  by_cases q0 : a = -1
  · simp only [q0, fX5_clear, c_isR, c_let, c_b2, Option.bind_some, ↓reduceIte]
    exact hz
  · rcases e_elder a with ⟨q3, q4, -⟩ | ⟨q3, q4, e, he, rfl⟩
    · simp only [q0, q3, q4, i10, Option.bind_some, ↓reduceIte]
      exact h.same _
    · obtain ⟨k, hk, ek⟩ : p_N (gM.1 1 119) 9 := hs.2.2.1.1 119 (by decide)
      have ekc : gC.1 74 3 = nI k := by rw [← ek]; exact (hs.1 119).symm
      have key : ∀ (cC : Int32), p_un cC = b → ¬ cC = -1 → p_O b 12 → p_Eq (c_b2 (fX5_add gC 74 (nI e) cC 0) fun g64002 r64003 => some (g64002, r64003)) (if gM.1 1 119 = 8 then some (gM, -4) else if c_in (120 + 2 * gM.1 1 119) 136 = true then c_let (c_si gM 1 (120 + 2 * gM.1 1 119).toNatClampNeg (nI e)) fun g6 => if c_in (121 + 2 * g6.1 1 119) 136 = true then c_let (c_si g6 1 (121 + 2 * g6.1 1 119).toNatClampNeg b) fun g8 => c_let (g8.1 1 119 + 1) fun v9 => c_let (c_si g8 1 119 v9) fun g10 => some (g10, g10.1 1 119) else none else none) := by
        intro cC hu hne hO
        by_cases k8 : k = 8
        · subst k8
          rw [e_addF gC (r0 := 74) rfl (by decide) ekc, ek]
          exact h.same _
        · have hk8 : k < 8 := by omega
          have v8 : (120 : Int32) + 2 * gM.1 1 119 = nI (120 + 2 * k) := by
            rw [ek]
            show nI 120 + nI 2 * nI k = _
            rw [pk_mul, nI_add]
          have up1 : (c_si gM 1 (120 + 2 * k) (nI e)).1 1 119 = nI k := by rw [p_si_ne _ _ _ _ (by omega)]; exact ek
          have v9 : (121 : Int32) + 2 * nI k = nI (120 + 2 * k + 1) := by
            show nI 121 + nI 2 * nI k = _
            rw [pk_mul, nI_add, show 121 + 2 * k = 120 + 2 * k + 1 by omega]
          rw [e_add gC (r0 := 74) rfl hk8 (by decide) ekc]
          have n8 : ¬ gM.1 1 119 = 8 := by
            rw [ek]; intro z
            exact k8 ((nI_eq (by omega) (by decide)).mp z)
          have up : (c_si (c_si gM 1 (120 + 2 * k) (nI e)) 1 (120 + 2 * k + 1) b).1 1 119 = nI k := by
            rw [p_si_ne _ _ _ _ (by omega)]; exact up1
          simp only [n8, v8, up1, v9, c_let, c_b2, Option.bind_some, p_in (show 120 + 2 * k < 136 by omega) (by decide), p_in (show 120 + 2 * k + 1 < 136 by omega) (by decide), nI_clamp (show 120 + 2 * k < 2 ^ 31 by omega), nI_clamp (show 120 + 2 * k + 1 < 2 ^ 31 by omega), up, nI_1, p_si_at, ↓reduceIte]
          have s1 := p_pt_ba hs (r := k) hk8 (v := nI e) ⟨e, he, rfl⟩
          have s2 := p_pt_bb s1 (r := k) hk8 (v := cC) (by rw [hu]; exact hO) hne
          have s3 := s2.side 22 k 0 (Or.inr rfl)
          have s4 := p_pt_books s3 (v := nI (k + 1)) ⟨k + 1, by omega, rfl⟩
          rw [hu] at s4
          have hM : p_fM gM (c_si (c_si (c_si gM 1 (120 + 2 * k) (nI e)) 1 (120 + 2 * k + 1) b) 1 119 (nI (k + 1))) := ((p_fM.si rfl).tr (p_fM.si rfl)).tr (p_fM.si rfl)
          have hC : p_fC gC (c_si (c_si (c_si (c_si gC (74 + 1) k (nI e)) (74 + 2) k cC) (74 + 3) k 0) 74 3 (nI (k + 1))) := ((((p_st_fC (by decide) (by decide)).tr (p_st_fC (by decide) (by decide))).tr (p_st_fC (by decide) (by decide))).tr (p_st_fC (by decide) (by decide)))
          refine ⟨_, _, _, rfl, rfl, p_R.step h3 ?_ ?_ ?_ hC hM⟩
          · rw [e_up, e_up, e_up]; exact s4
          · rw [e_up, e_up, e_up]
            exact h1.hi fun j hj => by rw [pk_un (by omega), pk_un (by omega), pk_un (by omega)]
          · rw [e_up, e_up, e_up]
            exact h2.hi fun j hj => by rw [pk_un (by omega), pk_un (by omega), pk_un (by omega)]
      rcases e_isInM b (n := 12) (by decide) 11 rfl with ⟨q5, q6, q7⟩ | ⟨q5, q7⟩
      · rcases e_word b with ⟨q8, -, -⟩ | ⟨-, -, q8⟩
        · simp only [q0, q3, q4, q5, q6, q8, i10, Option.bind_some, ↓reduceIte]
          exact h.same _
        · exact absurd q8 q7
      · rcases q7 with rfl | ⟨w, hw, rfl⟩
        · simp only [q0, q3, q4, q5, i10, Option.bind_some, fX11_book_37, fX11_book_55, show ¬ (0 : Int32) ≤ -1 by decide, ↓reduceIte]
          exact key (-5) rfl (by decide) (Or.inl rfl)
        · rcases e_word (nI w) with ⟨-, -, q8⟩ | ⟨q8, -, -⟩
          · exact absurd ⟨w, hw, rfl⟩ q8
          · simp only [q0, q3, q4, q5, q8, p_mN (show w < 2 ^ 31 by omega), i10, Option.bind_some, fX11_book_37, fX11_book_55, show (0 : Int32) ≤ nI w from nI_pos' (by omega), ↓reduceIte]
            exact key (nI w) (p_un_nI (by omega)) (p_mN (by omega)) (Or.inr ⟨w, hw, rfl⟩)
