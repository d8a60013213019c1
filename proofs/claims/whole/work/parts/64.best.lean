/-! PURE: which word is the best, teach, odds -/
def q_top (f : Nat → Int32) (P : Nat → Bool) (w : Nat) : Prop := P w = true ∧ 0 < f w ∧ ∀ y, y < 12 → P y = true → f y < f w ∨ (f y = f w ∧ w ≤ y)
theorem q_lt {x y : Int32} : x < y ↔ x.toInt < y.toInt := Int32.lt_iff_toInt_lt
theorem q_eqI {x y : Int32} : x = y ↔ x.toInt = y.toInt := Int32.toInt_inj.symm
def q_bs (f : Nat → Int32) (P : Nat → Bool) (n : Nat) (b mo : Int32) : Prop :=
  (b = -1 ∧ mo = 0 ∧ ∀ y, y < n → P y = true → ¬ 0 < f y) ∨ ∃ z, z < n ∧ b = nI z ∧ mo = f z ∧ P z = true ∧ 0 < f z ∧ ∀ y, y < n → P y = true → f y < f z ∨ (f y = f z ∧ z ≤ y)
theorem q_best_bs (f : Nat → Int32) (P : Nat → Bool) : ∀ (k w : Nat) (b mo : Int32), w + k = 12 → q_bs f P w b mo → ∃ mo', q_bs f P 12 (q_best f P k w b mo) mo'
  | 0, w, b, mo, hw, h => ⟨mo, by
    obtain rfl : w = 12 := by omega
    exact h⟩
  | k + 1, w, b, mo, hw, h => by
    unfold q_best
    by_cases q : P w = true ∧ mo < f w
    · rw [if_pos q]
      refine q_best_bs f P k (w + 1) _ _ (by omega) (Or.inr ⟨w, by omega, rfl, rfl, q.1, ?_, fun y hy hp => ?_⟩)
      · rcases h with ⟨-, rfl, -⟩ | ⟨z, -, -, rfl, -, h5, -⟩
        · exact q.2
        · have q2 := q_lt.mp q.2
          have h5' := q_lt.mp h5
          exact q_lt.mpr (by omega)
      · by_cases e : y = w
        · subst e
          exact Or.inr ⟨rfl, Nat.le_refl _⟩
        · left
          have q2 := q_lt.mp q.2
          rcases h with ⟨-, rfl, h3⟩ | ⟨z, -, -, rfl, -, h5, h6⟩
          · have n1 : ¬ (0 : Int32).toInt < (f y).toInt := fun x => h3 y (by omega) hp (q_lt.mpr x)
            exact q_lt.mpr (by omega)
          · rcases h6 y (by omega) hp with h7 | ⟨h7, -⟩
            · have := q_lt.mp h7
              exact q_lt.mpr (by omega)
            · rw [h7]
              exact q.2
    · rw [if_neg q]
      refine q_best_bs f P k (w + 1) _ _ (by omega) ?_
      rcases h with ⟨h1, rfl, h3⟩ | ⟨z, h1, h2, rfl, h4, h5, h6⟩
      · refine Or.inl ⟨h1, rfl, fun y hy hp => ?_⟩
        by_cases e : y = w
        · subst e
          exact fun x => q ⟨hp, x⟩
        · exact h3 y (by omega) hp
      · refine Or.inr ⟨z, by omega, h2, rfl, h4, h5, fun y hy hp => ?_⟩
        by_cases e : y = w
        · subst e
          have n1 : ¬ f z < f y := fun x => q ⟨hp, x⟩
          by_cases e2 : f y = f z
          · exact Or.inr ⟨e2, by omega⟩
          · left
            have n2 : ¬ (f z).toInt < (f y).toInt := fun x => n1 (q_lt.mpr x)
            have n3 : ¬ (f y).toInt = (f z).toInt := fun x => e2 (q_eqI.mpr x)
            exact q_lt.mpr (by omega)
        · exact h6 y (by omega) hp
theorem q_best_top {f : Nat → Int32} {P : Nat → Bool} {w : Nat} (hw : w < 12) : q_best f P 12 0 (-1) 0 = nI w ↔ q_top f P w := by
  obtain ⟨mo, h⟩ := q_best_bs f P 12 0 (-1) 0 rfl (Or.inl ⟨rfl, rfl, fun y hy => by omega⟩)
  rcases h with ⟨h1, -, h3⟩ | ⟨z, h1, h2, -, h4, h5, h6⟩
  · rw [h1]
    exact ⟨fun x => absurd x.symm (p_mN (by omega)), fun x => absurd x.2.1 (h3 w hw x.1)⟩
  · rw [h2]
    constructor
    · intro x
      obtain rfl := (nI_eq (by omega) (by omega)).mp x
      exact ⟨h4, h5, h6⟩
    · intro ⟨x1, x2, x3⟩
      congr 1
      have a := h6 w hw x1
      have b := x3 z h1 h4
      rcases a with a | ⟨a, a2⟩ <;> rcases b with b | ⟨b, b2⟩
      · have := q_lt.mp a; have := q_lt.mp b; omega
      · rw [b] at a; have := q_lt.mp a; omega
      · rw [a] at b; have := q_lt.mp b; omega
      · omega
theorem q_best_non {f : Nat → Int32} {P : Nat → Bool} : q_best f P 12 0 (-1) 0 = -1 ↔ ∀ w, w < 12 → P w = true → ¬ 0 < f w := by
  obtain ⟨mo, h⟩ := q_best_bs f P 12 0 (-1) 0 rfl (Or.inl ⟨rfl, rfl, fun y hy => by omega⟩)
  rcases h with ⟨h1, -, h3⟩ | ⟨z, h1, h2, -, h4, h5, h6⟩
  · exact ⟨fun _ => h3, fun _ => h1⟩
  · rw [h2]
    exact ⟨fun x => absurd x (p_mN (by omega)), fun x => absurd h5 (x z h1 h4)⟩
/-- what is said, by what is known and what is used -/
def q_val (m : Nat → Int32) (W : (Nat → Int32) → Int32) (c : Nat) (v : Int32) (e : Nat) (kn us : Int32) : Int32 :=
  if q_mute m e = true then -1 else q_best (q_fit m W c v e) (b_bit (kn &&& (us ^^^ (-1)))) 12 0 (-1) 0
theorem q_says_val (m : Nat → Int32) (W : (Nat → Int32) → Int32) (c : Nat) (v kn : Int32) (e : Nat) : q_says m W c v kn e = q_val m W c v e kn (q_used m) := rfl
theorem q_P {kn us : Int32} {w : Nat} (hw : w < 32) : b_bit (kn &&& (us ^^^ (-1))) w = (b_bit kn w && !b_bit us w) := by
  rw [b_and, b_not us hw]
theorem q_val_top {m : Nat → Int32} {W : (Nat → Int32) → Int32} {c e w : Nat} {v kn us : Int32} (hw : w < 12) : q_val m W c v e kn us = nI w ↔ q_mute m e = false ∧ q_top (q_fit m W c v e) (fun y => b_bit kn y && !b_bit us y) w := by
  unfold q_val
  by_cases hm : q_mute m e = true
  · rw [if_pos hm, hm]
    exact ⟨fun x => absurd x.symm (p_mN (by omega)), fun x => absurd x.1 (by decide)⟩
  · rw [if_neg hm, q_best_top hw]
    have hP : ∀ y, y < 12 → b_bit (kn &&& (us ^^^ (-1))) y = (b_bit kn y && !b_bit us y) := fun y hy => q_P (by omega)
    constructor
    · intro ⟨x1, x2, x3⟩
      exact ⟨by simpa using hm, (hP w hw).symm.trans x1, x2, fun y hy hp => x3 y hy ((hP y hy).trans hp)⟩
    · rintro ⟨-, x1, x2, x3⟩
      exact ⟨(hP w hw).trans x1, x2, fun y hy hp => x3 y hy ((hP y hy).symm.trans hp)⟩
theorem q_val_non {m : Nat → Int32} {W : (Nat → Int32) → Int32} {c e : Nat} {v kn us : Int32} : q_val m W c v e kn us = -1 ↔ q_mute m e = true ∨ ∀ w, w < 12 → b_bit kn w = true → b_bit us w = false → ¬ 0 < q_fit m W c v e w := by
  unfold q_val
  by_cases hm : q_mute m e = true
  · rw [if_pos hm]
    exact ⟨fun _ => Or.inl hm, fun _ => rfl⟩
  · rw [if_neg hm, q_best_non]
    have hP : ∀ y, y < 12 → b_bit (kn &&& (us ^^^ (-1))) y = (b_bit kn y && !b_bit us y) := fun y hy => q_P (by omega)
    constructor
    · intro x
      exact Or.inr fun w hw h1 h2 => x w hw (by rw [hP w hw, h1, h2]; rfl)
    · intro x w hw hp
      rcases x with x | x
      · exact absurd x hm
      · rw [hP w hw] at hp
        simp only [Bool.and_eq_true, Bool.not_eq_true'] at hp
        exact x w hw hp.1 hp.2
theorem q_val_O (m : Nat → Int32) (W : (Nat → Int32) → Int32) (c : Nat) (v : Int32) (e : Nat) (kn us : Int32) : p_O (q_val m W c v e kn us) 12 := by
  unfold q_val
  split
  · exact Or.inl rfl
  · exact q_best_O _ _ 12 0 _ _ (by decide) (Or.inl rfl)
/-- how many of a row of places -/
def q_cnt (D : Nat → Bool) : Nat → Nat → Nat
  | 0, _ => 0
  | k + 1, w => (if D w = true then 1 else 0) + q_cnt D k (w + 1)
theorem q_cnt_le (D : Nat → Bool) : ∀ (k w : Nat), q_cnt D k w ≤ k
  | 0, w => Nat.le_refl _
  | k + 1, w => by
    have := q_cnt_le D k (w + 1)
    unfold q_cnt
    split <;> omega
theorem q_cnt_0 {D : Nat → Bool} : ∀ (k w : Nat), (∀ y, w ≤ y → y < w + k → D y = false) → q_cnt D k w = 0
  | 0, w, _ => rfl
  | k + 1, w, h => by
    unfold q_cnt
    rw [h w (by omega) (by omega), q_cnt_0 k (w + 1) fun y h1 h2 => h y (by omega) (by omega)]
    rfl
theorem q_cnt_1 {D : Nat → Bool} {z : Nat} : ∀ (k w : Nat), (∀ y, w ≤ y → y < w + k → D y = decide (y = z)) → w ≤ z → z < w + k → q_cnt D k w = 1
  | 0, w, _, h1, h2 => by omega
  | k + 1, w, h, h1, h2 => by
    unfold q_cnt
    rw [h w (by omega) (by omega)]
    by_cases e : w = z
    · subst e
      rw [q_cnt_0 k (w + 1) fun y z1 z2 => by rw [h y (by omega) (by omega)]; simp; omega]
      simp
    · rw [q_cnt_1 k (w + 1) (fun y z1 z2 => h y (by omega) (by omega)) (by omega) (by omega)]
      simp [e]
theorem q_cnt_pos {D : Nat → Bool} {z : Nat} (hz : D z = true) : ∀ (k w : Nat), w ≤ z → z < w + k → 1 ≤ q_cnt D k w
  | 0, w, h1, h2 => by omega
  | k + 1, w, h1, h2 => by
    unfold q_cnt
    by_cases e : w = z
    · subst e
      rw [hz]
      simp
    · have := q_cnt_pos hz k (w + 1) (by omega) (by omega)
      omega
theorem m_many (g : c_G) (x : Int32) : fX12_many g x = some (nI (q_cnt (b_bit x) 12 0)) := by
  have loop : ∀ (k w F b : Nat), w + k = 12 → k < F → fX12_many_4 x F x (nI b) (nI w) g = some (nI (b + q_cnt (b_bit x) k w)) := by
    intro k
    induction k with
    | zero =>
      intro w F b hw hF
      obtain ⟨F, rfl⟩ : ∃ f, F = f + 1 := ⟨F - 1, by omega⟩
      rw [fX12_many_4, if_pos (show (12 : Int32) ≤ nI w from nI_le (a := 12) (by omega) (by omega))]
      rfl
    | succ k ih =>
      intro w F b hw hF
      obtain ⟨F, rfl⟩ : ∃ f, F = f + 1 := ⟨F - 1, by omega⟩
      rw [fX12_many_4, if_neg (show ¬ (12 : Int32) ≤ nI w from nI_ge (b := 12) (by omega) (by decide)), c_let_d, c_let_d, nI_1, b_shr x (by omega)]
      unfold q_cnt
      by_cases q : b_bit x w = true
      · rw [if_pos q, if_pos q, nI_1, ih (w + 1) F (b + 1) (by omega) (by omega), Nat.add_assoc]
      · rw [if_neg q, if_neg q, Int32.add_zero, ih (w + 1) F b (by omega) (by omega), Nat.zero_add]
  unfold fX12_many
  have := loop 12 0 c_F 0 rfl (by decide)
  rwa [Nat.zero_add] at this
/-! odds -/
theorem q_frI (a1 a2 : Int64) (a3 : Int32) (g g' : c_G) : ∀ (n : Nat) (x0 x2 : Int64) (x4 : Int32) (x5 x7 : Int64), fX12_fraction_6 a1 a2 a3 n x0 x2 x4 x5 x7 g = fX12_fraction_6 a1 a2 a3 n x0 x2 x4 x5 x7 g'
  | 0, _, _, _, _, _ => rfl
  | n + 1, x0, x2, x4, x5, x7 => by
    rw [fX12_fraction_6, fX12_fraction_6]
    simp only [c_let_d, q_frI a1 a2 a3 g g' n]
def g00 : c_G := (fun _ _ => 0, fun _ _ => 0, fun _ => 0)
theorem q_fr00 (g : c_G) (a b : Int64) (p : Int32) : fX12_fraction g a b p = fX12_fraction g00 a b p := by
  unfold fX12_fraction
  exact q_frI a b p g g00 _ _ _ _ _ _
theorem q_fr12 : ∀ k, k < 2 → ∀ p, p < 2 → fX12_fraction g00 (nI k).toInt64 12 (nI p) = some (if p = 0 then (if k = 0 then 0 else 1) else (if k = 0 then 1 else 12)) := by decide +kernel
theorem q_used_or (us : Int32) {w y : Nat} (hw : w < 12) (hy : y < 32) : b_bit (us ||| ((1 : Int32) <<< (nI w &&& 31))) y = (b_bit us y || decide (y = w)) := by
  rw [b_or, b_pow (by omega)]
theorem q_odds1 {m : Nat → Int32} {W : (Nat → Int32) → Int32} {c e : Nat} {v kn us : Int32} : (q_val m W c v e kn us = -1 → ∀ w, w < 12 → q_val m W c v e kn (us ||| ((1 : Int32) <<< (nI w &&& 31))) = -1) ∧ ∀ z, z < 12 → q_val m W c v e kn us = nI z → ∀ w, w < 12 → (q_val m W c v e kn (us ||| ((1 : Int32) <<< (nI w &&& 31))) = nI z ↔ w ≠ z) := by
  refine ⟨fun h w hw => ?_, fun z hz h w hw => ?_⟩
  · rw [q_val_non] at h ⊢
    rcases h with h | h
    · exact Or.inl h
    · refine Or.inr fun y hy h1 h2 => h y hy h1 ?_
      rw [q_used_or us hw (by omega)] at h2
      simp only [Bool.or_eq_false_iff] at h2
      exact h2.1
  · rw [q_val_top hz] at h ⊢
    obtain ⟨h0, h1, h2, h3⟩ := h
    constructor
    · rintro ⟨-, k1, -, -⟩ rfl
      have k1' : (b_bit kn w && !b_bit (us ||| ((1 : Int32) <<< (nI w &&& 31))) w) = true := k1
      rw [q_used_or us hw (by omega)] at k1'
      simp at k1'
    · intro hne
      refine ⟨h0, ?_, h2, fun y hy hp => h3 y hy ?_⟩
      · show (b_bit kn z && !b_bit _ z) = true
        rw [q_used_or us hw (by omega)]
        have : (b_bit kn z && !b_bit us z) = true := h1
        simp only [Bool.and_eq_true, Bool.not_eq_true'] at this
        simp [this.1, this.2, Ne.symm hne]
      · have hp' : (b_bit kn y && !b_bit (us ||| ((1 : Int32) <<< (nI w &&& 31))) y) = true := hp
        rw [q_used_or us hw (by omega)] at hp'
        show (b_bit kn y && !b_bit us y) = true
        simp only [Bool.and_eq_true, Bool.not_eq_true', Bool.or_eq_false_iff] at hp' ⊢
        exact ⟨hp'.1, hp'.2.1⟩
theorem m_oddsL (a1 a2 a3 : Int32) {g : c_G} {W : (Nat → Int32) → Int32} {c e : Nat} (hc : c < 6) (he : e < 6) {v kn said x3 : Int32} (hkn : g.1 1 (24 + 9 * c + 2) = kn) (ht : ∀ w, w < 12 → g.1 12 (12 * e + w) = q_fit (g.1 1) W c v e w) : ∀ (k w F b : Nat), w + k = 12 → k < F →
    fX12_odds_42 a1 a2 a3 F (nI c) (nI e) x3 said (nI b) (nI w) g = (fX12_fraction g (nI (b + q_cnt (fun w => !decide (q_val (g.1 1) W c v e kn (q_used (g.1 1) ||| ((1 : Int32) <<< (nI w &&& 31))) = said)) k w)).toInt64 12 x3).bind fun r => some (g, r) := by
  intro k
  induction k with
  | zero =>
    intro w F b hw hF
    obtain ⟨F, rfl⟩ : ∃ f, F = f + 1 := ⟨F - 1, by omega⟩
    rw [fX12_odds_42, if_pos (show (12 : Int32) ≤ nI w from nI_le (a := 12) (by omega) (by omega))]
    rfl
  | succ k ih =>
    intro w F b hw hF
    obtain ⟨F, rfl⟩ : ∃ f, F = f + 1 := ⟨F - 1, by omega⟩
    have hs := m_saysByT (g := g) (g' := g) (W := W) (c := c) (v := v) he rfl ht kn (q_used (g.1 1) ||| ((1 : Int32) <<< (nI w &&& 31)))
    rw [fX12_odds_42, if_neg (show ¬ (12 : Int32) ≤ nI w from nI_ge (b := 12) (by omega) (by decide)), e_one g hc 2 (by decide) 2 rfl, Option.bind_some, m_used, Option.bind_some, hkn, hs, Option.bind_some]
    unfold fX12_odds_81 q_cnt
    show (if q_val (g.1 1) W c v e kn (q_used (g.1 1) ||| ((1 : Int32) <<< (nI w &&& 31))) = said then _ else _) = _
    by_cases q : q_val (g.1 1) W c v e kn (q_used (g.1 1) ||| ((1 : Int32) <<< (nI w &&& 31))) = said
    · rw [if_pos q, c_let_d, c_let_d, nI_1, Int32.add_zero, ih (w + 1) F b (by omega) (by omega), if_neg (by simp [q]), Nat.zero_add]
    · rw [if_neg q, c_let_d, c_let_d, nI_1, nI_1, ih (w + 1) F (b + 1) (by omega) (by omega), if_pos (by simp [q]), Nat.add_assoc]
theorem e_part (a : Int32) : (fX11_isPart a = 0 ∧ fX12_isIn a 0 1 = 0) ∨ (fX11_isPart a = 1 ∧ fX12_isIn a 0 1 = 1 ∧ p_N a 2) := by
  unfold fX11_isPart
  rcases e_isInK a (n := 2) (by decide) 1 rfl with ⟨q3, q4⟩ | ⟨q3, k, hk, rfl⟩
  · left
    rw [if_neg (show ¬ a = (0 : Int32) from fun z => q4 ⟨0, by decide, z⟩), if_neg (show ¬ a = (1 : Int32) from fun z => q4 ⟨1, by decide, z⟩)]
    exact ⟨rfl, q3⟩
  · right
    rcases (show k = 0 ∨ k = 1 by omega) with rfl | rfl
    · exact ⟨rfl, q3, 0, by decide, rfl⟩
    · exact ⟨rfl, q3, 1, by decide, rfl⟩
def p_El (x y : Option (c_G × Int64)) : Prop := ∃ gC gM r, x = some (gC, r) ∧ y = some (gM, r) ∧ p_R gC gM
theorem p_R.sameL {gC gM : c_G} (h : p_R gC gM) (r : Int64) : p_El (some (gC, r)) (some (gM, r)) := ⟨gC, gM, r, rfl, rfl, h⟩
theorem e_odds {gC gM : c_G} (h : p_R gC gM) (a b d : Int32) : p_El (fX11_odds gC a b d) (fX12_odds gM a b d) := by
  obtain ⟨n, hs, h1, h2, h3⟩ := id h
  obtain ⟨c, hc, e1, e2⟩ := hs.many
  unfold fX11_odds fX12_odds
  rcases e_child hc e1 e2 a with ⟨q1, q2, -⟩ | ⟨q1, q2, i, hi, rfl⟩
  · rw [q1, q2]
    exact h.sameL _
  · rw [q1, q2]
    rcases e_elder b with ⟨q3, q4, -⟩ | ⟨q3, q4, e, he, rfl⟩
    · rw [q3, q4]
      exact h.sameL _
    · rw [q3, q4]
      rcases e_part d with ⟨q5, q6⟩ | ⟨q5, q6, p, hp, rfl⟩
      · rw [q5, q6]
        exact h.sameL _
      · rw [q5, q6, Option.bind_some, Option.bind_some, if_neg i10, if_neg i10, if_neg i10, if_neg i10, if_neg i10, if_neg i10]
        have hi6 : i < 6 := by omega
        obtain ⟨W, L, hL, hW, hM⟩ := hs.ctx h2 h3
        have r6 : gC.1 61 i = gM.1 1 (24 + 9 * i + 1) := by rw [hs.1, p_al_v _ _ hi6]
        have r7 : gC.1 62 i = gM.1 1 (24 + 9 * i + 2) := by rw [hs.1, p_al_knows _ _ hi6]
        obtain ⟨g1, f1, f2, f3⟩ := c_says hs rfl hW hi6 he (gM.1 1 (24 + 9 * i + 1)) (gM.1 1 (24 + 9 * i + 2))
        obtain ⟨g2, k1, k2, k3⟩ := m_says hM hi6 he (hs.okkind hi6)
        have m1 : g2.1 1 = gM.1 1 := k2.row (by decide) (by decide) (by decide) (by decide)
        have hR := h.said f2 f3 k2
        have hl := m_oddsL (nI i) (nI e) (nI p) (said := q_says (gM.1 1) W i (gM.1 1 (24 + 9 * i + 1)) (gM.1 1 (24 + 9 * i + 2)) e) (x3 := nI p) hi6 he (kn := gM.1 1 (24 + 9 * i + 2)) (by rw [m1]) (by rw [m1]; exact k3) 12 0 c_F 0 rfl (by decide)
        rw [m1, Nat.zero_add, nI_0] at hl
        unfold fX11_saysNow
        rw [p_in hi6 (by decide), if_pos rfl, nI_clamp (show i < 2 ^ 31 by omega), r6, r7, f1, c_b2s, c_b2s, k1, c_b2s, hl, q_fr00]
        unfold fX11_odds_42
        have e12 := q_fr12
        obtain ⟨od1, od2⟩ := q_odds1 (m := gM.1 1) (W := W) (c := i) (e := e) (v := gM.1 1 (24 + 9 * i + 1)) (kn := gM.1 1 (24 + 9 * i + 2)) (us := q_used (gM.1 1))
        rw [q_says_val]
        rcases q_val_O (gM.1 1) W i (gM.1 1 (24 + 9 * i + 1)) e (gM.1 1 (24 + 9 * i + 2)) (q_used (gM.1 1)) with z | ⟨w, hw, z⟩
        · have ec : q_cnt (fun w => !decide (q_val (gM.1 1) W i (gM.1 1 (24 + 9 * i + 1)) e (gM.1 1 (24 + 9 * i + 2)) (q_used (gM.1 1) ||| ((1 : Int32) <<< (nI w &&& 31))) = q_val (gM.1 1) W i (gM.1 1 (24 + 9 * i + 1)) e (gM.1 1 (24 + 9 * i + 2)) (q_used (gM.1 1)))) 12 0 = 0 := q_cnt_0 12 0 fun y _ hy => by
            rw [z, od1 z y (by omega)]
            rfl
          rw [ec, z, if_pos rfl, e12 0 (by decide) p hp, Option.bind_some]
          rcases (show p = 0 ∨ p = 1 by omega) with rfl | rfl
          · exact ⟨g1, g2, _, rfl, rfl, hR⟩
          · exact ⟨g1, g2, _, rfl, rfl, hR⟩
        · have ec : q_cnt (fun w => !decide (q_val (gM.1 1) W i (gM.1 1 (24 + 9 * i + 1)) e (gM.1 1 (24 + 9 * i + 2)) (q_used (gM.1 1) ||| ((1 : Int32) <<< (nI w &&& 31))) = q_val (gM.1 1) W i (gM.1 1 (24 + 9 * i + 1)) e (gM.1 1 (24 + 9 * i + 2)) (q_used (gM.1 1)))) 12 0 = 1 := q_cnt_1 (z := w) 12 0 (fun y _ hy => by
            have t := od2 w hw z y (by omega)
            rw [z]
            by_cases e : y = w
            · simp [e, (not_congr (od2 w hw z w hw)).mpr (fun q => q rfl)]
            · simp [e, t.mpr e]) (Nat.zero_le _) (by omega)
          rw [ec, z, p_or_nI (by omega), if_neg (p_5N (by omega)), e12 1 (by decide) p hp, Option.bind_some]
          rcases (show p = 0 ∨ p = 1 by omega) with rfl | rfl
          · exact ⟨g1, g2, _, rfl, rfl, hR⟩
          · exact ⟨g1, g2, _, rfl, rfl, hR⟩
/-! teach -/
theorem q_teachT (kn : Int32) {w : Nat} (hw : w < 12) : ((1 : Int32) <<< (nI w &&& 31)) &&& (kn ^^^ (-1)) = nI (if b_bit kn w = true then 0 else 2 ^ w) := by
  have h2 : 2 ^ w < 2 ^ 32 := Nat.pow_lt_pow_right (by decide) (by omega)
  apply b_ext
  intro y hy
  rw [b_and, b_pow (by omega), b_not kn hy]
  by_cases q : b_bit kn w = true
  · rw [if_pos q, nI_0, b_zero]
    by_cases e : y = w
    · subst e; simp [q]
    · simp [e]
  · rw [if_neg q, b_nI h2, Nat.testBit_two_pow]
    by_cases e : y = w
    · subst e
      simp [show b_bit kn y = false by simpa using q]
    · simp [e, Ne.symm e]
theorem q_teach1 {m : Nat → Int32} {W : (Nat → Int32) → Int32} {c e w s : Nat} {v kn us : Int32} (hw : w < 12) (hs : s < 4096) (h : q_val m W c v e (kn ||| nI s) us = nI w) : q_val m W c v e (kn ||| nI (if b_bit kn w = true then 0 else 2 ^ w)) us = nI w ∧ (if b_bit kn w = true then 0 else 2 ^ w) ≤ s := by
  have h2 : 2 ^ w < 2 ^ 32 := Nat.pow_lt_pow_right (by decide) (by omega)
  rw [q_val_top hw] at h ⊢
  obtain ⟨h0, h1, h3, h4⟩ := h
  have h1' : (b_bit (kn ||| nI s) w && !b_bit us w) = true := h1
  rw [b_or, b_nI (show s < 2 ^ 32 by omega)] at h1'
  simp only [Bool.and_eq_true, Bool.or_eq_true, Bool.not_eq_true'] at h1'
  refine ⟨⟨h0, ?_, h3, fun y hy hp => h4 y hy ?_⟩, ?_⟩
  · show (b_bit (kn ||| _) w && !b_bit us w) = true
    by_cases q : b_bit kn w = true
    · rw [if_pos q, b_or, q, h1'.2]; rfl
    · rw [if_neg q, b_or, b_nI h2, Nat.testBit_two_pow, h1'.2]
      simp
  · have hp' : (b_bit (kn ||| nI (if b_bit kn w = true then 0 else 2 ^ w)) y && !b_bit us y) = true := hp
    show (b_bit (kn ||| nI s) y && !b_bit us y) = true
    simp only [Bool.and_eq_true, Bool.not_eq_true'] at hp' ⊢
    refine ⟨?_, hp'.2⟩
    rw [b_or, b_nI (show s < 2 ^ 32 by omega)]
    have a := hp'.1
    by_cases e : y = w
    · subst e
      rcases h1'.1 with z | z <;> simp [z]
    · rw [b_or] at a
      by_cases q : b_bit kn w = true
      · rw [if_pos q, nI_0, b_zero, Bool.or_false] at a
        simp [a]
      · rw [if_neg q, b_nI h2, Nat.testBit_two_pow] at a
        simp [Ne.symm e] at a
        simp [a]
  · by_cases q : b_bit kn w = true
    · rw [if_pos q]; exact Nat.zero_le _
    · rw [if_neg q]
      rcases h1'.1 with z | z
      · exact absurd z q
      · exact Nat.ge_two_pow_of_testBit z
theorem q_nz {s : Nat} (hs : s < 4096) (h : 0 < s) : 1 ≤ q_cnt (b_bit (nI s)) 12 0 := by
  by_cases q : ∃ y, y < 12 ∧ s.testBit y = true
  · obtain ⟨y, hy, z⟩ := q
    exact q_cnt_pos (z := y) (by rw [b_nI (by omega)]; exact z) 12 0 (Nat.zero_le _) (by omega)
  · exfalso
    have : s = 0 := by
      apply Nat.eq_of_testBit_eq
      intro i
      rw [Nat.zero_testBit]
      by_cases hi : i < 12
      · simpa using fun z => q ⟨i, hi, z⟩
      · exact Nat.testBit_lt_two_pow (Nat.lt_of_lt_of_le hs (show 2 ^ 12 ≤ 2 ^ i from Nat.pow_le_pow_right (by decide) (by omega)))
    omega
theorem m_teachL (a1 a2 a3 : Int32) {g : c_G} {W : (Nat → Int32) → Int32} {c e w : Nat} (he : e < 6) (hw : w < 12) {v kn us : Int32} (ht : ∀ w, w < 12 → g.1 12 (12 * e + w) = q_fit (g.1 1) W c v e w) {t : Nat} (et : t = if b_bit kn w = true then 0 else 2 ^ w) : ∀ (k s F : Nat) (x6 : Int32), s + k = 4096 → k < F → (x6 = if q_val (g.1 1) W c v e (kn ||| nI t) us = nI w ∧ t < s then nI t else -5) →
    fX12_teach_51 a1 a2 a3 F (nI e) (nI w) us kn x6 (nI s) g = some (g, if q_val (g.1 1) W c v e (kn ||| nI t) us = nI w then nI t else -5) := by
  have t12 : t < 4096 := by
    rw [et]
    split
    · decide
    · exact Nat.lt_of_lt_of_le (Nat.pow_lt_pow_right (by decide) hw) (by decide)
  have tcnt : ∀ s, s < 4096 → t < s → q_cnt (b_bit (nI t)) 12 0 ≤ q_cnt (b_bit (nI s)) 12 0 := by
    intro s hs hts
    by_cases q : b_bit kn w = true
    · rw [if_pos q] at et
      rw [et, q_cnt_0 12 0 fun y _ _ => by rw [nI_0, b_zero]]
      exact Nat.zero_le _
    · rw [if_neg q] at et
      have : q_cnt (b_bit (nI t)) 12 0 = 1 := q_cnt_1 (z := w) 12 0 (fun y _ hy => by
        rw [b_nI (by omega), et, Nat.testBit_two_pow]
        by_cases e : y = w
        · subst e; simp
        · simp [e, Ne.symm e]) (Nat.zero_le _) (by omega)
      rw [this]
      exact q_nz hs (by omega)
  have tdis : nI t &&& kn = 0 := by
    apply b_ext
    intro y hy
    rw [b_and, b_zero, b_nI (by omega), et]
    by_cases q : b_bit kn w = true
    · rw [if_pos q, Nat.zero_testBit]; rfl
    · rw [if_neg q, Nat.testBit_two_pow]
      by_cases e : w = y
      · subst e; simp [show b_bit kn w = false by simpa using q]
      · simp [e]
  intro k
  induction k with
  | zero =>
    intro s F x6 hs hF hx
    obtain ⟨F, rfl⟩ : ∃ f, F = f + 1 := ⟨F - 1, by omega⟩
    rw [fX12_teach_51, if_pos (show (4096 : Int32) ≤ nI s from nI_le (a := 4096) (by omega) (by omega)), hx]
    by_cases q : q_val (g.1 1) W c v e (kn ||| nI t) us = nI w
    · rw [if_pos ⟨q, by omega⟩, if_pos q]
    · rw [if_neg (fun z => q z.1), if_neg q]
  | succ k ih =>
    intro s F x6 hs hF hx
    obtain ⟨F, rfl⟩ : ∃ f, F = f + 1 := ⟨F - 1, by omega⟩
    have hval : fX12_saysBy g (nI e) (kn ||| nI s) us = some (q_val (g.1 1) W c v e (kn ||| nI s) us) := m_saysByT (g := g) (g' := g) he rfl ht (kn ||| nI s) us
    have h87 : fX12_teach_87 (fX12_teach_51 a1 a2 a3 F) a1 a2 a3 (nI e) (nI w) us kn x6 (nI s) g = fX12_teach_51 a1 a2 a3 F (nI e) (nI w) us kn (if q_val (g.1 1) W c v e (kn ||| nI s) us = nI w then nI s else x6) (nI (s + 1)) g := by
      unfold fX12_teach_87 fX12_teach_110 fX12_teach_112
      rw [hval, Option.bind_some]
      split
      · rw [c_let_d, nI_1]
      · rw [c_let_d, nI_1]
    have h112 : fX12_teach_112 (fX12_teach_51 a1 a2 a3 F) a1 a2 a3 (nI e) (nI w) us kn x6 (nI s) g = fX12_teach_51 a1 a2 a3 F (nI e) (nI w) us kn x6 (nI (s + 1)) g := by
      unfold fX12_teach_112
      rw [c_let_d, nI_1]
    have go := fun x6 => ih (s + 1) F x6 (by omega) (by omega)
    rw [fX12_teach_51, if_neg (show ¬ (4096 : Int32) ≤ nI s from nI_ge (b := 4096) (by omega) (by decide)), h112, h87]
    by_cases good : q_val (g.1 1) W c v e (kn ||| nI t) us = nI w
    · by_cases hst : t < s
      · -- the least is found
        rw [if_pos ⟨good, hst⟩] at hx
        have keep : fX12_teach_51 a1 a2 a3 F (nI e) (nI w) us kn x6 (nI (s + 1)) g = some (g, if q_val (g.1 1) W c v e (kn ||| nI t) us = nI w then nI t else -5) := go x6 (by rw [hx, if_pos ⟨good, by omega⟩])
        by_cases hd : nI s &&& kn = 0
        · have hle : nI (q_cnt (b_bit x6) 12 0) ≤ nI (q_cnt (b_bit (nI s)) 12 0) := by
            rw [hx]
            exact nI_le (tcnt s (by omega) hst) (by have := q_cnt_le (b_bit (nI s)) 12 0; omega)
          rw [if_pos hd, if_neg (show ¬ x6 = -5 by rw [hx]; exact p_5N (by omega)), m_many, m_many, Option.bind_some, Option.bind_some, if_pos hle]
          exact keep
        · rw [if_neg hd]
          exact keep
      · rw [if_neg (fun z => hst z.2)] at hx
        by_cases e0 : s = t
        · subst e0
          rw [if_pos tdis, hx, if_pos rfl, if_pos good]
          exact (go _ (by rw [if_pos ⟨good, by omega⟩])).trans (by rw [if_pos good])
        · have bad : ¬ q_val (g.1 1) W c v e (kn ||| nI s) us = nI w := fun z => by
            have := (q_teach1 hw (show s < 4096 by omega) z).2
            rw [← et] at this
            omega
          have keep : fX12_teach_51 a1 a2 a3 F (nI e) (nI w) us kn x6 (nI (s + 1)) g = some (g, if q_val (g.1 1) W c v e (kn ||| nI t) us = nI w then nI t else -5) := go x6 (by rw [hx, if_neg (fun z => by omega)])
          rw [if_neg bad]
          by_cases hd : nI s &&& kn = 0
          · rw [if_pos hd, if_pos hx]
            exact keep
          · rw [if_neg hd]
            exact keep
    · rw [if_neg (fun z => good z.1)] at hx
      have bad : ¬ q_val (g.1 1) W c v e (kn ||| nI s) us = nI w := fun z => good (by rw [et]; exact (q_teach1 hw (show s < 4096 by omega) z).1)
      have keep : fX12_teach_51 a1 a2 a3 F (nI e) (nI w) us kn x6 (nI (s + 1)) g = some (g, if q_val (g.1 1) W c v e (kn ||| nI t) us = nI w then nI t else -5) := go x6 (by rw [hx, if_neg (fun z => good z.1)])
      rw [if_neg bad]
      by_cases hd : nI s &&& kn = 0
      · rw [if_pos hd, if_pos hx]
        exact keep
      · rw [if_neg hd]
        exact keep
theorem e_teach {gC gM : c_G} (h : p_R gC gM) (a b d : Int32) : p_Eq (fX11_teach gC a b d) (fX12_teach gM a b d) := by
  obtain ⟨n, hs, h1, h2, h3⟩ := id h
  obtain ⟨c, hc, e1, e2⟩ := hs.many
  unfold fX11_teach fX12_teach
  rcases e_child hc e1 e2 a with ⟨q1, q2, -⟩ | ⟨q1, q2, i, hi, rfl⟩
  · rw [q1, q2]
    exact h.same _
  · rw [q1, q2]
    rcases e_elder b with ⟨q3, q4, -⟩ | ⟨q3, q4, e, he, rfl⟩
    · rw [q3, q4]
      exact h.same _
    · rw [q3, q4]
      rcases e_word d with ⟨q5, q6, -⟩ | ⟨q5, q6, w, hw, rfl⟩
      · rw [q5, q6]
        exact h.same _
      · rw [q5, q6, Option.bind_some, Option.bind_some, if_neg i10, if_neg i10, if_neg i10, if_neg i10, if_neg i10, if_neg i10]
        have hi6 : i < 6 := by omega
        obtain ⟨W, L, hL, hW, hM⟩ := hs.ctx h2 h3
        have r6 : gC.1 61 i = gM.1 1 (24 + 9 * i + 1) := by rw [hs.1, p_al_v _ _ hi6]
        have r7 : gC.1 62 i = gM.1 1 (24 + 9 * i + 2) := by rw [hs.1, p_al_knows _ _ hi6]
        obtain ⟨g2, k1, k2, k3, -⟩ := m_tell hM hi6 he (hs.okkind hi6)
        have m1 : g2.1 1 = gM.1 1 := k2.row (by decide) (by decide) (by decide) (by decide)
        obtain ⟨g1, f1, f2, f3⟩ := c_says hs rfl hW hi6 he (gM.1 1 (24 + 9 * i + 1)) (gM.1 1 (24 + 9 * i + 2) ||| nI (if b_bit (gM.1 1 (24 + 9 * i + 2)) w = true then 0 else 2 ^ w))
        have hR := h.said f2 f3 k2
        have hl := m_teachL (nI i) (nI e) (nI w) (g := g2) (W := W) (c := i) (v := gM.1 1 (24 + 9 * i + 1)) (kn := gM.1 1 (24 + 9 * i + 2)) (us := q_used (gM.1 1)) he hw (by rw [m1]; exact k3) rfl 4096 0 c_F (-5) rfl (by decide) (by rw [if_neg (fun z => Nat.not_lt_zero _ z.2)])
        rw [m1, nI_0] at hl
        rw [p_in hi6 (by decide), if_pos rfl, nI_clamp (show i < 2 ^ 31 by omega), r6, r7, q_teachT _ hw, c_let_d, f1, c_b2s, k1, Option.bind_some, m_used, Option.bind_some, e_one g2 hi6 2 (by decide) 2 rfl, Option.bind_some, m1, hl, q_says_val]
        by_cases q : q_val (gM.1 1) W i (gM.1 1 (24 + 9 * i + 1)) e (gM.1 1 (24 + 9 * i + 2) ||| nI (if b_bit (gM.1 1 (24 + 9 * i + 2)) w = true then 0 else 2 ^ w)) (q_used (gM.1 1)) = nI w
        · rw [if_pos q, q, p_or_nI (by omega), if_pos rfl]
          exact ⟨g1, g2, _, rfl, rfl, hR⟩
        · rw [if_neg q, if_neg (fun z => q ?_)]
          · exact ⟨g1, g2, _, rfl, rfl, hR⟩
          · rcases q_val_O (gM.1 1) W i (gM.1 1 (24 + 9 * i + 1)) e (gM.1 1 (24 + 9 * i + 2) ||| nI (if b_bit (gM.1 1 (24 + 9 * i + 2)) w = true then 0 else 2 ^ w)) (q_used (gM.1 1)) with z1 | ⟨y, hy, z1⟩
            · rw [z1] at z
              exact absurd z.symm (p_5N (by omega))
            · rw [z1, p_or_nI (by omega)] at z
              rw [z1, z]
