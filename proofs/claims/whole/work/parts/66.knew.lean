/-! PURE: knew on the class's side, of -/
theorem c_wordsOpenTo {g : c_G} {m : Nat → Int32} {W : (Nat → Int32) → Int32} {L : Int32} (hs : p_St g 55 m) (hW : q_C g 55 W L) {c e : Nat} (hc : c < 6) (he : e < 6) :
    ∃ g' O, fX11_wordsOpenTo g (nI c) (nI e) = some (g', O) ∧ (∀ a, a ≠ 3 → a ≠ 4 → g'.1 a = g.1 a) ∧ g'.2 = g.2 ∧ (q_mute m e = false → ∀ w, w < 12 → g'.1 4 w = q_fit m W c (m (24 + 9 * c + 1)) e w) ∧
      ∀ y, y < 32 → b_bit O y = (!q_mute m e && (decide (y < 12) && (decide (0 < q_fit m W c (m (24 + 9 * c + 1)) e y) && !b_bit (q_used m) y))) := by
  unfold fX11_wordsOpenTo
  rw [c_listens hs rfl he, Option.bind_some]
  by_cases hm : q_mute m e = true
  · rw [if_pos hm, if_pos rfl]
    refine ⟨g, 0, rfl, fun _ _ _ => rfl, rfl, (fun z => by rw [hm] at z; cases z), fun y _ => ?_⟩
    rw [hm, b_zero]
    rfl
  · have r6 : g.1 61 c = m (24 + 9 * c + 1) := by rw [hs.1, p_al_v _ _ hc]
    obtain ⟨g', e1, e2, e3, e4⟩ := c_weigh hs rfl hW hc he (m (24 + 9 * c + 1))
    have hs' : p_St g' 55 m := hs.eq (fun a z1 z2 => e2 a (by omega) (by omega)) (by rw [e3])
    have loop : ∀ (d w F : Nat) (x : Int32), w + d = 12 → d < F → (∀ y, y < 32 → b_bit x y = (decide (y < w) && decide (0 < q_fit m W c (m (24 + 9 * c + 1)) e y))) →
        ∃ x', fX11_wordsOpenTo_37 (nI c) (nI e) F x (nI w) g' = some (g', x' &&& (q_used m ^^^ (-1))) ∧ ∀ y, y < 32 → b_bit x' y = (decide (y < 12) && decide (0 < q_fit m W c (m (24 + 9 * c + 1)) e y)) := by
      intro d
      induction d with
      | zero =>
        intro w F x hw hF hx
        obtain ⟨F, rfl⟩ : ∃ f, F = f + 1 := ⟨F - 1, by omega⟩
        obtain rfl : w = 12 := by omega
        refine ⟨x, ?_, hx⟩
        rw [fX11_wordsOpenTo_37, if_pos (show (12 : Int32) ≤ nI 12 by decide), c_used hs' rfl, Option.bind_some]
      | succ d ih =>
        intro w F x hw hF hx
        obtain ⟨F, rfl⟩ : ∃ f, F = f + 1 := ⟨F - 1, by omega⟩
        rw [fX11_wordsOpenTo_37, if_neg (show ¬ (12 : Int32) ≤ nI w from nI_ge (b := 12) (by omega) (by decide)), p_in (show w < 12 by omega) (by decide), if_pos rfl, nI_clamp (by omega), e4 w (by omega)]
        unfold fX11_wordsOpenTo_61
        by_cases q : q_fit m W c (m (24 + 9 * c + 1)) e w ≤ 0
        · have q' : ¬ 0 < q_fit m W c (m (24 + 9 * c + 1)) e w := Int32.not_lt.mpr q
          rw [if_pos q, c_let_d, nI_1]
          refine ih (w + 1) F x (by omega) (by omega) fun y hy => ?_
          rw [hx y hy]
          by_cases e : y = w
          · subst e
            simp [q']
          · rw [show decide (y < w) = decide (y < w + 1) by congr 1; exact propext ⟨fun _ => by omega, fun _ => by omega⟩]
        · have q' : 0 < q_fit m W c (m (24 + 9 * c + 1)) e w := Int32.not_le.mp q
          rw [if_neg q, c_let_d, c_let_d, nI_1]
          refine ih (w + 1) F _ (by omega) (by omega) fun y hy => ?_
          rw [b_or, b_pow (by omega), hx y hy]
          by_cases e : y = w
          · subst e
            simp [q']
          · rw [show decide (y < w) = decide (y < w + 1) by congr 1; exact propext ⟨fun _ => by omega, fun _ => by omega⟩]
            simp [e]
    obtain ⟨x', f1, f2⟩ := loop 12 0 c_F 0 rfl (by decide) fun y hy => by rw [b_zero]; simp
    rw [nI_0] at f1
    rw [if_neg hm, if_neg i10, p_in hc (by decide), if_pos rfl, nI_clamp (show c < 2 ^ 31 by omega), r6, e1, Option.bind_some, f1]
    refine ⟨g', _, rfl, e2, e3, fun _ => e4, fun y hy => ?_⟩
    rw [b_and, b_not _ hy, f2 y hy, show q_mute m e = false by simpa using hm, Bool.and_assoc]
    rfl
theorem c_aheadOf {g : c_G} {f : Nat → Int32} (hf : ∀ w, w < 12 → g.1 4 w = f w) {z : Nat} (hz : z < 12) (O : Int32) : ∃ x, fX11_aheadOf g (nI z) O = some (x &&& O) ∧ ∀ y, y < 32 → b_bit x y = (decide (y < 12) && (decide (f z < f y) || (decide (f y = f z) && decide (y < z)))) := by
  have loop : ∀ (d w F : Nat) (x : Int32), w + d = 12 → d < F → (∀ y, y < 32 → b_bit x y = (decide (y < w) && (decide (f z < f y) || (decide (f y = f z) && decide (y < z))))) →
      ∃ x', fX11_aheadOf_5 (nI z) O F (nI z) O x (nI w) g = some (x' &&& O) ∧ ∀ y, y < 32 → b_bit x' y = (decide (y < 12) && (decide (f z < f y) || (decide (f y = f z) && decide (y < z)))) := by
    intro d
    induction d with
    | zero =>
      intro w F x hw hF hx
      obtain ⟨F, rfl⟩ : ∃ f, F = f + 1 := ⟨F - 1, by omega⟩
      obtain rfl : w = 12 := by omega
      refine ⟨x, ?_, hx⟩
      rw [fX11_aheadOf_5, if_pos (show (12 : Int32) ≤ nI 12 by decide)]
    | succ d ih =>
      intro w F x hw hF hx
      obtain ⟨F, rfl⟩ : ∃ f, F = f + 1 := ⟨F - 1, by omega⟩
      have dec : ∀ y, y ≠ w → decide (y < w) = decide (y < w + 1) := fun y hy => by
        congr 1
        exact propext ⟨fun _ => by omega, fun _ => by omega⟩
      have skip : ¬ (f z < f w ∨ (f w = f z ∧ w < z)) → ∃ x', fX11_aheadOf_57 (fX11_aheadOf_5 (nI z) O F) (nI z) O (nI z) O x (nI w) g = some (x' &&& O) ∧ ∀ y, y < 32 → b_bit x' y = (decide (y < 12) && (decide (f z < f y) || (decide (f y = f z) && decide (y < z)))) := by
        intro hn
        unfold fX11_aheadOf_57
        rw [c_let_d, nI_1]
        refine ih (w + 1) F x (by omega) (by omega) fun y hy => ?_
        rw [hx y hy]
        by_cases e : y = w
        · subst e
          have : (decide (f z < f y) || (decide (f y = f z) && decide (y < z))) = false := by simpa using hn
          rw [this]
          simp
        · rw [dec y e]
      have put : (f z < f w ∨ (f w = f z ∧ w < z)) → ∃ x', fX11_aheadOf_50 (fX11_aheadOf_5 (nI z) O F) (nI z) O (nI z) O x (nI w) g = some (x' &&& O) ∧ ∀ y, y < 32 → b_bit x' y = (decide (y < 12) && (decide (f z < f y) || (decide (f y = f z) && decide (y < z)))) := by
        intro hn
        unfold fX11_aheadOf_50 fX11_aheadOf_57
        rw [c_let_d, c_let_d, nI_1]
        refine ih (w + 1) F _ (by omega) (by omega) fun y hy => ?_
        rw [b_or, b_pow (by omega), hx y hy]
        by_cases e : y = w
        · subst e
          have : (decide (f z < f y) || (decide (f y = f z) && decide (y < z))) = true := by simpa using hn
          rw [this]
          simp
        · rw [dec y e]
          simp [e]
      rw [fX11_aheadOf_5, if_neg (show ¬ (12 : Int32) ≤ nI w from nI_ge (b := 12) (by omega) (by decide)), p_in (show w < 12 by omega) (by decide), if_pos rfl, p_in hz (by decide), if_pos rfl, nI_clamp (show w < 2 ^ 31 by omega), nI_clamp (show z < 2 ^ 31 by omega), hf w (by omega), hf z hz]
      by_cases q : f z < f w
      · rw [if_pos q]
        exact put (Or.inl q)
      · rw [if_neg q]
        by_cases q2 : f w = f z
        · rw [if_pos q2]
          by_cases q3 : z ≤ w
          · rw [if_pos (nI_le q3 (by omega))]
            exact skip fun y => y.elim q fun y => by omega
          · rw [if_neg (nI_ge (by omega) (by omega))]
            exact put (Or.inr ⟨q2, by omega⟩)
        · rw [if_neg q2]
          exact skip fun y => y.elim q fun y => q2 y.1
  unfold fX11_aheadOf
  exact loop 12 0 c_F 0 rfl (by decide) fun y hy => by rw [b_zero]; simp
/-- one row of what is heard, as what must and what must not be in a set -/
theorem q_row_no {m : Nat → Int32} {W : (Nat → Int32) → Int32} {c e : Nat} {v A B O us : Int32} (hO : ∀ y, y < 32 → b_bit O y = (!q_mute m e && (decide (y < 12) && (decide (0 < q_fit m W c v e y) && !b_bit us y)))) {s : Nat} (hs : s < 4096) :
    q_in (b_bit A) (b_bit (B ||| O)) 12 s = true ↔ q_in (b_bit A) (b_bit B) 12 s = true ∧ q_val m W c v e (nI s) us = -1 := by
  rw [q_in_iff, q_in_iff, q_val_non]
  have bs : ∀ w, b_bit (nI s) w = s.testBit w := fun w => b_nI (by omega)
  constructor
  · intro h
    refine ⟨fun w hw => ⟨(h w hw).1, fun hb => (h w hw).2 (by rw [b_or, hb]; rfl)⟩, ?_⟩
    by_cases hm : q_mute m e = true
    · exact Or.inl hm
    · refine Or.inr fun w hw h1 h2 h3 => ?_
      have ho : b_bit O w = true := by
        rw [hO w (by omega), show q_mute m e = false by simpa using hm, h2]
        simp [hw, h3]
      have := (h w hw).2 (by rw [b_or, ho]; simp)
      rw [bs, this] at h1
      cases h1
  · rintro ⟨h1, h2⟩ w hw
    refine ⟨(h1 w hw).1, fun hb => ?_⟩
    rw [b_or] at hb
    by_cases q : b_bit B w = true
    · exact (h1 w hw).2 q
    · rw [show b_bit B w = false by simpa using q, Bool.false_or, hO w (by omega)] at hb
      simp only [Bool.and_eq_true, Bool.not_eq_true', decide_eq_true_eq] at hb
      rcases h2 with h2 | h2
      · rw [hb.1] at h2; cases h2
      · by_cases t : s.testBit w = true
        · exact absurd hb.2.2.1 (h2 w hw (by rw [bs]; exact t) hb.2.2.2)
        · simpa using t
theorem q_row_yes {m : Nat → Int32} {W : (Nat → Int32) → Int32} {c e z : Nat} (hz : z < 12) {v A B O X us : Int32} (hO : ∀ y, y < 32 → b_bit O y = (!q_mute m e && (decide (y < 12) && (decide (0 < q_fit m W c v e y) && !b_bit us y)))) (hOz : b_bit O z = true) (hX : ∀ y, y < 32 → b_bit X y = (decide (y < 12) && (decide (q_fit m W c v e z < q_fit m W c v e y) || (decide (q_fit m W c v e y = q_fit m W c v e z) && decide (y < z))))) {s : Nat} (hs : s < 4096) :
    q_in (b_bit (A ||| ((1 : Int32) <<< (nI z &&& 31)))) (b_bit (B ||| (X &&& O))) 12 s = true ↔ q_in (b_bit A) (b_bit B) 12 s = true ∧ q_val m W c v e (nI s) us = nI z := by
  rw [q_in_iff, q_in_iff, q_val_top hz]
  have bs : ∀ w, b_bit (nI s) w = s.testBit w := fun w => b_nI (by omega)
  have hOz' := hOz
  rw [hO z (by omega)] at hOz'
  simp only [Bool.and_eq_true, Bool.not_eq_true', decide_eq_true_eq] at hOz'
  obtain ⟨hm, -, hfz, huz⟩ := hOz'
  constructor
  · intro h
    refine ⟨fun w hw => ⟨fun ha => (h w hw).1 (by rw [b_or, ha]; rfl), fun hb => (h w hw).2 (by rw [b_or, hb]; rfl)⟩, hm, ?_, hfz, fun y hy hp => ?_⟩
    · show (b_bit (nI s) z && !b_bit us z) = true
      rw [bs, huz, (h z hz).1 (by rw [b_or, b_pow (by omega)]; simp)]
      rfl
    · have hp' : (b_bit (nI s) y && !b_bit us y) = true := hp
      simp only [Bool.and_eq_true, Bool.not_eq_true'] at hp'
      by_cases q1 : q_fit m W c v e y < q_fit m W c v e z
      · exact Or.inl q1
      · by_cases q2 : q_fit m W c v e y = q_fit m W c v e z ∧ z ≤ y
        · exact Or.inr q2
        · exfalso
          have ah : q_fit m W c v e z < q_fit m W c v e y ∨ (q_fit m W c v e y = q_fit m W c v e z ∧ y < z) := by
            by_cases q3 : q_fit m W c v e y = q_fit m W c v e z
            · exact Or.inr ⟨q3, by have n0 : ¬ z ≤ y := fun x => q2 ⟨q3, x⟩; omega⟩
            · left
              have n1 : ¬ (q_fit m W c v e y).toInt < (q_fit m W c v e z).toInt := fun x => q1 (q_lt.mpr x)
              have n2 : ¬ (q_fit m W c v e y).toInt = (q_fit m W c v e z).toInt := fun x => q3 (q_eqI.mpr x)
              exact q_lt.mpr (by omega)
          have fy : 0 < q_fit m W c v e y := by
            rcases ah with a | ⟨a, -⟩
            · have := q_lt.mp a
              have := q_lt.mp hfz
              exact q_lt.mpr (by omega)
            · rw [a]; exact hfz
          have oy : b_bit O y = true := by
            rw [hO y (by omega), hm, hp'.2]
            simp [hy, fy]
          have xy : b_bit X y = true := by
            rw [hX y (by omega)]
            simp only [Bool.and_eq_true, Bool.or_eq_true, decide_eq_true_eq]
            exact ⟨hy, ah⟩
          have := (h y hy).2 (by rw [b_or, b_and, xy, oy]; simp)
          rw [bs, this] at hp'
          cases hp'.1
  · rintro ⟨h1, -, k1, -, k3⟩ w hw
    have k1' : (b_bit (nI s) z && !b_bit us z) = true := k1
    simp only [Bool.and_eq_true, Bool.not_eq_true'] at k1'
    rw [bs] at k1'
    refine ⟨fun ha => ?_, fun hb => ?_⟩
    · rw [b_or, b_pow (by omega)] at ha
      by_cases e : w = z
      · subst e
        exact k1'.1
      · exact (h1 w hw).1 (by simpa [e] using ha)
    · rw [b_or, b_and] at hb
      by_cases q : b_bit B w = true
      · exact (h1 w hw).2 q
      · rw [show b_bit B w = false by simpa using q, Bool.false_or, Bool.and_eq_true] at hb
        obtain ⟨hx, ho⟩ := hb
        rw [hX w (by omega)] at hx
        rw [hO w (by omega)] at ho
        simp only [Bool.and_eq_true, Bool.not_eq_true', Bool.or_eq_true, decide_eq_true_eq] at hx ho
        by_cases t : s.testBit w = true
        · exfalso
          rcases k3 w hw (show (b_bit (nI s) w && !b_bit us w) = true by rw [bs, t, ho.2.2.2]; rfl) with a | ⟨a, a2⟩
          · rcases hx.2 with b | ⟨b, -⟩
            · have := q_lt.mp a; have := q_lt.mp b; omega
            · rw [b] at a; have := q_lt.mp a; omega
          · rcases hx.2 with b | ⟨-, b2⟩
            · rw [a] at b; have := q_lt.mp b; omega
            · omega
        · simpa using t
theorem q_row_never {m : Nat → Int32} {W : (Nat → Int32) → Int32} {c e z : Nat} (hz : z < 12) {v A B O us : Int32} (hO : ∀ y, y < 32 → b_bit O y = (!q_mute m e && (decide (y < 12) && (decide (0 < q_fit m W c v e y) && !b_bit us y)))) (hOz : ¬ b_bit O z = true) {s : Nat} (hs : s < 4096) :
    q_in (b_bit (A ||| ((1 : Int32) <<< (nI z &&& 31)))) (b_bit (B ||| ((1 : Int32) <<< (nI z &&& 31)))) 12 s = true ↔ q_in (b_bit A) (b_bit B) 12 s = true ∧ q_val m W c v e (nI s) us = nI z := by
  rw [q_in_iff, q_val_top hz]
  constructor
  · intro h
    have a := (h z hz).1 (by rw [b_or, b_pow (by omega)]; simp)
    have b := (h z hz).2 (by rw [b_or, b_pow (by omega)]; simp)
    rw [a] at b
    cases b
  · rintro ⟨-, hm, k1, k2, -⟩
    have k1' : (b_bit (nI s) z && !b_bit us z) = true := k1
    simp only [Bool.and_eq_true, Bool.not_eq_true'] at k1'
    exact absurd (show b_bit O z = true by rw [hO z (by omega), hm, k1'.2]; simp [hz, k2]) hOz
def q_fin (x2 A B : Int32) : Int32 := if A &&& B = 0 then (if x2 = 0 then (1 : Int32) <<< (((12 : Int32) - fJ6_bitCount_0f7a4 (A ||| B)) &&& 31) else A) else (if x2 = 0 then 0 else -5)
theorem q_or_N {x y : Int32} (hx : p_N x 4096) (hy : ∀ w, 12 ≤ w → w < 32 → b_bit y w = false) : p_N (x ||| y) 4096 := b_ofN fun w h1 h2 => by rw [b_or, b_N hx h1, hy w h1 h2]; rfl
theorem c_knew {g : c_G} {m : Nat → Int32} {W : (Nat → Int32) → Int32} {L : Int32} (hs : p_St g 55 m) (hW : q_C g 55 W L) {k : Nat} (hk : k < 6) (ek : m 82 = nI k) {c : Nat} (hc : c < 6) (x2 : Int32) :
    ∃ g' A B, fX11_knew g (nI c) x2 = some (g', q_fin x2 A B) ∧ (∀ a, a ≠ 3 → a ≠ 4 → g'.1 a = g.1 a) ∧ g'.2 = g.2 ∧ p_N A 4096 ∧ p_N B 4096 ∧ ∀ s, s < 4096 → q_in (b_bit A) (b_bit B) 12 s = q_allH m W c (m (24 + 9 * c + 1)) (nI s) (q_used m) k 0 := by
  have ho := hs.2.2.1.hok
  have loop : ∀ (d r F : Nat) (g1 : c_G) (A B : Int32), r + d = k → d < F → p_St g1 55 m → q_C g1 55 W L → (∀ a, a ≠ 3 → a ≠ 4 → g1.1 a = g.1 a) → g1.2 = g.2 → p_N A 4096 → p_N B 4096 →
      ∃ g' A' B', fX11_knew_8 (nI c) x2 F (nI c) x2 A B (nI r) g1 = some (g', q_fin x2 A' B') ∧ (∀ a, a ≠ 3 → a ≠ 4 → g'.1 a = g.1 a) ∧ g'.2 = g.2 ∧ p_N A' 4096 ∧ p_N B' 4096 ∧ ∀ s, s < 4096 → (q_in (b_bit A') (b_bit B') 12 s = true ↔ q_in (b_bit A) (b_bit B) 12 s = true ∧ q_allH m W c (m (24 + 9 * c + 1)) (nI s) (q_used m) d r = true) := by
    intro d
    induction d with
    | zero =>
      intro r F g1 A B hr hF hs1 hW1 h1 h2 hA hB
      obtain ⟨F, rfl⟩ : ∃ f, F = f + 1 := ⟨F - 1, by omega⟩
      refine ⟨g1, A, B, ?_, h1, h2, hA, hB, fun s _ => ⟨fun z => ⟨z, rfl⟩, fun z => z.1⟩⟩
      rw [fX11_knew_8, show g1.1 66 3 = nI k from (hs1.1 82).symm.trans ek, if_pos (nI_le (by omega) (by omega))]
      unfold q_fin
      by_cases q : A &&& B = 0
      · rw [if_pos q, if_pos q]
        split <;> rfl
      · rw [if_neg q, if_neg q]
        split <;> rfl
    | succ d ih =>
      intro r F g1 A B hr hF hs1 hW1 h1 h2 hA hB
      obtain ⟨F, rfl⟩ : ∃ f, F = f + 1 := ⟨F - 1, by omega⟩
      have hr5 : r < 5 := by omega
      obtain ⟨⟨e, he, ee⟩, hwO⟩ := ho.2 r hr5
      have c67 : g1.1 67 r = m (83 + 3 * r) := by rw [hs1.1, p_al_hc _ _ hr5]
      have c68 : g1.1 68 r = m (83 + 3 * r + 1) := by rw [hs1.1, p_al_he _ _ hr5]
      have c69 : g1.1 69 r = p_or (m (83 + 3 * r + 2)) := hs1.hwC hr5
      have hall : ∀ s, q_allH m W c (m (24 + 9 * c + 1)) (nI s) (q_used m) (d + 1) r = if m (83 + 3 * r) = nI c then (if q_val m W c (m (24 + 9 * c + 1)) e (nI s) (q_used m) = m (83 + 3 * r + 2) then q_allH m W c (m (24 + 9 * c + 1)) (nI s) (q_used m) d (r + 1) else false) else q_allH m W c (m (24 + 9 * c + 1)) (nI s) (q_used m) d (r + 1) := fun s => by
        rw [q_allH, ee, nI_clamp (show e < 2 ^ 31 by omega)]
      rw [fX11_knew_8, show g1.1 66 3 = nI k from (hs1.1 82).symm.trans ek, if_neg (nI_ge (by omega) (by omega)), p_in hr5 (by decide), if_pos rfl, nI_clamp (show r < 2 ^ 31 by omega), c67, c68, ee, c69]
      unfold fX11_knew_130 fX11_knew_133
      by_cases q : m (83 + 3 * r) = nI c
      · obtain ⟨g2, O, f1, f2, f3, f4, f5⟩ := c_wordsOpenTo hs1 hW1 hc he
        have hs2 : p_St g2 55 m := hs1.eq (fun a z1 z2 => f2 a (by omega) (by omega)) (by rw [f3])
        have hW2 : q_C g2 55 W L := hW1.eq hs1.2.2.2 (fun a z1 z2 => f2 a (by omega) (by omega)) (by rw [f3])
        have hO12 : ∀ w, 12 ≤ w → w < 32 → b_bit O w = false := fun w z1 z2 => by
          rw [f5 w z2, show decide (w < 12) = false by simp; omega]
          simp
        have go : ∀ A1 B1 : Int32, p_N A1 4096 → p_N B1 4096 → (∀ s, s < 4096 → (q_in (b_bit A1) (b_bit B1) 12 s = true ↔ q_in (b_bit A) (b_bit B) 12 s = true ∧ q_val m W c (m (24 + 9 * c + 1)) e (nI s) (q_used m) = m (83 + 3 * r + 2))) →
            ∃ g' A' B', fX11_knew_8 (nI c) x2 F (nI c) x2 A1 B1 (nI (r + 1)) g2 = some (g', q_fin x2 A' B') ∧ (∀ a, a ≠ 3 → a ≠ 4 → g'.1 a = g.1 a) ∧ g'.2 = g.2 ∧ p_N A' 4096 ∧ p_N B' 4096 ∧ ∀ s, s < 4096 → (q_in (b_bit A') (b_bit B') 12 s = true ↔ q_in (b_bit A) (b_bit B) 12 s = true ∧ q_allH m W c (m (24 + 9 * c + 1)) (nI s) (q_used m) (d + 1) r = true) := by
          intro A1 B1 hA1 hB1 hq
          obtain ⟨g', A', B', k1, k2, k3, k4, k5, k6⟩ := ih (r + 1) F g2 A1 B1 (by omega) (by omega) hs2 hW2 (fun a z1 z2 => (f2 a z1 z2).trans (h1 a z1 z2)) (f3.trans h2) hA1 hB1
          refine ⟨g', A', B', k1, k2, k3, k4, k5, fun s hs4 => ?_⟩
          rw [k6 s hs4, hq s hs4, hall s, if_pos q]
          by_cases qv : q_val m W c (m (24 + 9 * c + 1)) e (nI s) (q_used m) = m (83 + 3 * r + 2)
          · rw [if_pos qv]
            exact ⟨fun z => ⟨z.1.1, z.2⟩, fun z => ⟨⟨z.1, qv⟩, z.2⟩⟩
          · rw [if_neg qv]
            exact ⟨fun z => absurd z.1.2 qv, fun z => by cases z.2⟩
        rw [if_pos q, f1, c_b2s]
        rcases hwO with z | ⟨z, hz, ez⟩
        · rw [z, if_pos (show p_or (-1) = -5 from rfl), c_let_d, c_let_d, nI_1]
          exact go A (B ||| O) hA (q_or_N hB hO12) fun s hs4 => by rw [z]; exact q_row_no f5 hs4
        · have hpow : ∀ w, 12 ≤ w → w < 32 → b_bit ((1 : Int32) <<< (nI z &&& 31)) w = false := fun w z1 z2 => by rw [b_pow (by omega)]; simp; omega
          rw [ez, p_or_nI (by omega), if_neg (p_5N (by omega)), c_let_d]
          by_cases qO : b_bit O z = true
          · have hm : q_mute m e = false := by
              rw [f5 z (by omega)] at qO
              simp only [Bool.and_eq_true, Bool.not_eq_true'] at qO
              exact qO.1
            obtain ⟨x, j1, j2⟩ := c_aheadOf (f4 hm) hz O
            rw [if_pos ((b_shr1 O (by omega)).mpr qO), j1, Option.bind_some, c_let_d, c_let_d, nI_1]
            exact go _ _ (q_or_N hA hpow) (q_or_N hB fun w z1 z2 => by rw [b_and, hO12 w z1 z2]; simp) fun s hs4 => by rw [ez]; exact q_row_yes hz f5 qO j2 hs4
          · rw [if_neg (fun y => qO ((b_shr1 O (by omega)).mp y)), c_let_d, c_let_d, nI_1]
            exact go _ _ (q_or_N hA hpow) (q_or_N hB hpow) fun s hs4 => by rw [ez]; exact q_row_never hz f5 qO hs4
      · rw [if_neg q, c_let_d, nI_1]
        obtain ⟨g', A', B', k1, k2, k3, k4, k5, k6⟩ := ih (r + 1) F g1 A B (by omega) (by omega) hs1 hW1 h1 h2 hA hB
        refine ⟨g', A', B', k1, k2, k3, k4, k5, fun s hs4 => ?_⟩
        rw [k6 s hs4, hall s, if_neg q]
  obtain ⟨g', A', B', k1, k2, k3, k4, k5, k6⟩ := loop k 0 c_F g 0 0 (by omega) (show k < 5000 by omega) hs hW (fun _ _ _ => rfl) rfl ⟨0, by decide, rfl⟩ ⟨0, by decide, rfl⟩
  refine ⟨g', A', B', k1, k2, k3, k4, k5, fun s hs4 => ?_⟩
  rw [Bool.eq_iff_iff, k6 s hs4]
  refine ⟨fun z => z.2, fun z => ⟨?_, z⟩⟩
  rw [q_in_iff]
  intro w hw
  rw [b_zero]
  exact ⟨(fun y => by cases y), (fun y => by cases y)⟩
theorem q_bc0 : ∀ a, a < 64 → ∀ b, b < 64 → fJ6_bitCount_0f7a4 (nI (64 * a + b)) = nI (q_cnt (fun w => (64 * a + b).testBit w) 12 0) := by decide +kernel
theorem q_bc (k : Nat) (hk : k < 4096) : fJ6_bitCount_0f7a4 (nI k) = nI (q_cnt (fun w => k.testBit w) 12 0) := by
  have h := q_bc0 (k / 64) (by omega) (k % 64) (by omega)
  rwa [show 64 * (k / 64) + k % 64 = k by omega] at h
theorem q_cnt_cg {D D' : Nat → Bool} : ∀ (k w : Nat), (∀ y, w ≤ y → y < w + k → D y = D' y) → q_cnt D k w = q_cnt D' k w
  | 0, _, _ => rfl
  | k + 1, w, h => by
    unfold q_cnt
    rw [h w (by omega) (by omega), q_cnt_cg k (w + 1) fun y h1 h2 => h y (by omega) (by omega)]
theorem q_bcN {x : Int32} (h : p_N x 4096) : fJ6_bitCount_0f7a4 x = nI (q_cnt (b_bit x) 12 0) := by
  obtain ⟨k, hk, rfl⟩ := h
  rw [q_bc k hk, q_cnt_cg 12 0 fun y _ _ => (b_nI (show k < 2 ^ 32 by omega)).symm]
theorem q_fin_eq {A B : Int32} (hA : p_N A 4096) (hB : p_N B 4096) : q_fin 0 A B = nI (q_num (q_in (b_bit A) (b_bit B) 12) 4096) ∧ q_fin 1 A B = q_lst (q_in (b_bit A) (b_bit B) 12) 4096 (-5) := by
  unfold q_fin
  by_cases q : A &&& B = 0
  · have dis : ∀ w, w < 12 → ¬ (b_bit A w = true ∧ b_bit B w = true) := fun w hw z => by
      have : b_bit (A &&& B) w = false := by rw [q, b_zero]
      rw [b_and, z.1, z.2] at this
      cases this
    rw [if_pos q, if_pos q, if_pos rfl, if_neg i10]
    constructor
    · have hn := q_num_in (A := b_bit A) (B := b_bit B) 12 dis
      have hle := q_cnt_le (fun w => b_bit A w || b_bit B w) 12 0
      rw [show q_num (q_in (b_bit A) (b_bit B) 12) 4096 = 2 ^ (12 - q_cnt (fun w => b_bit A w || b_bit B w) 12 0) from hn, q_bcN (q_or_N hA fun w z1 _ => b_N hB z1), q_cnt_cg (D := b_bit (A ||| B)) (D' := fun w => b_bit A w || b_bit B w) 12 0 (fun y _ _ => b_or A B y), show (12 : Int32) = nI 12 from rfl, pk_sub (by omega), b_one (by omega)]
    · obtain ⟨a, ha, rfl⟩ := hA
      have ba : ∀ w, b_bit (nI a) w = a.testBit w := fun w => b_nI (by omega)
      refine (q_lst_at ?_ (fun x hx => ?_) 4096 (-5) ha).symm
      · rw [q_in_iff]
        intro w hw
        refine ⟨fun z => by rw [← ba]; exact z, fun z => ?_⟩
        have := fun y => dis w hw ⟨y, z⟩
        rw [ba] at this
        simpa using this
      · by_cases t : q_in (b_bit (nI a)) (b_bit B) 12 x = true
        · exfalso
          rw [q_in_iff] at t
          have : a &&& x = a := by
            apply Nat.eq_of_testBit_eq
            intro i
            rw [Nat.testBit_and]
            by_cases hi : i < 12
            · by_cases y : a.testBit i = true
              · rw [y, (t i hi).1 (by rw [ba]; exact y)]; rfl
              · rw [show a.testBit i = false by simpa using y]; rfl
            · rw [Nat.testBit_lt_two_pow (Nat.lt_of_lt_of_le ha (show 2 ^ 12 ≤ 2 ^ i from Nat.pow_le_pow_right (by decide) (by omega)))]
              rfl
          have h2 : a &&& x ≤ x := Nat.and_le_right
          omega
        · simpa using t
  · rw [if_neg q, if_neg q, if_pos rfl, if_neg i10]
    have ex : ∃ w, w < 12 ∧ b_bit A w = true ∧ b_bit B w = true := by
      by_cases y : ∃ w, w < 12 ∧ b_bit A w = true ∧ b_bit B w = true
      · exact y
      · exfalso
        refine q (b_ext fun w hw => ?_)
        rw [b_and, b_zero]
        by_cases h12 : w < 12
        · by_cases z1 : b_bit A w = true
          · by_cases z2 : b_bit B w = true
            · exact absurd ⟨w, h12, z1, z2⟩ y
            · simp [z2]
          · simp [z1]
        · rw [b_N hA (by omega)]; rfl
    obtain ⟨w, hw, w1, w2⟩ := ex
    have non : ∀ x, x < 4096 → q_in (b_bit A) (b_bit B) 12 x = false := fun x _ => by
      by_cases t : q_in (b_bit A) (b_bit B) 12 x = true
      · rw [q_in_iff] at t
        have a := (t w hw).1 w1
        rw [(t w hw).2 w2] at a
        cases a
      · simpa using t
    exact ⟨by rw [q_num_0 _ non]; rfl, (q_lst_no _ _ non).symm⟩
theorem e_knew {gC gM : c_G} (h : p_R gC gM) {c : Nat} (hc : c < 6) (x y : Int32) (hxy : (x = 0 ∧ y = 1) ∨ (x = 1 ∧ y = 0)) : p_Eq (fX11_knew gC (nI c) x) (fX12_knew gM (nI c) y) := by
  obtain ⟨n, hs, h1, h2, h3⟩ := id h
  obtain ⟨W, L, hL, hW, hM⟩ := hs.ctx h2 h3
  have ho := hs.2.2.1.hok
  obtain ⟨k, hk, ek⟩ := ho.1
  obtain ⟨g1, A, B, f1, f2, f3, f4, f5, f6⟩ := c_knew hs hW hk ek hc x
  obtain ⟨g2, k1, k2, k3⟩ := m_tellAll hM hc (hs.okkind hc)
  have m1 : g2.1 1 = gM.1 1 := k2.row (by decide) (by decide) (by decide) (by decide)
  have hl := m_knewL (nI c) y m1 ho hk ek (W := W) (c := c) (v := gM.1 1 (24 + 9 * c + 1)) (us := q_used (gM.1 1)) k3 y 4096 c_F 0 (-5) (by decide) (by decide)
  unfold fX12_knew
  rw [f1, k1, Option.bind_some, m_used, Option.bind_some, m1]
  refine ⟨g1, g2, _, rfl, ?_, h.said f2 f3 k2⟩
  rw [show (4095 : Int32) = q_dn 4096 from rfl, ← nI_0, hl, Nat.zero_add]
  have cg1 := q_num_cg (D := q_in (b_bit A) (b_bit B) 12) (D' := fun s => q_allH (gM.1 1) W c (gM.1 1 (24 + 9 * c + 1)) (nI s) (q_used (gM.1 1)) k 0) 4096 f6
  have cg2 := q_lst_cg (D := q_in (b_bit A) (b_bit B) 12) (D' := fun s => q_allH (gM.1 1) W c (gM.1 1 (24 + 9 * c + 1)) (nI s) (q_used (gM.1 1)) k 0) 4096 (-5) f6
  obtain ⟨z1, z2⟩ := q_fin_eq f4 f5
  rcases hxy with ⟨rfl, rfl⟩ | ⟨rfl, rfl⟩
  · rw [if_neg i10, z1, cg1]
  · rw [if_pos rfl, z2, cg2]
theorem e_ofC {gC gM : c_G} (h : p_R gC gM) (a b : Int32) : p_Eq (fX11_of gC a b) (fX12_of_ gM a b) := by
  obtain ⟨n, hs, h1, h2, h3⟩ := id h
  obtain ⟨c9, hc9, e1, e2⟩ := hs.many
  unfold fX11_of fX12_of_
  rcases e_child hc9 e1 e2 a with ⟨q1, q2, -⟩ | ⟨q1, q2, c, hcc, rfl⟩
  · rw [q1, q2]
    exact h.same _
  · rw [q1, q2, Option.bind_some, Option.bind_some, if_neg i10, if_neg i10]
    have hc : c < 6 := by omega
    rw [p_in hc (by decide), nI_clamp (show c < 2 ^ 31 by omega)]
    rcases e_isInK b (n := 5) (by decide) 4 rfl with ⟨q3, q4⟩ | ⟨q3, k, hk, rfl⟩
    · have ne : ∀ z : Nat, z < 5 → ¬ b = nI z := fun z hz y => q4 ⟨z, hz, y⟩
      rw [q3, if_neg (show ¬ b = (0 : Int32) from ne 0 (by decide)), if_neg (show ¬ b = (1 : Int32) from ne 1 (by decide)), if_neg (show ¬ b = (2 : Int32) from ne 2 (by decide)), if_neg (show ¬ b = (3 : Int32) from ne 3 (by decide)), if_neg (show ¬ b = (4 : Int32) from ne 4 (by decide)), if_pos (show (0 : Int32) = 0 from rfl)]
      by_cases q5 : b = 5
      · rw [if_pos q5, if_pos q5]
        obtain ⟨g1, g2, r, k1, k2, k3⟩ := e_knew h hc 0 1 (Or.inl ⟨rfl, rfl⟩)
        rw [k1, k2, c_b2s, c_b2s]
        exact ⟨g1, g2, r, rfl, rfl, k3⟩
      · rw [if_neg q5, if_neg q5]
        by_cases q6 : b = 6
        · rw [if_pos q6, if_pos q6]
          obtain ⟨g1, g2, r, k1, k2, k3⟩ := e_knew h hc 1 0 (Or.inr ⟨rfl, rfl⟩)
          rw [k1, k2, c_b2s, c_b2s]
          exact ⟨g1, g2, r, rfl, rfl, k3⟩
        · rw [if_neg q6, if_neg q6]
          rcases e_elder (b - 10) with ⟨q7, q8, -⟩ | ⟨q7, q8, e, he, q9⟩
          · rw [q7, q8]
            exact h.same _
          · rw [q7, q8, if_neg i10, if_neg i10, q9]
            obtain ⟨W, L, hL, hW, hM⟩ := hs.ctx h2 h3
            have r6 : gC.1 61 c = gM.1 1 (24 + 9 * c + 1) := by rw [hs.1, p_al_v _ _ hc]
            have r7 : gC.1 62 c = gM.1 1 (24 + 9 * c + 2) := by rw [hs.1, p_al_knows _ _ hc]
            obtain ⟨g1, f1, f2, f3⟩ := c_says hs rfl hW hc he (gM.1 1 (24 + 9 * c + 1)) (gM.1 1 (24 + 9 * c + 2))
            obtain ⟨g2, k1, k2, k3⟩ := m_says hM hc he (hs.okkind hc)
            unfold fX11_saysNow
            rw [p_in hc (by decide), if_pos rfl, nI_clamp (show c < 2 ^ 31 by omega), r6, r7, f1, c_b2s, c_b2s, k1, c_b2s, e_never]
            exact ⟨g1, g2, _, rfl, rfl, h.said f2 f3 k2⟩
    · rw [q3, if_neg i10]
      rcases (show k = 0 ∨ k = 1 ∨ k = 2 ∨ k = 3 ∨ k = 4 by omega) with rfl | rfl | rfl | rfl | rfl
      · rw [if_pos (show nI 0 = (0 : Int32) from rfl), if_pos rfl, if_neg (show ¬ nI 0 = (4 : Int32) by decide), e_one gM hc 0 (by decide) _ rfl, Option.bind_some]
        exact ⟨gC, gM, _, rfl, by rw [hs.1, Nat.add_zero, p_al_kind _ _ hc], h⟩
      · rw [if_neg (show ¬ nI 1 = (0 : Int32) by decide), if_pos (show nI 1 = (1 : Int32) from rfl), if_pos rfl, if_neg (show ¬ nI 1 = (4 : Int32) by decide), e_one gM hc 1 (by decide) _ rfl, Option.bind_some]
        exact ⟨gC, gM, _, rfl, by rw [hs.1, p_al_v _ _ hc], h⟩
      · rw [if_neg (show ¬ nI 2 = (0 : Int32) by decide), if_neg (show ¬ nI 2 = (1 : Int32) by decide), if_pos (show nI 2 = (2 : Int32) from rfl), if_pos rfl, if_neg (show ¬ nI 2 = (4 : Int32) by decide), e_one gM hc 2 (by decide) _ rfl, Option.bind_some]
        exact ⟨gC, gM, _, rfl, by rw [hs.1, p_al_knows _ _ hc], h⟩
      · rw [if_neg (show ¬ nI 3 = (0 : Int32) by decide), if_neg (show ¬ nI 3 = (1 : Int32) by decide), if_neg (show ¬ nI 3 = (2 : Int32) by decide), if_pos (show nI 3 = (3 : Int32) from rfl), if_pos rfl, if_neg (show ¬ nI 3 = (4 : Int32) by decide), e_one gM hc 3 (by decide) _ rfl, Option.bind_some]
        exact ⟨gC, gM, _, rfl, by rw [hs.1, p_al_age _ _ hc], h⟩
      · rw [if_neg (show ¬ nI 4 = (0 : Int32) by decide), if_neg (show ¬ nI 4 = (1 : Int32) by decide), if_neg (show ¬ nI 4 = (2 : Int32) by decide), if_neg (show ¬ nI 4 = (3 : Int32) by decide), if_pos (show nI 4 = (4 : Int32) from rfl), if_pos rfl, if_pos (show nI 4 = (4 : Int32) from rfl), e_one gM hc 4 (by decide) 4 rfl, Option.bind_some, e_never]
        exact ⟨gC, gM, _, rfl, by rw [← hs.basketC hc], h⟩
