/-! PURE: the round: all ways to give each child an elder -/
abbrev r_A : Type := Option Nat × (Nat → Nat)
def r_up (row : Nat → Nat) (c e : Nat) : Nat → Nat := fun j => if j = c then e else row j
def r_gt (a : Option Nat) (v : Nat) : Bool := match a with
  | none => true
  | some b => decide (b < v)
def r_end (v : Nat) (row : Nat → Nat) (acc : r_A) : r_A := if r_gt acc.1 v = true then (some v, row) else acc
def r_F (h : Nat → r_A → r_A) : Nat → Nat → r_A → r_A
  | 0, _, acc => acc
  | j + 1, e, acc => r_F h j (e + 1) (h e acc)
def r_T (val : (Nat → Nat) → Nat) : Nat → Nat → Nat → (Nat → Nat) → r_A → r_A
  | 0, _, _, row, acc => r_end (val row) row acc
  | k + 1, c, given, row, acc => r_F (fun e acc => if given.testBit e = true then acc else r_T val k (c + 1) (given ||| 2 ^ e) (r_up row c e) acc) 6 0 acc
theorem r_up_at (row : Nat → Nat) (c e : Nat) : r_up row c e c = e := if_pos rfl
theorem r_up_ne (row : Nat → Nat) {c e j : Nat} (h : j ≠ c) : r_up row c e j = row j := if_neg h
theorem r_F_same {h : Nat → r_A → r_A} {acc : r_A} : ∀ (j e : Nat), (∀ x, e ≤ x → x < e + j → h x acc = acc) → r_F h j e acc = acc
  | 0, _, _ => rfl
  | j + 1, e, hh => by
    show r_F h j (e + 1) (h e acc) = acc
    rw [hh e (by omega) (by omega)]
    exact r_F_same j (e + 1) fun x h1 h2 => hh x (by omega) (by omega)
theorem r_T_prune {val : (Nat → Nat) → Nat} : ∀ (k c given : Nat) (row : Nat → Nat) (acc : r_A) (b : Nat), acc.1 = some b → (∀ row' : Nat → Nat, (∀ j, j < c → row' j = row j) → val row' ≤ b) → r_T val k c given row acc = acc
  | 0, c, given, row, acc, b, hb, hv => by
    have h := hv row fun _ _ => rfl
    show r_end (val row) row acc = acc
    unfold r_end r_gt
    rw [hb]
    have : ¬ (decide (b < val row) = true) := by simp; omega
    exact if_neg this
  | k + 1, c, given, row, acc, b, hb, hv => by
    show r_F _ 6 0 acc = acc
    refine r_F_same 6 0 fun e _ _ => ?_
    show (if given.testBit e = true then acc else r_T val k (c + 1) (given ||| 2 ^ e) (r_up row c e) acc) = acc
    split
    · rfl
    · exact r_T_prune k (c + 1) _ _ acc b hb fun row' hr => hv row' fun j hj => (hr j (by omega)).trans (r_up_ne row (by omega))
theorem r_end_some (v : Nat) (row : Nat → Nat) (acc : r_A) : ∃ b, (r_end v row acc).1 = some b := by
  unfold r_end r_gt
  cases e : acc.1 with
  | none => exact ⟨v, by rw [if_pos rfl]⟩
  | some b =>
    by_cases q : decide (b < v) = true
    · exact ⟨v, by rw [if_pos q]⟩
    · exact ⟨b, by rw [if_neg q, e]⟩
theorem r_F_some {h : Nat → r_A → r_A} (hh : ∀ e acc b, acc.1 = some b → ∃ b', (h e acc).1 = some b') : ∀ (j e : Nat) (acc : r_A) (b : Nat), acc.1 = some b → ∃ b', (r_F h j e acc).1 = some b'
  | 0, _, _, b, hb => ⟨b, hb⟩
  | j + 1, e, acc, b, hb => by
    obtain ⟨b', h'⟩ := hh e acc b hb
    exact r_F_some hh j (e + 1) _ b' h'
theorem r_T_mono {val : (Nat → Nat) → Nat} : ∀ (k c given : Nat) (row : Nat → Nat) (acc : r_A) (b : Nat), acc.1 = some b → ∃ b', (r_T val k c given row acc).1 = some b'
  | 0, _, _, row, acc, _, _ => r_end_some _ row acc
  | k + 1, c, given, row, acc, b, hb => by
    refine r_F_some (fun e acc b hb => ?_) 6 0 acc b hb
    show ∃ b', (if given.testBit e = true then acc else r_T val k (c + 1) (given ||| 2 ^ e) (r_up row c e) acc).1 = some b'
    split
    · exact ⟨b, hb⟩
    · exact r_T_mono k (c + 1) _ _ acc b hb
theorem r_F_hit {h : Nat → r_A → r_A} (hh : ∀ e acc b, acc.1 = some b → ∃ b', (h e acc).1 = some b') {z : Nat} (hz : ∀ acc, ∃ b, (h z acc).1 = some b) : ∀ (j e : Nat) (acc : r_A), e ≤ z → z < e + j → ∃ b, (r_F h j e acc).1 = some b
  | 0, e, acc, h1, h2 => by omega
  | j + 1, e, acc, h1, h2 => by
    show ∃ b, (r_F h j (e + 1) (h e acc)).1 = some b
    by_cases q : e = z
    · subst q
      obtain ⟨b, hb⟩ := hz acc
      exact r_F_some hh j (e + 1) _ b hb
    · exact r_F_hit hh hz j (e + 1) _ (by omega) (by omega)
theorem q_cnt_all {D : Nat → Bool} : ∀ (k w : Nat), (∀ y, w ≤ y → y < w + k → D y = true) → q_cnt D k w = k
  | 0, _, _ => rfl
  | k + 1, w, h => by
    unfold q_cnt
    rw [h w (by omega) (by omega), q_cnt_all k (w + 1) fun y h1 h2 => h y (by omega) (by omega), if_pos rfl]
    omega
theorem q_cnt_set {D D' : Nat → Bool} {z : Nat} (hne : ∀ y, y ≠ z → D' y = D y) (h0 : D z = false) (h1 : D' z = true) : ∀ (k w : Nat), (w ≤ z ∧ z < w + k → q_cnt D' k w = q_cnt D k w + 1) ∧ (¬ (w ≤ z ∧ z < w + k) → q_cnt D' k w = q_cnt D k w)
  | 0, w => ⟨fun h => by omega, fun _ => rfl⟩
  | k + 1, w => by
    obtain ⟨a, b⟩ := q_cnt_set hne h0 h1 k (w + 1)
    unfold q_cnt
    by_cases e : w = z
    · subst e
      rw [h0, h1, b (by omega)]
      refine ⟨fun _ => ?_, fun h => by omega⟩
      simp
      omega
    · rw [hne w e]
      refine ⟨fun h => ?_, fun h => ?_⟩
      · rw [a (by omega)]; omega
      · rw [b (by omega)]
theorem r_bit {given e : Nat} (j : Nat) : (given ||| 2 ^ e).testBit j = (given.testBit j || decide (e = j)) := by
  rw [Nat.testBit_or, Nat.testBit_two_pow]
theorem r_T_some {val : (Nat → Nat) → Nat} : ∀ (k c given : Nat) (row : Nat → Nat) (acc : r_A), q_cnt given.testBit 6 0 = c → c + k ≤ 6 → ∃ b, (r_T val k c given row acc).1 = some b
  | 0, _, _, row, acc, _, _ => r_end_some _ row acc
  | k + 1, c, given, row, acc, hc, hk => by
    have ex : ∃ z, z < 6 ∧ given.testBit z = false := by
      by_cases q : ∃ z, z < 6 ∧ given.testBit z = false
      · exact q
      · exfalso
        have := q_cnt_all (D := given.testBit) 6 0 fun y _ hy => by
          by_cases z : given.testBit y = true
          · exact z
          · exact absurd ⟨y, by omega, by simpa using z⟩ q
        omega
    obtain ⟨z, hz, z0⟩ := ex
    refine r_F_hit (z := z) (fun e acc b hb => ?_) (fun acc => ?_) 6 0 acc (Nat.zero_le _) (by omega)
    · show ∃ b', (if given.testBit e = true then acc else r_T val k (c + 1) (given ||| 2 ^ e) (r_up row c e) acc).1 = some b'
      split
      · exact ⟨b, hb⟩
      · exact r_T_mono k (c + 1) _ _ acc b hb
    · show ∃ b', (if given.testBit z = true then acc else r_T val k (c + 1) (given ||| 2 ^ z) (r_up row c z) acc).1 = some b'
      rw [if_neg (by rw [z0]; decide)]
      refine r_T_some k (c + 1) _ _ acc ?_ (by omega)
      rw [(q_cnt_set (D := given.testBit) (D' := (given ||| 2 ^ z).testBit) (z := z) (fun y hy => by rw [r_bit, decide_eq_false (Ne.symm hy), Bool.or_false]) z0 (by rw [r_bit]; simp) 6 0).1 ⟨Nat.zero_le _, by omega⟩, hc]
/-! what is said on the way -/
def r_word (mu : Nat → Bool) (f : Nat → Nat → Nat → Int32) (kn : Nat → Int32) (c e : Nat) (U : Int32) : Int32 := if mu e = true then -1 else q_best (f c e) (b_bit (kn c &&& (U ^^^ (-1)))) 12 0 (-1) 0
def r_stp (mu : Nat → Bool) (f : Nat → Nat → Nat → Int32) (kn : Nat → Int32) (c e : Nat) (x : Int32 × Nat) : Int32 × Nat := if r_word mu f kn c e x.1 = -1 then x else (x.1 ||| ((1 : Int32) <<< (r_word mu f kn c e x.1 &&& 31)), x.2 + 1)
def r_stt (mu : Nat → Bool) (f : Nat → Nat → Nat → Int32) (kn : Nat → Int32) (x0 : Int32 × Nat) (row : Nat → Nat) : Nat → Int32 × Nat
  | 0 => x0
  | c + 1 => r_stp mu f kn c (row c) (r_stt mu f kn x0 row c)
theorem r_stt_cg {mu : Nat → Bool} {f : Nat → Nat → Nat → Int32} {kn : Nat → Int32} {x0 : Int32 × Nat} {row row' : Nat → Nat} : ∀ (c : Nat), (∀ j, j < c → row j = row' j) → r_stt mu f kn x0 row c = r_stt mu f kn x0 row' c
  | 0, _ => rfl
  | c + 1, h => by
    show r_stp mu f kn c (row c) (r_stt mu f kn x0 row c) = r_stp mu f kn c (row' c) (r_stt mu f kn x0 row' c)
    rw [h c (by omega), r_stt_cg c fun j hj => h j (by omega)]
theorem r_stt_le {mu : Nat → Bool} {f : Nat → Nat → Nat → Int32} {kn : Nat → Int32} {x0 : Int32 × Nat} {row : Nat → Nat} (c : Nat) : ∀ (d : Nat), (r_stt mu f kn x0 row (c + d)).2 ≤ (r_stt mu f kn x0 row c).2 + d
  | 0 => Nat.le_refl _
  | d + 1 => by
    have := r_stt_le (mu := mu) (f := f) (kn := kn) (x0 := x0) (row := row) c d
    show (r_stp mu f kn (c + d) (row (c + d)) (r_stt mu f kn x0 row (c + d))).2 ≤ _
    unfold r_stp
    split
    · omega
    · show (r_stt mu f kn x0 row (c + d)).2 + 1 ≤ _
      omega
theorem r_word_O (mu : Nat → Bool) (f : Nat → Nat → Nat → Int32) (kn : Nat → Int32) (c e : Nat) (U : Int32) : p_O (r_word mu f kn c e U) 12 := by
  unfold r_word
  split
  · exact Or.inl rfl
  · exact q_best_O _ _ 12 0 _ _ (by decide) (Or.inl rfl)
theorem nI_or {a b : Nat} (ha : a < 2 ^ 31) (hb : b < 2 ^ 31) : nI a ||| nI b = nI (a ||| b) := by
  have hc : a ||| b < 2 ^ 31 := Nat.or_lt_two_pow ha hb
  apply b_ext
  intro w hw
  rw [b_or, b_nI (by omega), b_nI (by omega), b_nI (by omega), Nat.testBit_or]
theorem r_given {given e : Nat} (hg : given < 64) (he : e < 6) : nI given ||| ((1 : Int32) <<< (nI e &&& 31)) = nI (given ||| 2 ^ e) ∧ given ||| 2 ^ e < 64 := by
  have h2 : 2 ^ e < 2 ^ 6 := Nat.pow_lt_pow_right (by decide) he
  exact ⟨by rw [b_one (by omega), nI_or (by omega) (Nat.lt_trans h2 (by decide))], Nat.or_lt_two_pow (n := 6) hg h2⟩
/-! the class's side -/
def r_enc (z : Int32) (a : Option Nat) : Int32 := match a with
  | none => z
  | some b => nI b
/-- what the class holds while it deals -/
def r_C (m : Nat → Int32) (f : Nat → Nat → Nat → Int32) (n c : Nat) (row : Nat → Nat) (acc : r_A) (g : c_G) : Prop :=
  p_St g 55 m ∧ (∀ c e w, c < n → e < 6 → w < 12 → g.1 5 ((c * 6 + e) * 12 + w) = f c e w) ∧ g.1 0 14 = r_enc (-5) acc.1 ∧ (acc.1 ≠ none → ∀ j, j < n → g.1 7 j = nI (acc.2 j)) ∧ ∀ j, j < c → g.1 6 j = nI (row j)
def r_fC (g g' : c_G) : Prop := (∀ a j, ¬ (a = 6 ∨ a = 7 ∨ (a = 0 ∧ j = 14)) → g'.1 a j = g.1 a j) ∧ g'.2 = g.2
theorem r_fC.rf (g : c_G) : r_fC g g := ⟨fun _ _ _ => rfl, rfl⟩
theorem r_fC.tr {a b c : c_G} (h : r_fC a b) (h2 : r_fC b c) : r_fC a c := ⟨fun x j q => (h2.1 x j q).trans (h.1 x j q), h2.2.trans h.2⟩
theorem r_fC.row {g g' : c_G} (h : r_fC g g') {a : Nat} (h1 : a ≠ 0) (h2 : a ≠ 6) (h3 : a ≠ 7) : g'.1 a = g.1 a := funext fun j => h.1 a j (by omega)
theorem fG2_0 (f : Nat) (g : c_G) (a1 a2 a3 a4 a5 : Int32) : fG2 (f + 1) 0 g a1 a2 a3 a4 a5 = fX11_deal (fG2 f) g a1 a2 a3 a4 := rfl
theorem fG2_1 (f : Nat) (g : c_G) (a1 a2 a3 a4 a5 : Int32) : fG2 (f + 1) 1 g a1 a2 a3 a4 a5 = fX11_give (fG2 f) g a1 a2 a3 a4 a5 := rfl
theorem c_deal {m : Nat → Int32} {f : Nat → Nat → Nat → Int32} {n : Nat} (hn : n < 7) (hm : m 78 = nI n) {x0 : Int32 × Nat} (hx0 : x0.2 ≤ 6) : ∀ (k c given fu : Nat) (row : Nat → Nat) (acc : r_A) (g : c_G), c + k = n → 2 * k + 1 ≤ fu → given < 64 → (∀ b, acc.1 = some b → b < 100) → r_C m f n c row acc g →
    ∃ g', fG2 fu 0 g (nI c) (nI given) (r_stt (q_mute m) f (fun c => m (24 + 9 * c + 2)) x0 row c).1 (nI (r_stt (q_mute m) f (fun c => m (24 + 9 * c + 2)) x0 row c).2) 0 = some g' ∧
      r_C m f n c row (r_T (fun row => (r_stt (q_mute m) f (fun c => m (24 + 9 * c + 2)) x0 row n).2) k c given row acc) g' ∧ r_fC g g' ∧ ∀ b, (r_T (fun row => (r_stt (q_mute m) f (fun c => m (24 + 9 * c + 2)) x0 row n).2) k c given row acc).1 = some b → b < 100 := by
  intro k
  induction k with
  | zero =>
    intro c given fu row acc g hc hfu hgv hacc hg
    obtain ⟨fu, rfl⟩ : ∃ x, fu = x + 1 := ⟨fu - 1, by omega⟩
    obtain rfl : c = n := by omega
    obtain ⟨hs, h5, h14, h7, h6⟩ := id hg
    have hN := r_stt_le (mu := q_mute m) (f := f) (kn := fun c => m (24 + 9 * c + 2)) (x0 := x0) (row := row) 0 c
    rw [Nat.zero_add] at hN
    have hN0 : (r_stt (q_mute m) f (fun c => m (24 + 9 * c + 2)) x0 row 0).2 = x0.2 := rfl
    have e6 : g.1 55 6 = nI c := (hs.1 78).symm.trans hm
    show ∃ g', _ ∧ r_C m f c c row (r_end (r_stt (q_mute m) f (fun c => m (24 + 9 * c + 2)) x0 row c).2 row acc) g' ∧ _ ∧ ∀ b, (r_end (r_stt (q_mute m) f (fun c => m (24 + 9 * c + 2)) x0 row c).2 row acc).1 = some b → b < 100
    rw [fG2_0]
    unfold fX11_deal
    generalize hSN : (r_stt (q_mute m) f (fun c => m (24 + 9 * c + 2)) x0 row c).2 = N at *
    rw [e6, nI_add, pk_sub (by omega), show N + c - c = N by omega, h14, if_neg (show ¬ nI c < nI c from nI_nlt (Nat.le_refl _) (by omega))]
    have iff : (r_enc (-5) acc.1 < nI N) ↔ r_gt acc.1 N = true := by
      unfold r_enc r_gt
      cases e : acc.1 with
      | none =>
        refine ⟨fun _ => rfl, fun _ => ?_⟩
        show (-5 : Int32) < nI N
        refine Int32.lt_iff_toInt_lt.mpr ?_
        rw [nI_toInt (by omega), show (-5 : Int32).toInt = -5 by decide]
        omega
      | some b =>
        have := hacc b e
        show nI b < nI N ↔ decide (b < N) = true
        rw [nI_ltI (by omega) (by omega), decide_eq_true_eq]
    unfold r_end
    by_cases q : r_gt acc.1 N = true
    · rw [if_pos (iff.mpr q), if_pos q, c_let_d, c_let_d]
      have z0 : (0 : Int32).toNatClampNeg = 0 := rfl
      have z6 : (6 : Int32).toNatClampNeg = 6 := rfl
      rw [z0, z6]
      have n7 : (c_si g 0 14 (nI N)).1 7 = g.1 7 := c_sr_ne (by decide)
      have n6 : (c_si g 0 14 (nI N)).1 6 = g.1 6 := c_sr_ne (by decide)
      refine ⟨_, rfl, ⟨hs.eq (fun a z1 z2 => ?_) rfl, fun c' e w z1 z2 z3 => ?_, ?_, fun _ j hj => ?_, fun j hj => ?_⟩, ⟨fun a j z => ?_, rfl⟩, fun b hb => ?_⟩
      · rw [show (c_sr (c_si g 0 14 (nI N)) 7 _).1 a = (c_si g 0 14 (nI N)).1 a from c_sr_ne (by omega), show (c_si g 0 14 (nI N)).1 a = g.1 a from c_sr_ne (by omega)]
      · rw [p_sr, if_neg (by decide), p_si_ne _ _ _ _ (by omega)]
        exact h5 c' e w z1 z2 z3
      · rw [p_sr, if_neg (by decide), p_si_at]
        rfl
      · rw [p_sr, if_pos rfl, n6, n7, pk_cpy_in (by omega) (by omega), show 0 + (j - 0) = j by omega]
        exact h6 j hj
      · rw [p_sr, if_neg (by decide), n6]
        exact h6 j hj
      · rw [p_sr, if_neg (by omega), p_si_ne _ _ _ _ (by omega)]
      · cases hb
        omega
    · rw [if_neg (fun z => q (iff.mp z)), if_neg q]
      exact ⟨g, rfl, hg, r_fC.rf g, hacc⟩
  | succ k ih =>
    intro c given fu row acc g hc hfu hgv hacc hg
    obtain ⟨fu, rfl⟩ : ∃ x, fu = x + 2 := ⟨fu - 2, by omega⟩
    obtain ⟨hs, h5, h14, h7, h6⟩ := id hg
    have hc6 : c < 6 := by omega
    have hN := r_stt_le (mu := q_mute m) (f := f) (kn := fun c => m (24 + 9 * c + 2)) (x0 := x0) (row := row) 0 c
    rw [Nat.zero_add] at hN
    have hN0 : (r_stt (q_mute m) f (fun c => m (24 + 9 * c + 2)) x0 row 0).2 = x0.2 := rfl
    have e6 : g.1 55 6 = nI n := (hs.1 78).symm.trans hm
    rw [fG2_0 (fu + 1)]
    unfold fX11_deal
    generalize hSN : (r_stt (q_mute m) f (fun c => m (24 + 9 * c + 2)) x0 row c).2 = N at *
    generalize hSU : (r_stt (q_mute m) f (fun c => m (24 + 9 * c + 2)) x0 row c).1 = U at *
    have hpair : r_stt (q_mute m) f (fun c => m (24 + 9 * c + 2)) x0 row c = (U, N) := Prod.ext hSU hSN
    rw [e6, nI_add, pk_sub (by omega), show N + n - c = N + (k + 1) by omega, h14]
    have pr : ¬ (r_enc (-5) acc.1 < nI (N + (k + 1))) → ∃ b, acc.1 = some b ∧ N + (k + 1) ≤ b := by
      intro hno
      cases e : acc.1 with
      | none =>
        rw [e] at hno
        exfalso
        refine hno (show (-5 : Int32) < nI (N + (k + 1)) from Int32.lt_iff_toInt_lt.mpr ?_)
        rw [nI_toInt (by omega), show (-5 : Int32).toInt = -5 by decide]
        omega
      | some b =>
        have hb := hacc b e
        rw [e] at hno
        refine ⟨b, rfl, ?_⟩
        have : ¬ nI b < nI (N + (k + 1)) := hno
        rw [nI_ltI (by omega) (by omega)] at this
        omega
    by_cases q : r_enc (-5) acc.1 < nI (N + (k + 1))
    · rw [if_pos q, if_pos (nI_lt (by omega) (by omega))]
      have give : ∀ (e : Nat) (acc1 : r_A) (g1 : c_G), e < 6 → (∀ b, acc1.1 = some b → b < 100) → r_C m f n c row acc1 g1 → ∃ g', fG2 (fu + 1) 1 g1 (nI c) (nI e) (nI given) U (nI N) = some g' ∧ r_C m f n c row (r_T (fun row => (r_stt (q_mute m) f (fun c => m (24 + 9 * c + 2)) x0 row n).2) k (c + 1) (given ||| 2 ^ e) (r_up row c e) acc1) g' ∧ r_fC g1 g' ∧ ∀ b, (r_T (fun row => (r_stt (q_mute m) f (fun c => m (24 + 9 * c + 2)) x0 row n).2) k (c + 1) (given ||| 2 ^ e) (r_up row c e) acc1).1 = some b → b < 100 := by
        intro e acc1 g1 he ha1 hg1
        obtain ⟨hs1, k5, k14, k7, k6⟩ := hg1
        obtain ⟨gv1, gv2⟩ := r_given hgv he
        have est : r_stt (q_mute m) f (fun c => m (24 + 9 * c + 2)) x0 (r_up row c e) (c + 1) = r_stp (q_mute m) f (fun c => m (24 + 9 * c + 2)) c e (U, N) := by
          show r_stp _ _ _ c (r_up row c e c) (r_stt _ _ _ x0 (r_up row c e) c) = _
          rw [r_up_at, r_stt_cg c (fun j hj => r_up_ne row (by omega)), hpair]
        have hg2 : r_C m f n (c + 1) (r_up row c e) acc1 (c_si g1 6 c (nI e)) := by
          refine ⟨hs1.out (Or.inl (by decide)), fun c' e' w z1 z2 z3 => ?_, ?_, fun z j hj => ?_, fun j hj => ?_⟩
          · rw [p_si_ne _ _ _ _ (by omega)]
            exact k5 c' e' w z1 z2 z3
          · rw [p_si_ne _ _ _ _ (by omega)]
            exact k14
          · rw [p_si_ne _ _ _ _ (by omega)]
            exact k7 z j hj
          · by_cases y : j = c
            · subst y
              rw [p_si_at, r_up_at]
            · rw [p_si_ne _ _ _ _ (by omega), r_up_ne row y]
              exact k6 j (by omega)
        obtain ⟨g3, j1, j2, j3, j4⟩ := ih (c + 1) (given ||| 2 ^ e) fu (r_up row c e) acc1 (c_si g1 6 c (nI e)) (by omega) (by omega) gv2 ha1 hg2
        have fr : r_fC g1 g3 := by
          have f0 : r_fC g1 (c_si g1 6 c (nI e)) := ⟨fun a j z => p_si_ne _ _ _ _ (by omega), rfl⟩
          exact f0.tr j3
        have back : r_C m f n c row (r_T (fun row => (r_stt (q_mute m) f (fun c => m (24 + 9 * c + 2)) x0 row n).2) k (c + 1) (given ||| 2 ^ e) (r_up row c e) acc1) g3 := ⟨j2.1, j2.2.1, j2.2.2.1, j2.2.2.2.1, fun j hj => by rw [j2.2.2.2.2 j (by omega), r_up_ne row (by omega)]⟩
        have r7 : g1.1 62 c = m (24 + 9 * c + 2) := by rw [hs1.1, p_al_knows _ _ hc6]
        refine ⟨g3, ?_, back, fr, j4⟩
        rw [est] at j1
        have h50 : ∀ word, p_O word 12 → word = r_word (q_mute m) f (fun c => m (24 + 9 * c + 2)) c e U → fX11_give_50 (fG2 fu) (nI c) (nI e) (nI given) U (nI N) (nI c) (nI e) (nI given) U (nI N) (p_or word) g1 = some g3 := by
          intro word hO hw
          unfold fX11_give_50
          unfold r_stp at j1
          rw [← hw] at j1
          rw [p_in hc6 (by decide), if_pos rfl, nI_clamp (show c < 2 ^ 31 by omega), c_let_d, nI_1, gv1]
          by_cases z : word = -1
          · rw [if_pos z] at j1
            rw [if_pos ((p_or5 (by decide) hO).mpr z), j1, Option.bind_some]
          · rw [if_neg z] at j1
            rw [if_neg (fun y => z ((p_or5 (by decide) hO).mp y)), p_orN z, nI_1, j1, Option.bind_some]
        rw [fG2_1]
        unfold fX11_give
        rw [c_let_d, c_listens hs1 rfl he, Option.bind_some, p_in hc6 (by decide), if_pos rfl, nI_clamp (show c < 2 ^ 31 by omega), r7]
        by_cases hmu : q_mute m e = true
        · rw [if_pos hmu, if_pos rfl]
          have := h50 (-1) (Or.inl rfl) (by unfold r_word; rw [if_pos hmu])
          exact this
        · have ev : ((nI c * (6 : Int32)) + nI e) * (12 : Int32) = nI ((c * 6 + e) * 12) := by
            show (nI c * nI 6 + nI e) * nI 12 = _
            rw [pk_mul, nI_add, pk_mul]
          rw [if_neg hmu, if_neg i10, ev, c_best g1 (h := 5) (N := 432) (fr := (c * 6 + e) * 12) rfl (by omega) (by decide), Option.bind_some]
          have hb : q_best (fun w => g1.1 5 ((c * 6 + e) * 12 + w)) (b_bit (m (24 + 9 * c + 2) &&& (U ^^^ (-1)))) 12 0 (-1) 0 = r_word (q_mute m) f (fun c => m (24 + 9 * c + 2)) c e U := by
            unfold r_word
            rw [if_neg hmu]
            exact q_best_cg 12 0 (-1) 0 fun y _ hy => ⟨k5 c e y (by omega) he (by omega), rfl⟩
          exact h50 _ (q_best_O _ _ 12 0 _ _ (by decide) (Or.inl rfl)) hb
      have loop : ∀ (d e F : Nat) (acc1 : r_A) (g1 : c_G), e + d = 6 → d < F → (∀ b, acc1.1 = some b → b < 100) → r_C m f n c row acc1 g1 → ∃ g', fX11_deal_56 (fG2 (fu + 1)) (nI c) (nI given) U (nI N) F (nI c) (nI given) U (nI N) (nI e) g1 = some g' ∧ r_C m f n c row (r_F (fun e acc => if given.testBit e = true then acc else r_T (fun row => (r_stt (q_mute m) f (fun c => m (24 + 9 * c + 2)) x0 row n).2) k (c + 1) (given ||| 2 ^ e) (r_up row c e) acc) d e acc1) g' ∧ r_fC g1 g' ∧ ∀ b, (r_F (fun e acc => if given.testBit e = true then acc else r_T (fun row => (r_stt (q_mute m) f (fun c => m (24 + 9 * c + 2)) x0 row n).2) k (c + 1) (given ||| 2 ^ e) (r_up row c e) acc) d e acc1).1 = some b → b < 100 := by
        intro d
        induction d with
        | zero =>
          intro e F acc1 g1 he hF ha1 hg1
          obtain ⟨F, rfl⟩ : ∃ x, F = x + 1 := ⟨F - 1, by omega⟩
          refine ⟨g1, ?_, hg1, r_fC.rf g1, ha1⟩
          rw [fX11_deal_56, if_pos (show (6 : Int32) ≤ nI e from nI_le (a := 6) (by omega) (by omega))]
        | succ d ihd =>
          intro e F acc1 g1 he hF ha1 hg1
          obtain ⟨F, rfl⟩ : ∃ x, F = x + 1 := ⟨F - 1, by omega⟩
          have he6 : e < 6 := by omega
          have bt : b_bit (nI given) e = given.testBit e := b_nI (by omega)
          rw [fX11_deal_56, if_neg (show ¬ (6 : Int32) ≤ nI e from nI_ge (b := 6) he6 (by decide))]
          unfold fX11_deal_83
          by_cases z : given.testBit e = true
          · obtain ⟨g2, a1, a2, a3, a4⟩ := ihd (e + 1) F acc1 g1 (by omega) (by omega) ha1 hg1
            rw [if_neg (fun y => by rw [(b_shr0 _ (show e < 31 by omega)).mp y] at bt; rw [z] at bt; cases bt), c_let_d, nI_1]
            refine ⟨g2, a1, ?_, a3, ?_⟩
            · unfold r_F
              rw [if_pos z]
              exact a2
            · unfold r_F
              rw [if_pos z]
              exact a4
          · obtain ⟨g2, a1, a2, a3, a4⟩ := give e acc1 g1 he6 ha1 hg1
            obtain ⟨g3, b1, b2, b3, b4⟩ := ihd (e + 1) F _ g2 (by omega) (by omega) a4 a2
            rw [if_pos ((b_shr0 _ (show e < 31 by omega)).mpr (by rw [bt]; simpa using z)), a1, Option.bind_some, c_let_d, nI_1]
            refine ⟨g3, b1, ?_, a3.tr b3, ?_⟩
            · unfold r_F
              rw [if_neg z]
              exact b2
            · unfold r_F
              rw [if_neg z]
              exact b4
      have := loop 6 0 c_F acc g rfl (by decide) hacc hg
      rw [nI_0] at this
      exact this
    · rw [if_neg q]
      obtain ⟨b, hb, hle⟩ := pr q
      have hT : r_T (fun row => (r_stt (q_mute m) f (fun c => m (24 + 9 * c + 2)) x0 row n).2) (k + 1) c given row acc = acc := r_T_prune (k + 1) c given row acc b hb fun row' hr => by
        show (r_stt (q_mute m) f (fun c => m (24 + 9 * c + 2)) x0 row' n).2 ≤ b
        have h9 := r_stt_le (mu := q_mute m) (f := f) (kn := fun c => m (24 + 9 * c + 2)) (x0 := x0) (row := row') c (k + 1)
        rw [show c + (k + 1) = n by omega, r_stt_cg c hr, hSN] at h9
        omega
      rw [hT]
      exact ⟨g, rfl, hg, r_fC.rf g, hacc⟩
