/-! PURE: taken, a Sunday goes: on both sides alike -/
def q_take (m : Nat → Int32) (W : (Nat → Int32) → Int32) (c e : Nat) : Nat → Int32 :=
  if q_says m W c (m (24 + 9 * c + 1)) (m (24 + 9 * c + 2)) e = -1 then m else upd (upd m (4 * e + 1) (q_says m W c (m (24 + 9 * c + 1)) (m (24 + 9 * c + 2)) e)) (4 * e + 2) (nI c)
def q_takes (W : (Nat → Int32) → Int32) : Nat → Nat → (Nat → Int32) → (Nat → Int32)
  | 0, _, m => m
  | k + 1, c, m => q_takes W k (c + 1) (if m (24 + 9 * c + 4) = -1 then m else q_take m W c (m (24 + 9 * c + 4)).toNatClampNeg)
def q_old (m : Nat → Int32) (c : Nat) : Nat → Int32 := upd m (24 + 9 * c + 3) (m (24 + 9 * c + 3) + 1)
def q_grow1 (L : Int32) (m : Nat → Int32) (c : Nat) : Nat → Int32 :=
  if 0 < L ∧ (m (24 + 9 * c + 3) + 1) - (m (24 + 9 * c + 3) + 1) / L * L = 0 then upd (q_old m c) (24 + 9 * c + 2) (m (24 + 9 * c + 2) ||| ((1 : Int32) <<< (((m (24 + 9 * c + 3) + 1 + nI c) - (m (24 + 9 * c + 3) + 1 + nI c) / (12 : Int32) * (12 : Int32)) &&& 31))) else q_old m c
def q_grows (L : Int32) : Nat → Nat → (Nat → Int32) → (Nat → Int32)
  | 0, _, m => m
  | k + 1, c, m => q_grows L k (c + 1) (q_grow1 L m c)
def q_end (m : Nat → Int32) : Nat → Int32 := upd m 80 (m 80 + 1)
def q_sunday (W : (Nat → Int32) → Int32) (L : Int32) (m : Nat → Int32) : Nat → Int32 := q_end (q_grows L (m 78).toNatClampNeg 0 (q_takes W (m 78).toNatClampNeg 0 m))
def q_sundays (W : (Nat → Int32) → Int32) (L : Int32) : Nat → (Nat → Int32) → (Nat → Int32)
  | 0, m => m
  | k + 1, m => q_sundays W L k (q_sunday W L m)
theorem q_take_hi {m : Nat → Int32} {W : (Nat → Int32) → Int32} {c e : Nat} (he : e < 6) {j : Nat} (hj : 24 ≤ j) : q_take m W c e j = m j := by
  unfold q_take
  split
  · rfl
  · rw [pk_un (by omega), pk_un (by omega)]
/-- what the reference needs of its row -/
def q_ok (m : Nat → Int32) : Prop := (∀ i, i < 6 → p_N (m (24 + 9 * i)) 7 ∧ p_O (m (24 + 9 * i + 4)) 6) ∧ p_N (m 78) 7
theorem p_Inv.ok {m : Nat → Int32} (h : p_Inv m) : q_ok m := by
  refine ⟨fun i hi => ⟨?_, ?_⟩, h.1 78 (by decide)⟩
  · have z := h.1 (24 + 9 * i) (by omega)
    unfold p_ok at z
    rwa [if_neg (by omega), if_pos (by omega), if_pos (by omega)] at z
  · have z := h.1 (24 + 9 * i + 4) (by omega)
    unfold p_ok at z
    rwa [if_neg (by omega), if_pos (by omega), if_neg (by omega), if_neg (by omega), if_neg (by omega), if_neg (by omega), if_pos (by omega)] at z
theorem q_ok.eq {m m' : Nat → Int32} (h : q_ok m) (h1 : ∀ i, i < 6 → m' (24 + 9 * i) = m (24 + 9 * i) ∧ m' (24 + 9 * i + 4) = m (24 + 9 * i + 4)) (h2 : m' 78 = m 78) : q_ok m' := by
  refine ⟨fun i hi => ?_, by rw [h2]; exact h.2⟩
  rw [(h1 i hi).1, (h1 i hi).2]
  exact h.1 i hi
theorem q_takes_hi {W : (Nat → Int32) → Int32} : ∀ (k c : Nat) (m : Nat → Int32), c + k < 7 → q_ok m → (∀ j, 24 ≤ j → q_takes W k c m j = m j) ∧ q_ok (q_takes W k c m)
  | 0, c, m, _, h => ⟨fun _ _ => rfl, h⟩
  | k + 1, c, m, hc, h => by
    have key : ∀ m', (∀ j, 24 ≤ j → m' j = m j) → (∀ j, 24 ≤ j → q_takes W k (c + 1) m' j = m j) ∧ q_ok (q_takes W k (c + 1) m') := by
      intro m' hm
      obtain ⟨a, b⟩ := q_takes_hi k (c + 1) m' (by omega) (h.eq (fun i hi => ⟨hm _ (by omega), hm _ (by omega)⟩) (hm 78 (by omega)))
      exact ⟨fun j hj => (a j hj).trans (hm j hj), b⟩
    unfold q_takes
    by_cases q : m (24 + 9 * c + 4) = -1
    · rw [if_pos q]
      exact key m fun _ _ => rfl
    · rw [if_neg q]
      rcases (h.1 c (by omega)).2 with z | ⟨e, he, z⟩
      · exact absurd z q
      · refine key _ fun j hj => q_take_hi ?_ hj
        rw [z, nI_clamp (by omega)]
        exact he
theorem q_grow1_ne {L : Int32} {m : Nat → Int32} {c j : Nat} (h1 : j ≠ 24 + 9 * c + 2) (h2 : j ≠ 24 + 9 * c + 3) : q_grow1 L m c j = m j := by
  unfold q_grow1 q_old
  split
  · rw [pk_un h1, pk_un h2]
  · rw [pk_un h2]
theorem q_grow1_age {L : Int32} {m : Nat → Int32} {c : Nat} : q_grow1 L m c (24 + 9 * c + 3) = m (24 + 9 * c + 3) + 1 := by
  unfold q_grow1 q_old
  split
  · rw [pk_un (by omega), pk_us]
  · rw [pk_us]
theorem q_grows_ne {L : Int32} : ∀ (k c : Nat) (m : Nat → Int32) {j : Nat}, (∀ i, c ≤ i → i < c + k → j ≠ 24 + 9 * i + 2 ∧ j ≠ 24 + 9 * i + 3) → q_grows L k c m j = m j
  | 0, _, _, _, _ => rfl
  | k + 1, c, m, j, h => (q_grows_ne k (c + 1) _ fun i h1 h2 => h i (by omega) (by omega)).trans (q_grow1_ne (h c (by omega) (by omega)).1 (h c (by omega) (by omega)).2)
theorem q_grows_age {L : Int32} : ∀ (k c : Nat) (m : Nat → Int32) {i : Nat}, q_grows L k c m (24 + 9 * i + 3) = if c ≤ i ∧ i < c + k then m (24 + 9 * i + 3) + 1 else m (24 + 9 * i + 3)
  | 0, c, m, i => by
    rw [if_neg (by omega)]
    rfl
  | k + 1, c, m, i => by
    unfold q_grows
    rw [q_grows_age k (c + 1)]
    by_cases q : i = c
    · subst q
      rw [if_neg (by omega), if_pos (by omega), q_grow1_age]
    · rw [q_grow1_ne (by omega) (by omega)]
      by_cases q2 : c + 1 ≤ i ∧ i < c + 1 + k
      · rw [if_pos q2, if_pos (by omega)]
      · rw [if_neg q2, if_neg (by omega)]
/-- ages and the Sunday -/
def q_Ag (b : Nat) (m : Nat → Int32) : Prop := ∃ su, su ≤ b ∧ m 80 = nI su ∧ ∀ i, i < 6 → ∃ a, a ≤ su ∧ m (24 + 9 * i + 3) = nI a
theorem p_Age.ag {m : Nat → Int32} (h : p_Age m) : q_Ag 9999 m := by
  obtain ⟨su, a, b, c⟩ := h
  exact ⟨su, by omega, b, c⟩
theorem q_Ag.age {b : Nat} {m : Nat → Int32} (h : q_Ag b m) (hb : b < 10000) : p_Age m := by
  obtain ⟨su, a, b, c⟩ := h
  exact ⟨su, by omega, b, c⟩
theorem q_Ag.eq {b : Nat} {m m' : Nat → Int32} (h : q_Ag b m) (hj : ∀ j, 24 ≤ j → j < 81 → m' j = m j) : q_Ag b m' := by
  obtain ⟨su, h1, h2, h3⟩ := h
  refine ⟨su, h1, by rw [hj 80 (by omega) (by omega)]; exact h2, fun i hi => ?_⟩
  rw [hj _ (by omega) (by omega)]
  exact h3 i hi
theorem q_sunday_Ag {W : (Nat → Int32) → Int32} {L : Int32} {b : Nat} {m : Nat → Int32} (h : q_Ag b m) (hb : b < 20000) (ho : q_ok m) : q_Ag (b + 1) (q_sunday W L m) := by
  obtain ⟨n, hn, en⟩ := ho.2
  obtain ⟨su, h1, h2, h3⟩ := h
  obtain ⟨t1, -⟩ := q_takes_hi (W := W) n 0 m (by omega) ho
  unfold q_sunday q_end
  rw [en, nI_clamp (by omega)]
  refine ⟨su + 1, by omega, ?_, fun i hi => ?_⟩
  · rw [pk_us, q_grows_ne n 0 _ (by omega), t1 80 (by omega), h2, nI_1]
  · obtain ⟨a, a1, a2⟩ := h3 i hi
    rw [pk_un (by omega), q_grows_age, t1 _ (by omega), a2]
    split
    · exact ⟨a + 1, by omega, nI_1 a⟩
    · exact ⟨a, by omega, rfl⟩
theorem q_sunday_ok {W : (Nat → Int32) → Int32} {L : Int32} {m : Nat → Int32} (ho : q_ok m) : q_ok (q_sunday W L m) ∧ q_sunday W L m 78 = m 78 ∧ ∀ j, 81 ≤ j → q_sunday W L m j = m j := by
  obtain ⟨n, hn, en⟩ := ho.2
  obtain ⟨t1, t2⟩ := q_takes_hi (W := W) n 0 m (by omega) ho
  have e : ∀ j, 24 ≤ j → j ≠ 80 → (∀ i, i < 6 → j ≠ 24 + 9 * i + 2 ∧ j ≠ 24 + 9 * i + 3) → q_sunday W L m j = m j := by
    intro j h1 h2 h3
    unfold q_sunday q_end
    rw [en, nI_clamp (by omega), pk_un h2, q_grows_ne n 0 _ fun i z1 z2 => h3 i (by omega), t1 j h1]
  exact ⟨ho.eq (fun i hi => ⟨e _ (by omega) (by omega) (by omega), e _ (by omega) (by omega) (by omega)⟩) (e 78 (by omega) (by omega) (by omega)), e 78 (by omega) (by omega) (by omega), fun j hj => e j (by omega) (by omega) (by omega)⟩
/-! the class's side -/
/-- scratch, and the state at s -/
def q_fs (s : Nat) (g g' : c_G) : Prop := (∀ a, a ≠ 3 → a ≠ 4 → (a < s ∨ s + 23 ≤ a) → g'.1 a = g.1 a) ∧ g'.2 = g.2
theorem q_fs.rf (s : Nat) (g : c_G) : q_fs s g g := ⟨fun _ _ _ _ => rfl, rfl⟩
theorem q_fs.tr {s : Nat} {a b c : c_G} (h : q_fs s a b) (h2 : q_fs s b c) : q_fs s a c := ⟨fun x z1 z2 z3 => (h2.1 x z1 z2 z3).trans (h.1 x z1 z2 z3), h2.2.trans h.2⟩
theorem q_fs.si {s : Nat} {g : c_G} {a j : Nat} {v : Int32} (h1 : s ≤ a) (h2 : a < s + 23) : q_fs s g (c_si g a j v) := ⟨fun b z1 z2 z3 => c_sr_ne (by omega), rfl⟩
theorem q_C.fs {g g' : c_G} {s : Nat} {W : (Nat → Int32) → Int32} {L : Int32} (h : q_C g s W L) (hv : c_isV (g.2.2 s) = true) (hS : c_isS s = true) (hf : q_fs s g g') : q_C g' s W L := by
  have := c_isS_ge hS
  exact h.eq hv (fun a z1 z2 => hf.1 a (by omega) (by omega) (by omega)) (by rw [hf.2])
theorem p_un_N {n : Nat} {x : Int32} (hn : n < 2 ^ 31) (h : p_N x n) : p_un x = x := by
  obtain ⟨k, hk, rfl⟩ := h
  exact p_un_nI (by omega)
theorem p_N_m1 {n : Nat} {x : Int32} (hn : n < 2 ^ 31) (h : p_N x n) : ¬ x = -1 := by
  obtain ⟨k, hk, rfl⟩ := h
  exact p_mN (by omega)
theorem c_takeTo {g : c_G} {s c e : Nat} {m : Nat → Int32} {W : (Nat → Int32) → Int32} {L : Int32} (hs : p_St g s m) (hS : c_isS s = true) (hW : q_C g s W L) (hc : c < 6) (he : e < 6) :
    ∃ g', fX11_takeTo g s (nI c) (nI e) = some (g', p_or (q_says m W c (m (24 + 9 * c + 1)) (m (24 + 9 * c + 2)) e)) ∧ p_St g' s (q_take m W c e) ∧ q_fs s g g' := by
  have hl2 := c_isS_ge hS
  have r6 : g.1 (s + 6) c = m (24 + 9 * c + 1) := by rw [hs.1, p_al_v _ _ hc]
  have r7 : g.1 (s + 7) c = m (24 + 9 * c + 2) := by rw [hs.1, p_al_knows _ _ hc]
  obtain ⟨g', e1, e2, e3⟩ := c_says hs hS hW hc he (m (24 + 9 * c + 1)) (m (24 + 9 * c + 2))
  have hf : q_fs s g g' := ⟨fun a z1 z2 _ => e2 a z1 z2, e3⟩
  have hs' : p_St g' s m := hs.eq (fun a h1 h2 => e2 a (by omega) (by omega)) (by rw [e3])
  unfold fX11_takeTo
  rw [if_pos hS, p_in hc (by decide), if_pos rfl, nI_clamp (show c < 2 ^ 31 by omega), r6, r7, e1, c_b2s]
  unfold q_take
  rcases q_says_O m W c (m (24 + 9 * c + 1)) (m (24 + 9 * c + 2)) e with z | z
  · rw [if_pos z, z]
    exact ⟨g', rfl, hs', hf⟩
  · have z1 := p_N_m1 (by decide) z
    rw [if_neg z1, p_orN z1]
    generalize q_says m W c (m (24 + 9 * c + 1)) (m (24 + 9 * c + 2)) e = r at *
    have z2 : ¬ r = -5 := by
      obtain ⟨k, hk, rfl⟩ := z
      exact p_5N (by omega)
    rw [if_neg z2, p_in he (by decide), if_pos rfl, nI_clamp (show e < 2 ^ 31 by omega), c_let_d, c_let_d]
    have s1 := p_pt_name hs' (v := r) he (by rw [p_un_N (by decide) z]; exact Or.inr z) z1
    have s2 := p_pt_by s1 (v := nI c) he (by rw [p_un_nI (by omega)]; exact Or.inr ⟨c, hc, rfl⟩) (p_mN (by omega))
    rw [p_un_N (by decide) z, p_un_nI (by omega)] at s2
    exact ⟨_, rfl, s2, (hf.tr (q_fs.si (by omega) (by omega))).tr (q_fs.si (by omega) (by omega))⟩
theorem c_takes {s : Nat} {W : (Nat → Int32) → Int32} {L : Int32} (hS : c_isS s = true) (kk : Int32 → Int32 → Int32 → c_G → Option c_G) (a1 : Nat) (a2 a3 x2 x3 x4 : Int32) (ha : a1 = s) {n : Nat} (hn : n < 7) : ∀ (k c F : Nat) (g : c_G) (m : Nat → Int32), c + k = n → k < F → p_St g s m → q_C g s W L → m 78 = nI n →
    ∃ g', fX11_letGo_12 kk a1 a2 a3 F x2 x3 x4 (nI c) g = kk x2 x3 x4 g' ∧ p_St g' s (q_takes W k c m) ∧ q_fs s g g' := by
  subst ha
  intro k
  induction k with
  | zero =>
    intro c F g m hc hF hs hW hm
    obtain ⟨F, rfl⟩ : ∃ f, F = f + 1 := ⟨F - 1, by omega⟩
    refine ⟨g, ?_, hs, q_fs.rf _ g⟩
    rw [fX11_letGo_12, show g.1 a1 6 = nI n from (hs.1 78).symm.trans hm, if_pos (nI_le (by omega) (by omega))]
  | succ k ih =>
    intro c F g m hc hF hs hW hm
    obtain ⟨F, rfl⟩ : ∃ f, F = f + 1 := ⟨F - 1, by omega⟩
    have hc6 : c < 6 := by omega
    have ho := (hs.2.2.1.ok.1 c hc6).2
    rw [fX11_letGo_12, show g.1 a1 6 = nI n from (hs.1 78).symm.trans hm, if_neg (nI_ge (by omega) (by omega)), p_in hc6 (by decide), if_pos rfl, nI_clamp (by omega), hs.basketC hc6]
    unfold q_takes fX11_letGo_48
    by_cases q : m (24 + 9 * c + 4) = -1
    · rw [if_pos ((p_or5 (by decide) ho).mpr q), if_pos q, c_let_d, nI_1]
      exact ih (c + 1) F g m (by omega) (by omega) hs hW hm
    · rw [if_neg (fun z => q ((p_or5 (by decide) ho).mp z)), if_neg q, p_orN q]
      rcases ho with z | ⟨e, he, z⟩
      · exact absurd z q
      · obtain ⟨g1, e1, e2, e3⟩ := c_takeTo hs hS hW hc6 he
        obtain ⟨g2, f1, f2, f3⟩ := ih (c + 1) F g1 (q_take m W c e) (by omega) (by omega) e2 (hW.fs hs.2.2.2 hS e3) ((q_take_hi he (by omega)).trans hm)
        rw [z, e1, c_b2s, c_let_d, nI_1, nI_clamp (by omega)]
        exact ⟨g2, f1, f2, e3.tr f3⟩
theorem q_or12 {x : Int32} (h : p_N x 4096) {w : Nat} (hw : w < 12) : p_N (x ||| ((1 : Int32) <<< (nI w &&& 31))) 4096 := by
  apply b_ofN
  intro i h1 h2
  rw [b_or, b_N h h1, b_pow (by omega)]
  simp
  omega
theorem p_St.okknows {g : c_G} {s : Nat} {m : Nat → Int32} (h : p_St g s m) {i : Nat} (hi : i < 6) : p_N (m (24 + 9 * i + 2)) 4096 := by
  have z := h.2.2.1.1 (24 + 9 * i + 2) (by omega)
  unfold p_ok at z
  rwa [if_neg (by omega), if_pos (by omega), if_neg (by omega), if_neg (by omega), if_pos (by omega)] at z
theorem q_rem12 {k : Nat} (hk : k < 2 ^ 31) : nI k - nI k / (12 : Int32) * (12 : Int32) = nI (k % 12) := pk_rem (d := 12) hk (by decide) (by decide)
theorem p_pos {L : Int32} (h : p_N L 100) : (L ≤ 0 ↔ L = 0) ∧ (0 < L ↔ ¬ L = 0) := by
  obtain ⟨k, hk, rfl⟩ := h
  by_cases e : k = 0
  · subst e; decide
  · have h1 : ¬ nI k = 0 := fun z => e ((nI_eq (b := 0) (by omega) (by decide)).mp z)
    have h2 : (0 : Int32) < nI k := nI_lt (a := 0) (by omega) (by omega)
    exact ⟨⟨fun z => absurd z (p_lnl h2), fun z => absurd z h1⟩, ⟨fun _ => h1, fun _ => h2⟩⟩
theorem c_grow1 {g : c_G} {s c : Nat} {m : Nat → Int32} {L : Int32} (hs : p_St g s m) (hS : c_isS s = true) (hL : p_N L 100) (hc : c < 6) {a o : Nat} (ea : m (24 + 9 * c + 3) = nI a) (ha : a < 19998) (hao : a < o) (ho : o < 2 ^ 31) (rec10 : Int32 → Int32 → Int32 → c_G → Option c_G) (a1 x1 : Int32) (hx1 : x1 = nI o) :
    ∃ g', (if c_in (nI c) 6 = true then if x1 ≤ g.1 (s + 8) (nI c).toNatClampNeg then (fX7_grow_38 rec10 s a1 x1 L (nI c) g) else (c_let ((g.1 (s + 8) (nI c).toNatClampNeg) + (1 : Int32)) fun v10006 => c_let (c_si g (s + 8) (nI c).toNatClampNeg v10006) fun g10007 => fX7_grow_38 rec10 s a1 x1 L (nI c) g10007) else none) = rec10 x1 L (nI (c + 1)) g' ∧ p_St g' s (q_grow1 L m c) ∧ q_fs s g g' := by
  subst hx1
  have hl2 := c_isS_ge hS
  have r8 : g.1 (s + 8) c = m (24 + 9 * c + 3) := by rw [hs.1, p_al_age _ _ hc]
  rw [p_in hc (by decide), if_pos rfl, nI_clamp (show c < 2 ^ 31 by omega), r8, ea, if_neg (nI_ge hao ho), c_let_d, c_let_d, nI_1]
  have s1 : p_St (c_si g (s + 8) c (nI (a + 1))) s (upd m (24 + 9 * c + 3) (nI (a + 1))) := p_pt_age hs hc ⟨a + 1, by omega, rfl⟩
  have f1 : q_fs s g (c_si g (s + 8) c (nI (a + 1))) := q_fs.si (by omega) (by omega)
  have e7 : (c_si g (s + 8) c (nI (a + 1))).1 (s + 7) c = m (24 + 9 * c + 2) := by
    rw [p_si_ne _ _ _ _ (by omega), hs.1, p_al_knows _ _ hc]
  unfold fX7_grow_38 fX7_grow_75
  rw [p_in hc (by decide), if_pos rfl, nI_clamp (show c < 2 ^ 31 by omega), p_si_at, e7]
  have eo : q_old m c = upd m (24 + 9 * c + 3) (nI (a + 1)) := by unfold q_old; rw [ea, nI_1]
  unfold q_grow1
  rw [ea, nI_1 a, eo]
  by_cases q0 : L = 0
  · rw [if_pos ((p_pos hL).1.mpr q0), if_neg (fun z => (p_pos hL).2.mp z.1 q0), c_let_d, nI_1 c]
    exact ⟨_, rfl, s1, f1⟩
  · rw [if_neg (fun z => q0 ((p_pos hL).1.mp z)), if_neg q0]
    by_cases q1 : nI (a + 1) - nI (a + 1) / L * L = 0
    · rw [if_pos q1, if_pos ⟨(p_pos hL).2.mpr q0, q1⟩, c_let_d, c_let_d, c_let_d, nI_1 c, nI_add, q_rem12 (by omega)]
      have s2 := p_pt_knows s1 hc (v := m (24 + 9 * c + 2) ||| ((1 : Int32) <<< (nI ((a + 1 + c) % 12) &&& 31))) (q_or12 (hs.okknows hc) (by omega))
      exact ⟨_, rfl, s2, f1.tr (q_fs.si (by omega) (by omega))⟩
    · rw [if_neg q1, if_neg (fun z => q1 z.2), c_let_d, nI_1 c]
      exact ⟨_, rfl, s1, f1⟩
theorem c_grow {g : c_G} {s n : Nat} {m : Nat → Int32} {W : (Nat → Int32) → Int32} {L : Int32} (hs : p_St g s m) (hS : c_isS s = true) (hW : q_C g s W L) (hn : n < 7) (hm : m 78 = nI n) {b o : Nat} (hA : q_Ag b m) (hb : b < 19997) (hbo : b < o) (ho : o < 2 ^ 31) :
    ∃ g', fX7_grow g s (nI o) = some g' ∧ p_St g' s (q_end (q_grows L n 0 m)) ∧ q_fs s g g' := by
  obtain ⟨su, h1, h2, h3⟩ := hA
  have loop : ∀ (k c F : Nat) (g1 : c_G) (m1 : Nat → Int32), c + k = n → k < F → p_St g1 s m1 → m1 78 = nI n → m1 80 = nI su → (∀ i, c ≤ i → i < 6 → ∃ a, a ≤ su ∧ m1 (24 + 9 * i + 3) = nI a) →
      ∃ g', fX7_grow_10 s (nI o) F (nI o) L (nI c) g1 = some g' ∧ p_St g' s (q_end (q_grows L k c m1)) ∧ q_fs s g1 g' := by
    intro k
    induction k with
    | zero =>
      intro c F g1 m1 hc hF hs1 e78 e80 hag
      obtain ⟨F, rfl⟩ : ∃ f, F = f + 1 := ⟨F - 1, by omega⟩
      have e5 : g1.1 s 5 = nI su := (hs1.1 80).symm.trans e80
      refine ⟨c_si g1 s 5 (nI (su + 1)), ?_, ?_, q_fs.si (by omega) (by omega)⟩
      · rw [fX7_grow_10, show g1.1 s 6 = nI n from (hs1.1 78).symm.trans e78, if_pos (nI_le (by omega) (by omega)), e5, c_let_d, c_let_d, nI_1]
      · unfold q_end q_grows
        rw [e80, nI_1]
        exact p_pt_sun hs1 ⟨su + 1, by omega, rfl⟩
    | succ k ih =>
      intro c F g1 m1 hc hF hs1 e78 e80 hag
      obtain ⟨F, rfl⟩ : ∃ f, F = f + 1 := ⟨F - 1, by omega⟩
      have hc6 : c < 6 := by omega
      obtain ⟨a, a1, a2⟩ := hag c (Nat.le_refl _) hc6
      obtain ⟨g2, e1, e2, e3⟩ := c_grow1 hs1 hS hW.2.2 hc6 a2 (by omega) (show a < o by omega) ho (fX7_grow_10 s (nI o) F) (nI o) (nI o) rfl
      obtain ⟨g3, f1, f2, f3⟩ := ih (c + 1) F g2 (q_grow1 L m1 c) (by omega) (by omega) e2 ((q_grow1_ne (by omega) (by omega)).trans e78) ((q_grow1_ne (by omega) (by omega)).trans e80) (fun i z1 z2 => by
        rw [q_grow1_ne (by omega) (by omega)]
        exact hag i (by omega) z2)
      refine ⟨g3, ?_, f2, e3.tr f3⟩
      rw [fX7_grow_10, show g1.1 s 6 = nI n from (hs1.1 78).symm.trans e78, if_neg (nI_ge (by omega) (by omega)), e1]
      exact f1
  unfold fX7_grow
  rw [if_pos hS, if_pos hs.2.2.2, hW.2.1]
  exact loop n 0 c_F g m (by omega) (show n < 5000 by omega) hs hm h2 (fun i _ hi => h3 i hi)
theorem c_sunday {s n : Nat} {W : (Nat → Int32) → Int32} {L : Int32} (hS : c_isS s = true) (hn : n < 7) (rec3 : Int32 → Int32 → Int32 → c_G → Option c_G) (a1 : Nat) (ha : a1 = s) (a2 a3 x2 x3 x4 : Int32) {g : c_G} {m : Nat → Int32} (hs : p_St g s m) (hW : q_C g s W L) (hm : m 78 = nI n) {b o : Nat} (hA : q_Ag b m) (hb : b < 19997) (hbo : b < o) (ho : o < 2 ^ 31) (hx : x3 = nI o) :
    ∃ g', fX11_letGo_12 (fX11_letGo_54 rec3 a1 a2 a3) a1 a2 a3 c_F x2 x3 x4 0 g = rec3 x2 x3 (x4 + 1) g' ∧ p_St g' s (q_sunday W L m) ∧ q_fs s g g' := by
  subst ha
  subst hx
  obtain ⟨g1, e1, e2, e3⟩ := c_takes (W := W) (L := L) hS (fX11_letGo_54 rec3 a1 a2 a3) a1 a2 a3 x2 (nI o) x4 rfl hn n 0 c_F g m (by omega) (show n < 5000 by omega) hs hW hm
  obtain ⟨t1, t2⟩ := q_takes_hi (W := W) n 0 m (by omega) hs.2.2.1.ok
  obtain ⟨g2, f1, f2, f3⟩ := c_grow e2 hS (hW.fs hs.2.2.2 hS e3) hn ((t1 78 (by omega)).trans hm) (hA.eq fun j z1 _ => t1 j z1) hb hbo ho
  refine ⟨g2, ?_, ?_, e3.tr f3⟩
  · rw [nI_0] at e1
    rw [e1]
    unfold fX11_letGo_54
    rw [f1, Option.bind_some, c_let_d]
  · unfold q_sunday
    rw [hm, nI_clamp (by omega)]
    exact f2
theorem c_letGo {s k : Nat} {W : (Nat → Int32) → Int32} {L : Int32} (hS : c_isS s = true) {g : c_G} {m : Nat → Int32} (hs : p_St g s m) (hW : q_C g s W L) {b o : Nat} (hA : q_Ag b m) (hk : k < 100) (hb : b + k < 19997) (hbo : b + k ≤ o) (ho : o < 2 ^ 31) :
    ∃ g', fX11_letGo g s (nI k) (nI o) = some g' ∧ p_St g' s (q_sundays W L k m) ∧ q_fs s g g' := by
  have loop : ∀ (d i F : Nat) (g : c_G) (m : Nat → Int32) (b : Nat), i + d = k → d < F → p_St g s m → q_C g s W L → q_Ag b m → b + d < 19997 → b + d ≤ o →
      ∃ g', fX11_letGo_3 s (nI k) (nI o) F (nI k) (nI o) (nI i) g = some g' ∧ p_St g' s (q_sundays W L d m) ∧ q_fs s g g' := by
    intro d
    induction d with
    | zero =>
      intro i F g m b hi hF hs hW hA h1 h2
      obtain ⟨F, rfl⟩ : ∃ f, F = f + 1 := ⟨F - 1, by omega⟩
      refine ⟨g, ?_, hs, q_fs.rf _ g⟩
      rw [fX11_letGo_3, if_pos (nI_le (by omega) (by omega))]
    | succ d ih =>
      intro i F g m b hi hF hs hW hA h1 h2
      obtain ⟨F, rfl⟩ : ∃ f, F = f + 1 := ⟨F - 1, by omega⟩
      obtain ⟨n, hn, en⟩ := hs.2.2.1.ok.2
      obtain ⟨g1, e1, e2, e3⟩ := c_sunday (W := W) (L := L) hS hn (fX11_letGo_3 s (nI k) (nI o) F) s rfl (nI k) (nI o) (nI k) (nI o) (nI i) hs hW en hA (by omega) (by omega) ho rfl
      obtain ⟨g2, f1, f2, f3⟩ := ih (i + 1) F g1 (q_sunday W L m) (b + 1) (by omega) (by omega) e2 (hW.fs hs.2.2.2 hS e3) (q_sunday_Ag hA (by omega) hs.2.2.1.ok) (by omega) (by omega)
      refine ⟨g2, ?_, f2, e3.tr f3⟩
      rw [fX11_letGo_3, if_neg (nI_ge (by omega) (by omega)), e1, nI_1]
      exact f1
  unfold fX11_letGo
  rw [if_pos hS]
  exact loop k 0 c_F g m b (by omega) (show k < 5000 by omega) hs hW hA hb hbo
/-! the reference's side -/
/-- scratch, and the row -/
def q_fw (g g' : c_G) : Prop := (∀ a j, ¬ (a = 1 ∨ a = 7 ∨ a = 8 ∨ a = 12 ∨ (a = 0 ∧ 10 ≤ j ∧ j ≤ 15)) → g'.1 a j = g.1 a j) ∧ g'.2 = g.2
theorem q_fw.rf (g : c_G) : q_fw g g := ⟨fun _ _ _ => rfl, rfl⟩
theorem q_fw.tr {a b c : c_G} (h : q_fw a b) (h2 : q_fw b c) : q_fw a c := ⟨fun x j q => (h2.1 x j q).trans (h.1 x j q), h2.2.trans h.2⟩
theorem q_fw.row {g g' : c_G} (h : q_fw g g') {a : Nat} (h0 : a ≠ 0) (h1 : a ≠ 1) (h2 : a ≠ 7) (h3 : a ≠ 8) (h4 : a ≠ 12) : g'.1 a = g.1 a := funext fun j => h.1 a j (by omega)
theorem q_fq.w {g g' : c_G} (h : q_fq g g') : q_fw g g' := ⟨fun a j q => h.1 a j (by omega), h.2⟩
theorem q_fw.si {g : c_G} {j : Nat} {v : Int32} : q_fw g (c_si g 1 j v) := ⟨fun a i q => p_si_ne _ _ _ _ (by omega), rfl⟩
theorem q_M.fw {g g' : c_G} {W : (Nat → Int32) → Int32} {L : Int32} (h : q_M g W L) (hf : q_fw g g') (h81 : g'.1 1 81 = g.1 1 81) : q_M g' W L :=
  h.eq h81 (hf.row (by decide) (by decide) (by decide) (by decide) (by decide)) (hf.row (by decide) (by decide) (by decide) (by decide) (by decide)) (hf.row (by decide) (by decide) (by decide) (by decide) (by decide)) (hf.row (by decide) (by decide) (by decide) (by decide) (by decide)) (hf.row (by decide) (by decide) (by decide) (by decide) (by decide)) (hf.row (by decide) (by decide) (by decide) (by decide) (by decide))
theorem m_goesTo {g : c_G} {W : (Nat → Int32) → Int32} {L : Int32} (hM : q_M g W L) {c e : Nat} (hc : c < 6) (he : e < 6) (hk : p_N (g.1 1 (24 + 9 * c)) 7) :
    ∃ g', fX12_goesTo g (nI c) (nI e) = some (g', q_says (g.1 1) W c (g.1 1 (24 + 9 * c + 1)) (g.1 1 (24 + 9 * c + 2)) e) ∧ g'.1 1 = q_take (g.1 1) W c e ∧ q_fw g g' := by
  obtain ⟨g', e1, e2, -⟩ := m_says hM hc he hk
  have r1 : g'.1 1 = g.1 1 := e2.row (by decide) (by decide) (by decide) (by decide)
  unfold fX12_goesTo q_take
  rw [e1, c_b2s]
  by_cases q : q_says (g.1 1) W c (g.1 1 (24 + 9 * c + 1)) (g.1 1 (24 + 9 * c + 2)) e = -1
  · rw [if_pos q, if_pos q]
    exact ⟨g', rfl, r1, e2.w⟩
  · rw [if_neg q, if_neg q, e_atE (c := e) (f := 1) 1 rfl, e_atE (c := e) (f := 2) 2 rfl, p_in (show 4 * e + 1 < 136 by omega) (by decide), if_pos rfl, nI_clamp (show 4 * e + 1 < 2 ^ 31 by omega), c_let_d, p_in (show 4 * e + 2 < 136 by omega) (by decide), if_pos rfl, nI_clamp (show 4 * e + 2 < 2 ^ 31 by omega), c_let_d]
    exact ⟨_, rfl, by rw [e_up, e_up, r1], (e2.w.tr q_fw.si).tr q_fw.si⟩
theorem m_learnNow {g : c_G} {W : (Nat → Int32) → Int32} {L : Int32} (hM : q_M g W L) : ∃ g', fX12_learnNow g = some (g', L) ∧ q_fr g g' := by
  obtain ⟨g', e1, e2, -, e3⟩ := m_readFor hM (c := 0) (e := 0) (by decide) (by decide) 0
  refine ⟨g', ?_, e2⟩
  unfold fX12_learnNow
  rw [nI_0] at e1
  rw [e1, Option.bind_some, e3]
theorem p_upd_self (m : Nat → Int32) (K : Nat) : upd m K (m K) = m := funext fun j => by
  by_cases q : j = K
  · subst q; rw [pk_us]
  · rw [pk_un q]
theorem m_grow {L : Int32} (hL : p_N L 100) {n : Nat} (hn : n < 7) : ∀ (k c F : Nat) (g : c_G), c + k = n → k < F → g.1 1 78 = nI n → (∀ i, c ≤ i → i < 6 → ∃ a, a < 30000 ∧ g.1 1 (24 + 9 * i + 3) = nI a) →
    ∃ g', fX12_sunday_48 F L (nI c) g = some g' ∧ g'.1 1 = q_end (q_grows L k c (g.1 1)) ∧ q_fw g g' := by
  intro k
  induction k with
  | zero =>
    intro c F g hc hF h78 hag
    obtain ⟨F, rfl⟩ : ∃ f, F = f + 1 := ⟨F - 1, by omega⟩
    refine ⟨c_si g 1 80 (g.1 1 80 + 1), ?_, e_up _ _ _ _, q_fw.si⟩
    rw [fX12_sunday_48, h78, if_pos (nI_le (by omega) (by omega)), c_let_d, c_let_d]
  | succ k ih =>
    intro c F g hc hF h78 hag
    obtain ⟨F, rfl⟩ : ∃ f, F = f + 1 := ⟨F - 1, by omega⟩
    have hc6 : c < 6 := by omega
    obtain ⟨a, a1, a2⟩ := hag c (Nat.le_refl _) hc6
    have next : ∀ g1 : c_G, g1.1 1 = q_grow1 L (g.1 1) c → q_fw g g1 → ∃ g', fX12_sunday_48 F L (nI (c + 1)) g1 = some g' ∧ g'.1 1 = q_end (q_grows L (k + 1) c (g.1 1)) ∧ q_fw g g' := by
      intro g1 h1 h2
      obtain ⟨g2, f1, f2, f3⟩ := ih (c + 1) F g1 (by omega) (by omega) (by rw [h1, q_grow1_ne (by omega) (by omega)]; exact h78) (fun i z1 z2 => by
        rw [h1, q_grow1_ne (by omega) (by omega)]
        exact hag i (by omega) z2)
      exact ⟨g2, f1, by rw [f2, h1]; rfl, h2.tr f3⟩
    rw [fX12_sunday_48, h78, if_neg (nI_ge (by omega) (by omega)), e_one g hc6 3 (by decide) 3 rfl, Option.bind_some, e_change g hc6 3 (by decide) 3 rfl, c_b2s]
    have eo : (c_si g 1 (24 + 9 * c + 3) (g.1 1 (24 + 9 * c + 3) + 1)).1 1 = q_old (g.1 1) c := e_up _ _ _ _
    generalize hg1 : c_si g 1 (24 + 9 * c + 3) (g.1 1 (24 + 9 * c + 3) + 1) = g1 at *
    have f1 : q_fw g g1 := by rw [← hg1]; exact q_fw.si
    have e3 : g1.1 1 (24 + 9 * c + 3) = g.1 1 (24 + 9 * c + 3) + 1 := by rw [eo]; exact pk_us
    have e2 : g1.1 1 (24 + 9 * c + 2) = g.1 1 (24 + 9 * c + 2) := by rw [eo]; exact pk_un (by omega)
    have non : ¬ (0 < L ∧ (g.1 1 (24 + 9 * c + 3) + 1) - (g.1 1 (24 + 9 * c + 3) + 1) / L * L = 0) → ∃ g', fX12_sunday_93 (fX12_sunday_48 F) L (nI c) g1 = some g' ∧ g'.1 1 = q_end (q_grows L (k + 1) c (g.1 1)) ∧ q_fw g g' := by
      intro hno
      unfold fX12_sunday_93 fX12_sunday_94 fX12_sunday_125
      rw [e_one g1 hc6 2 (by decide) 2 rfl, Option.bind_some, if_pos rfl, e_change g1 hc6 2 (by decide) 2 rfl, c_b2s, c_let_d, nI_1]
      refine next _ ?_ (f1.tr q_fw.si)
      rw [e_up, Int32.or_zero, p_upd_self, eo]
      unfold q_grow1
      rw [if_neg hno]
    rw [e_one g1 hc6 3 (by decide) 3 rfl, Option.bind_some, e3]
    by_cases q0 : L = 0
    · rw [if_pos ((p_pos hL).1.mpr q0)]
      exact non fun z => (p_pos hL).2.mp z.1 q0
    · rw [if_neg (fun z => q0 ((p_pos hL).1.mp z)), if_neg q0]
      by_cases q1 : (g.1 1 (24 + 9 * c + 3) + 1) - (g.1 1 (24 + 9 * c + 3) + 1) / L * L = 0
      · rw [if_pos q1]
        unfold fX12_sunday_94 fX12_sunday_125
        rw [e_one g1 hc6 2 (by decide) 2 rfl, Option.bind_some, if_neg i10, e_one g1 hc6 3 (by decide) 3 rfl, Option.bind_some, e_change g1 hc6 2 (by decide) 2 rfl, c_b2s, c_let_d, nI_1]
        refine next _ ?_ (f1.tr q_fw.si)
        rw [e_up, e2, e3, eo]
        unfold q_grow1
        rw [if_pos ⟨(p_pos hL).2.mpr q0, q1⟩]
      · rw [if_neg q1]
        exact non fun z => q1 z.2
theorem m_takesR {W : (Nat → Int32) → Int32} {L : Int32} {n : Nat} (hn : n < 7) : ∀ (k c F : Nat) (g : c_G), c + k = n → k < F → q_M g W L → q_ok (g.1 1) → g.1 1 78 = nI n →
    ∃ g', fX12_sunday_2 F (nI c) g = (c_b2 (fX12_learnNow g') fun g2003 r2004 => fX12_sunday_48 c_F r2004 0 g2003) ∧ g'.1 1 = q_takes W k c (g.1 1) ∧ q_fw g g' := by
  intro k
  induction k with
  | zero =>
    intro c F g hc hF hM ho h78
    obtain ⟨F, rfl⟩ : ∃ f, F = f + 1 := ⟨F - 1, by omega⟩
    refine ⟨g, ?_, rfl, q_fw.rf g⟩
    rw [fX12_sunday_2, h78, if_pos (nI_le (by omega) (by omega))]
  | succ k ih =>
    intro c F g hc hF hM ho h78
    obtain ⟨F, rfl⟩ : ∃ f, F = f + 1 := ⟨F - 1, by omega⟩
    have hc6 : c < 6 := by omega
    rw [fX12_sunday_2, h78, if_neg (nI_ge (by omega) (by omega)), e_one g hc6 4 (by decide) 4 rfl, Option.bind_some, Option.bind_some]
    unfold q_takes fX12_sunday_35
    by_cases q : g.1 1 (24 + 9 * c + 4) = -1
    · rw [if_pos q, if_pos q, c_let_d, nI_1]
      exact ih (c + 1) F g (by omega) (by omega) hM ho h78
    · rw [if_neg q, if_neg q]
      rcases (ho.1 c hc6).2 with z | ⟨e, he, z⟩
      · exact absurd z q
      · obtain ⟨g1, e1, e2, e3⟩ := m_goesTo hM hc6 he (ho.1 c hc6).1
        have hi : ∀ j, 24 ≤ j → g1.1 1 j = g.1 1 j := fun j hj => by rw [e2]; exact q_take_hi he hj
        obtain ⟨g2, f1, f2, f3⟩ := ih (c + 1) F g1 (by omega) (by omega) (hM.fw e3 (hi 81 (by omega))) (ho.eq (fun i h6 => ⟨hi _ (by omega), hi _ (by omega)⟩) (hi 78 (by omega))) ((hi 78 (by omega)).trans h78)
        rw [z, e1, c_b2s, c_let_d, nI_1, nI_clamp (by omega)]
        exact ⟨g2, f1, by rw [f2, e2], e3.tr f3⟩
theorem m_sunday {g : c_G} {W : (Nat → Int32) → Int32} {L : Int32} (hM : q_M g W L) (hL : p_N L 100) (ho : q_ok (g.1 1)) {b : Nat} (hA : q_Ag b (g.1 1)) (hb : b < 20000) :
    ∃ g', fX12_sunday g = some g' ∧ g'.1 1 = q_sunday W L (g.1 1) ∧ q_fw g g' ∧ q_M g' W L := by
  obtain ⟨n, hn, en⟩ := ho.2
  obtain ⟨g1, e1, e2, e3⟩ := m_takesR (W := W) (L := L) hn n 0 c_F g (by omega) (show n < 5000 by omega) hM ho en
  obtain ⟨t1, t2⟩ := q_takes_hi (W := W) n 0 (g.1 1) (by omega) ho
  have hM1 : q_M g1 W L := hM.fw e3 (by rw [e2, t1 81 (by omega)])
  obtain ⟨g2, f1, f2⟩ := m_learnNow hM1
  have r1 : g2.1 1 = g1.1 1 := f2.row (by decide) (by decide) (by decide)
  obtain ⟨su, h1, h2, h3⟩ := hA
  obtain ⟨g3, k1, k2, k3⟩ := m_grow hL hn n 0 c_F g2 (by omega) (show n < 5000 by omega) (by rw [r1, e2, t1 78 (by omega)]; exact en) (fun i _ hi => by
    obtain ⟨a, a1, a2⟩ := h3 i hi
    exact ⟨a, by omega, by rw [r1, e2, t1 _ (by omega)]; exact a2⟩)
  have er : g3.1 1 = q_sunday W L (g.1 1) := by
    unfold q_sunday
    rw [k2, r1, e2, en, nI_clamp (by omega)]
  have fr : q_fw g g3 := (e3.tr f2.q.w).tr k3
  refine ⟨g3, ?_, er, fr, hM.fw fr (by rw [er]; exact (q_sunday_ok ho).2.2 81 (by omega))⟩
  unfold fX12_sunday
  rw [nI_0] at e1 k1
  rw [e1, f1, c_b2s]
  exact k1
theorem m_sundays {W : (Nat → Int32) → Int32} {L : Int32} (hL : p_N L 100) {k : Nat} (hk : k < 100) {g : c_G} (hM : q_M g W L) (ho : q_ok (g.1 1)) {b : Nat} (hA : q_Ag b (g.1 1)) (hb : b + k < 20000) :
    ∃ g', fX12_sundays g (nI k) = some g' ∧ g'.1 1 = q_sundays W L k (g.1 1) ∧ q_fw g g' ∧ q_M g' W L := by
  have loop : ∀ (d i F : Nat) (g : c_G) (b : Nat), i + d = k → d < F → q_M g W L → q_ok (g.1 1) → q_Ag b (g.1 1) → b + d < 20000 →
      ∃ g', fX12_sundays_2 (nI k) F (nI k) (nI i) g = some g' ∧ g'.1 1 = q_sundays W L d (g.1 1) ∧ q_fw g g' ∧ q_M g' W L := by
    intro d
    induction d with
    | zero =>
      intro i F g b hi hF hM ho hA hb
      obtain ⟨F, rfl⟩ : ∃ f, F = f + 1 := ⟨F - 1, by omega⟩
      refine ⟨g, ?_, rfl, q_fw.rf g, hM⟩
      rw [fX12_sundays_2, if_pos (nI_le (by omega) (by omega))]
    | succ d ih =>
      intro i F g b hi hF hM ho hA hb
      obtain ⟨F, rfl⟩ : ∃ f, F = f + 1 := ⟨F - 1, by omega⟩
      obtain ⟨g1, e1, e2, e3, e4⟩ := m_sunday hM hL ho hA (by omega)
      obtain ⟨g2, f1, f2, f3, f4⟩ := ih (i + 1) F g1 (b + 1) (by omega) (by omega) e4 (by rw [e2]; exact (q_sunday_ok ho).1) (by rw [e2]; exact q_sunday_Ag hA (by omega) ho) (by omega)
      refine ⟨g2, ?_, by rw [f2, e2]; rfl, e3.tr f3, f4⟩
      rw [fX12_sundays_2, if_neg (nI_ge (by omega) (by omega)), e1, Option.bind_some, c_let_d, nI_1]
      exact f1
  unfold fX12_sundays
  exact loop k 0 c_F g b (by omega) (show k < 5000 by omega) hM ho hA hb
