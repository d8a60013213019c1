/-! PURE: numbers, and the row that a state of the class stands for -/
def p_N (x : Int32) (n : Nat) : Prop := ∃ k, k < n ∧ x = nI k
def p_O (x : Int32) (n : Nat) : Prop := x = -1 ∨ p_N x n
def p_or (x : Int32) : Int32 := if x = -1 then -5 else x
def p_un (x : Int32) : Int32 := if x = -5 then -1 else x
theorem p_lit (n : Nat) : (OfNat.ofNat n : Int32) = nI n := rfl
theorem p_0 : (0 : Int32) = nI 0 := rfl
theorem p_1 : (1 : Int32) = nI 1 := rfl
theorem p_in {k n : Nat} (h : k < n) (hn : n < 2 ^ 31) : c_in (nI k) n = true := by
  simp only [c_in, Bool.and_eq_true, decide_eq_true_eq]
  exact ⟨nI_pos' (by omega), by rw [nI_clamp (by omega)]; exact h⟩
theorem p_ix (x : Int32) {n : Nat} (hn : n < 2 ^ 31) : x < 0 ∨ nI n ≤ x ∨ p_N x n := by
  rcases pk_ix x hn with h | h | ⟨j, h1, h2⟩
  · exact Or.inl h
  · exact Or.inr (Or.inl h)
  · exact Or.inr (Or.inr ⟨j, h1, h2⟩)
theorem p_neg {x : Int32} (h : x < 0) : ∀ k : Nat, k < 2 ^ 31 → ¬ x = nI k := by
  intro k hk e
  subst e
  exact nI_pos hk h
theorem p_nle {x : Int32} {n : Nat} (h : x < 0) (hn : n < 2 ^ 31) : ¬ nI n ≤ x := by
  intro q
  have h1 := Int32.lt_iff_toInt_lt.mp h
  have h2 := Int32.le_iff_toInt_le.mp q
  rw [nI_toInt hn] at h2
  have h3 : (0 : Int32).toInt = 0 := rfl
  omega
theorem p_ge {x : Int32} {n : Nat} (h : nI n ≤ x) (hn : n < 2 ^ 31) : ¬ x < 0 := fun q => p_nle q hn h
theorem p_ltge {x : Int32} {n : Nat} (h : nI n ≤ x) {k : Nat} (hk : k < n) (hn : n < 2 ^ 31) : ¬ x ≤ nI k := by
  intro q
  have h1 := Int32.le_iff_toInt_le.mp h
  have h2 := Int32.le_iff_toInt_le.mp q
  rw [nI_toInt hn] at h1
  rw [nI_toInt (by omega)] at h2
  omega
theorem p_or_un {x : Int32} (h : ¬ x = -1) : p_or (p_un x) = x := by
  unfold p_or p_un
  by_cases q : x = -5
  · subst q; rfl
  · rw [if_neg q, if_neg h]
theorem p_un_or {x : Int32} (h : ¬ x = -5) : p_un (p_or x) = x := by
  unfold p_or p_un
  by_cases q : x = -1
  · subst q; rfl
  · rw [if_neg q, if_neg h]
theorem p_un_eq {x : Int32} (h : ¬ x = -1) : p_un x = -1 ↔ x = -5 := by
  unfold p_un
  by_cases q : x = -5
  · simp [q]
  · simp [q, h]
theorem p_un_nI {k : Nat} (hk : k < 2 ^ 31) : p_un (nI k) = nI k := by
  unfold p_un
  rw [if_neg (fun e => p_neg (by decide : (-5 : Int32) < 0) k hk e.symm)]
theorem p_or_nI {k : Nat} (hk : k < 2 ^ 31) : p_or (nI k) = nI k := by
  unfold p_or
  rw [if_neg (fun e => p_neg (by decide : (-1 : Int32) < 0) k hk e.symm)]
/-- the number of the valley that holds, 0 the bare one -/
def p_rule (h : Nat) : Int32 := if h = 51 then 0 else nI ((h - 27) / 4 + 1)
/-- where the k-th of the 136 numbers that the reference keeps lies in the class's state: the handle behind the state's, the place, and whether -5 stands for -1 -/
def p_of (k : Nat) : Nat :=
  if k < 24 then k % 4 + 1 else if k < 78 then (if (k - 24) % 9 < 5 then (k - 24) % 9 + 5 else 10) else if k < 81 then 0 else if k = 82 then 11 else if k < 98 then 12 + (k - 83) % 3 else if k = 98 then 15 else if k < 119 then 16 + (k - 99) % 2 else if k = 119 then 19 else 20 + (k - 120) % 2
def p_xi (k : Nat) : Nat :=
  if k < 24 then k / 4 else if k < 78 then (if (k - 24) % 9 < 5 then (k - 24) / 9 else 4 * ((k - 24) / 9) + ((k - 24) % 9 - 5)) else if k = 78 then 6 else if k = 79 then 4 else if k = 80 then 5 else if k = 82 then 3 else if k < 98 then (k - 83) / 3 else if k = 98 then 3 else if k < 119 then (k - 99) / 2 else if k = 119 then 3 else (k - 120) / 2
def p_isun (k : Nat) : Bool :=
  if k < 24 then (k % 4 == 1 || k % 4 == 2) else if k < 78 then (k - 24) % 9 == 4 else if k < 83 then false else if k < 98 then (k - 83) % 3 == 2 else if k < 120 then false else (k - 120) % 2 == 1
def p_tr (k : Nat) (x : Int32) : Int32 := if p_isun k = true then p_un x else x
/-- the row of 136 numbers that the reference keeps, out of the class's state at handle s -/
def p_al (g : c_G) (s k : Nat) : Int32 := if k = 81 then p_rule (g.2.2 s) else if k < 136 then p_tr k (g.1 (s + p_of k) (p_xi k)) else 0
theorem p_of_lt : ∀ k, k < 136 → p_of k < 23 := by decide +kernel
def p_locOK (k j : Nat) : Bool := k == 81 || j == 81 || k == j || p_of k != p_of j || p_xi k != p_xi j
theorem p_loc_all : ∀ k, k < 136 → ∀ j, j < 136 → p_locOK k j = true := by decide +kernel
theorem p_loc_inj (k : Nat) (hk : k < 136) (j : Nat) (hj : j < 136) (h1 : k ≠ 81) (h2 : j ≠ 81) (h3 : p_of k = p_of j) (h4 : p_xi k = p_xi j) : k = j := by
  have h := p_loc_all k hk j hj
  simpa [p_locOK, h1, h2, h3, h4] using h
theorem p_si (g : c_G) (h k : Nat) (v : Int32) (a j : Nat) : (c_si g h k v).1 a j = if a = h ∧ j = k then v else g.1 a j := by
  unfold c_si c_sr upd
  by_cases e : a = h
  · subst e
    by_cases e2 : j = k <;> simp [e2]
  · simp [e]
theorem p_si2 (g : c_G) (h k : Nat) (v : Int32) : (c_si g h k v).2 = g.2 := rfl
theorem p_sr (g : c_G) (h : Nat) (f : Nat → Int32) (a j : Nat) : (c_sr g h f).1 a j = if a = h then f j else g.1 a j := by
  unfold c_sr
  by_cases e : a = h <;> simp [e]
theorem p_sr2 (g : c_G) (h : Nat) (f : Nat → Int32) : (c_sr g h f).2 = g.2 := rfl
theorem p_so1 (g : c_G) (h r : Nat) : (c_so g h r).1 = g.1 := rfl
theorem p_sl1 (g : c_G) (h k : Nat) (v : Int64) : (c_sl g h k v).1 = g.1 := rfl
theorem p_al_put (g : c_G) (s K : Nat) (v : Int32) (hK : K < 136) (h81 : K ≠ 81) (k : Nat) : p_al (c_si g (s + p_of K) (p_xi K) v) s k = if k = K then p_tr K v else p_al g s k := by
  unfold p_al
  by_cases e81 : k = 81
  · rw [if_pos e81, if_pos e81, if_neg (by omega)]
    rfl
  · rw [if_neg e81, if_neg e81]
    by_cases hk : k < 136
    · rw [if_pos hk, if_pos hk, p_si]
      by_cases e : k = K
      · subst e
        rw [if_pos ⟨rfl, rfl⟩, if_pos rfl]
      · rw [if_neg e, if_neg (fun q => e (p_loc_inj k hk K hK e81 h81 (by omega) q.2))]
    · rw [if_neg hk, if_neg hk, if_neg (by omega)]
theorem p_al_out (g : c_G) (s h j : Nat) (v : Int32) (hh : h < s ∨ s + 23 ≤ h) (k : Nat) : p_al (c_si g h j v) s k = p_al g s k := by
  unfold p_al
  by_cases e81 : k = 81
  · rw [if_pos e81, if_pos e81]; rfl
  · rw [if_neg e81, if_neg e81]
    by_cases hk : k < 136
    · have := p_of_lt k hk
      rw [if_pos hk, if_pos hk, p_si, if_neg (by omega)]
    · rw [if_neg hk, if_neg hk]
/-- what a state reads as depends on its own 23 handles -/
theorem p_al_eq {g g' : c_G} {s : Nat} (h1 : ∀ a, s ≤ a → a < s + 23 → g'.1 a = g.1 a) (h2 : g'.2.2 s = g.2.2 s) (k : Nat) : p_al g' s k = p_al g s k := by
  unfold p_al
  by_cases e81 : k = 81
  · rw [if_pos e81, if_pos e81, h2]
  · rw [if_neg e81, if_neg e81]
    by_cases hk : k < 136
    · have := p_of_lt k hk
      rw [if_pos hk, if_pos hk, h1 _ (by omega) (by omega)]
    · rw [if_neg hk, if_neg hk]
section AL
variable (g : c_G) (s : Nat)
theorem p_al_look {e : Nat} (h : e < 6) : p_al g s (4 * e) = g.1 (s + 1) e := by
  rcases (show e = 0 ∨ e = 1 ∨ e = 2 ∨ e = 3 ∨ e = 4 ∨ e = 5 by omega) with rfl | rfl | rfl | rfl | rfl | rfl <;> rfl
theorem p_al_name {e : Nat} (h : e < 6) : p_al g s (4 * e + 1) = p_un (g.1 (s + 2) e) := by
  rcases (show e = 0 ∨ e = 1 ∨ e = 2 ∨ e = 3 ∨ e = 4 ∨ e = 5 by omega) with rfl | rfl | rfl | rfl | rfl | rfl <;> rfl
theorem p_al_by {e : Nat} (h : e < 6) : p_al g s (4 * e + 2) = p_un (g.1 (s + 3) e) := by
  rcases (show e = 0 ∨ e = 1 ∨ e = 2 ∨ e = 3 ∨ e = 4 ∨ e = 5 by omega) with rfl | rfl | rfl | rfl | rfl | rfl <;> rfl
theorem p_al_hid {e : Nat} (h : e < 6) : p_al g s (4 * e + 3) = g.1 (s + 4) e := by
  rcases (show e = 0 ∨ e = 1 ∨ e = 2 ∨ e = 3 ∨ e = 4 ∨ e = 5 by omega) with rfl | rfl | rfl | rfl | rfl | rfl <;> rfl
theorem p_al_kind {i : Nat} (h : i < 6) : p_al g s (24 + 9 * i) = g.1 (s + 5) i := by
  rcases (show i = 0 ∨ i = 1 ∨ i = 2 ∨ i = 3 ∨ i = 4 ∨ i = 5 by omega) with rfl | rfl | rfl | rfl | rfl | rfl <;> rfl
theorem p_al_v {i : Nat} (h : i < 6) : p_al g s (24 + 9 * i + 1) = g.1 (s + 6) i := by
  rcases (show i = 0 ∨ i = 1 ∨ i = 2 ∨ i = 3 ∨ i = 4 ∨ i = 5 by omega) with rfl | rfl | rfl | rfl | rfl | rfl <;> rfl
theorem p_al_knows {i : Nat} (h : i < 6) : p_al g s (24 + 9 * i + 2) = g.1 (s + 7) i := by
  rcases (show i = 0 ∨ i = 1 ∨ i = 2 ∨ i = 3 ∨ i = 4 ∨ i = 5 by omega) with rfl | rfl | rfl | rfl | rfl | rfl <;> rfl
theorem p_al_age {i : Nat} (h : i < 6) : p_al g s (24 + 9 * i + 3) = g.1 (s + 8) i := by
  rcases (show i = 0 ∨ i = 1 ∨ i = 2 ∨ i = 3 ∨ i = 4 ∨ i = 5 by omega) with rfl | rfl | rfl | rfl | rfl | rfl <;> rfl
theorem p_al_basket {i : Nat} (h : i < 6) : p_al g s (24 + 9 * i + 4) = p_un (g.1 (s + 9) i) := by
  rcases (show i = 0 ∨ i = 1 ∨ i = 2 ∨ i = 3 ∨ i = 4 ∨ i = 5 by omega) with rfl | rfl | rfl | rfl | rfl | rfl <;> rfl
theorem p_al_row {i q : Nat} (h : i < 6) (hq : q < 4) : p_al g s (24 + 9 * i + (5 + q)) = g.1 (s + 10) (4 * i + q) := by
  rcases (show i = 0 ∨ i = 1 ∨ i = 2 ∨ i = 3 ∨ i = 4 ∨ i = 5 by omega) with rfl | rfl | rfl | rfl | rfl | rfl <;> rcases (show q = 0 ∨ q = 1 ∨ q = 2 ∨ q = 3 by omega) with rfl | rfl | rfl | rfl <;> rfl
theorem p_al_many : p_al g s 78 = g.1 s 6 := rfl
theorem p_al_bar : p_al g s 79 = g.1 s 4 := rfl
theorem p_al_sun : p_al g s 80 = g.1 s 5 := rfl
theorem p_al_rule : p_al g s 81 = p_rule (g.2.2 s) := rfl
theorem p_al_sees : p_al g s 82 = g.1 (s + 11) 3 := rfl
theorem p_al_plans : p_al g s 98 = g.1 (s + 15) 3 := rfl
theorem p_al_books : p_al g s 119 = g.1 (s + 19) 3 := rfl
theorem p_al_hc {r : Nat} (h : r < 5) : p_al g s (83 + 3 * r) = g.1 (s + 12) r := by
  rcases (show r = 0 ∨ r = 1 ∨ r = 2 ∨ r = 3 ∨ r = 4 by omega) with rfl | rfl | rfl | rfl | rfl <;> rfl
theorem p_al_he {r : Nat} (h : r < 5) : p_al g s (83 + 3 * r + 1) = g.1 (s + 13) r := by
  rcases (show r = 0 ∨ r = 1 ∨ r = 2 ∨ r = 3 ∨ r = 4 by omega) with rfl | rfl | rfl | rfl | rfl <;> rfl
theorem p_al_hw {r : Nat} (h : r < 5) : p_al g s (83 + 3 * r + 2) = p_un (g.1 (s + 14) r) := by
  rcases (show r = 0 ∨ r = 1 ∨ r = 2 ∨ r = 3 ∨ r = 4 by omega) with rfl | rfl | rfl | rfl | rfl <;> rfl
theorem p_al_pa {r : Nat} (h : r < 10) : p_al g s (99 + 2 * r) = g.1 (s + 16) r := by
  rcases (show r = 0 ∨ r = 1 ∨ r = 2 ∨ r = 3 ∨ r = 4 ∨ r = 5 ∨ r = 6 ∨ r = 7 ∨ r = 8 ∨ r = 9 by omega) with rfl | rfl | rfl | rfl | rfl | rfl | rfl | rfl | rfl | rfl <;> rfl
theorem p_al_pb {r : Nat} (h : r < 10) : p_al g s (99 + 2 * r + 1) = g.1 (s + 17) r := by
  rcases (show r = 0 ∨ r = 1 ∨ r = 2 ∨ r = 3 ∨ r = 4 ∨ r = 5 ∨ r = 6 ∨ r = 7 ∨ r = 8 ∨ r = 9 by omega) with rfl | rfl | rfl | rfl | rfl | rfl | rfl | rfl | rfl | rfl <;> rfl
theorem p_al_ba {r : Nat} (h : r < 8) : p_al g s (120 + 2 * r) = g.1 (s + 20) r := by
  rcases (show r = 0 ∨ r = 1 ∨ r = 2 ∨ r = 3 ∨ r = 4 ∨ r = 5 ∨ r = 6 ∨ r = 7 by omega) with rfl | rfl | rfl | rfl | rfl | rfl | rfl | rfl <;> rfl
theorem p_al_bb {r : Nat} (h : r < 8) : p_al g s (120 + 2 * r + 1) = p_un (g.1 (s + 21) r) := by
  rcases (show r = 0 ∨ r = 1 ∨ r = 2 ∨ r = 3 ∨ r = 4 ∨ r = 5 ∨ r = 6 ∨ r = 7 by omega) with rfl | rfl | rfl | rfl | rfl | rfl | rfl | rfl <;> rfl
end AL
