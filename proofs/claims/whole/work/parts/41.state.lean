/-! PURE: what a state of the class is to the reference's row, and how a write shows in it -/
def p_ok (k : Nat) (x : Int32) : Prop :=
  if k < 24 then (if k % 4 = 0 then p_N x 10 else if k % 4 = 1 then p_O x 12 else if k % 4 = 2 then p_O x 6 else p_N x 2)
  else if k < 78 then (if (k - 24) % 9 = 0 then p_N x 7 else if (k - 24) % 9 = 1 then p_N x 10 else if (k - 24) % 9 = 2 then p_N x 4096 else if (k - 24) % 9 = 3 then p_N x 20000 else if (k - 24) % 9 = 4 then p_O x 6 else p_N x 10)
  else if k = 78 then p_N x 7 else if k = 79 then p_N x 4096 else if k = 80 then p_N x 20000 else if k = 81 then p_N x 7 else if k = 82 then p_N x 6
  else if k < 98 then (if (k - 83) % 3 = 2 then p_O x 12 else p_N x 6)
  else if k = 98 then p_N x 11 else if k < 119 then (if (k - 99) % 2 = 0 then p_N x 4 else True)
  else if k = 119 then p_N x 9 else (if (k - 120) % 2 = 0 then p_N x 6 else p_O x 12)
/-- a row of the plan -/
def p_pl (a b : Int32) : Prop := (a = 1 → ∃ c e : Nat, c < 6 ∧ e < 6 ∧ b = nI (10 * c + e)) ∧ (a = 2 ∨ a = 3 → p_N b 6)
def p_Inv (m : Nat → Int32) : Prop := (∀ k, k < 136 → p_ok k (m k)) ∧ ∀ r, r < 10 → p_pl (m (99 + 2 * r)) (m (99 + 2 * r + 1))
def p_raw (g : c_G) (s : Nat) : Prop := ∀ k, k < 136 → p_isun k = true → ¬ g.1 (s + p_of k) (p_xi k) = -1
def p_St (g : c_G) (s : Nat) (m : Nat → Int32) : Prop := (∀ k, m k = p_al g s k) ∧ p_raw g s ∧ p_Inv m ∧ c_isV (g.2.2 s) = true
theorem p_isun_81 : p_isun 81 = false := rfl
theorem p_Inv.put {m : Nat → Int32} (h : p_Inv m) {K : Nat} {v : Int32} (hv : p_ok K v) (hp : K < 99 ∨ 118 < K) : p_Inv (upd m K v) := by
  refine ⟨fun k hk => ?_, fun r hr => ?_⟩
  · by_cases e : k = K
    · subst e; rw [pk_us]; exact hv
    · rw [pk_un e]; exact h.1 k hk
  · rw [pk_un (by omega), pk_un (by omega)]
    exact h.2 r hr
theorem p_raw.put {g : c_G} {s : Nat} (h : p_raw g s) {K : Nat} {v : Int32} (hK : K < 136) (h81 : K ≠ 81) (hv : p_isun K = true → ¬ v = -1) : p_raw (c_si g (s + p_of K) (p_xi K) v) s := by
  intro k hk hu
  rw [p_si]
  by_cases e : k = K
  · subst e
    rw [if_pos ⟨rfl, rfl⟩]
    exact hv hu
  · have e81 : k ≠ 81 := fun q => by rw [q, p_isun_81] at hu; cases hu
    rw [if_neg (fun q => e (p_loc_inj k hk K hK e81 h81 (by omega) q.2))]
    exact h k hk hu
theorem p_St.put {g : c_G} {s : Nat} {m : Nat → Int32} (h : p_St g s m) {K : Nat} {v : Int32} (hK : K < 136) (h81 : K ≠ 81) (hv : p_ok K (p_tr K v)) (hr : p_isun K = true → ¬ v = -1) (hp : K < 99 ∨ 118 < K) : p_St (c_si g (s + p_of K) (p_xi K) v) s (upd m K (p_tr K v)) := by
  refine ⟨fun k => ?_, h.2.1.put hK h81 hr, h.2.2.1.put hv hp, h.2.2.2⟩
  rw [p_al_put g s K v hK h81 k]
  by_cases e : k = K
  · subst e; rw [pk_us, if_pos rfl]
  · rw [pk_un e, if_neg e]; exact h.1 k
theorem p_St.eq {g g' : c_G} {s : Nat} {m : Nat → Int32} (h : p_St g s m) (h1 : ∀ a, s ≤ a → a < s + 23 → g'.1 a = g.1 a) (h2 : g'.2.2 s = g.2.2 s) : p_St g' s m := by
  refine ⟨fun k => by rw [p_al_eq h1 h2]; exact h.1 k, fun k hk hu => ?_, h.2.2.1, by rw [h2]; exact h.2.2.2⟩
  have := p_of_lt k hk
  rw [h1 _ (by omega) (by omega)]
  exact h.2.1 k hk hu
theorem p_St.out {g : c_G} {s : Nat} {m : Nat → Int32} (h : p_St g s m) {a j : Nat} {v : Int32} (ha : a < s ∨ s + 23 ≤ a) : p_St (c_si g a j v) s m :=
  h.eq (fun b h1 h2 => c_sr_ne (by omega)) rfl
theorem p_pt_look {g : c_G} {s : Nat} {m : Nat → Int32} (h : p_St g s m) {v : Int32} {e : Nat} (he : e < 6) (hv : p_N v 10) : p_St (c_si g (s + 1) (e) v) s (upd m (4 * e) (v)) := by
  rcases (show e = 0 ∨ e = 1 ∨ e = 2 ∨ e = 3 ∨ e = 4 ∨ e = 5 by omega) with rfl | rfl | rfl | rfl | rfl | rfl
  · exact h.put (K := 0) (by decide) (by decide) hv (fun q => by cases q) (by decide)
  · exact h.put (K := 4) (by decide) (by decide) hv (fun q => by cases q) (by decide)
  · exact h.put (K := 8) (by decide) (by decide) hv (fun q => by cases q) (by decide)
  · exact h.put (K := 12) (by decide) (by decide) hv (fun q => by cases q) (by decide)
  · exact h.put (K := 16) (by decide) (by decide) hv (fun q => by cases q) (by decide)
  · exact h.put (K := 20) (by decide) (by decide) hv (fun q => by cases q) (by decide)
theorem p_pt_name {g : c_G} {s : Nat} {m : Nat → Int32} (h : p_St g s m) {v : Int32} {e : Nat} (he : e < 6) (hv : p_O (p_un v) 12) (hr : ¬ v = -1) : p_St (c_si g (s + 2) (e) v) s (upd m (4 * e + 1) (p_un v)) := by
  rcases (show e = 0 ∨ e = 1 ∨ e = 2 ∨ e = 3 ∨ e = 4 ∨ e = 5 by omega) with rfl | rfl | rfl | rfl | rfl | rfl
  · exact h.put (K := 1) (by decide) (by decide) hv (fun _ => hr) (by decide)
  · exact h.put (K := 5) (by decide) (by decide) hv (fun _ => hr) (by decide)
  · exact h.put (K := 9) (by decide) (by decide) hv (fun _ => hr) (by decide)
  · exact h.put (K := 13) (by decide) (by decide) hv (fun _ => hr) (by decide)
  · exact h.put (K := 17) (by decide) (by decide) hv (fun _ => hr) (by decide)
  · exact h.put (K := 21) (by decide) (by decide) hv (fun _ => hr) (by decide)
theorem p_pt_by {g : c_G} {s : Nat} {m : Nat → Int32} (h : p_St g s m) {v : Int32} {e : Nat} (he : e < 6) (hv : p_O (p_un v) 6) (hr : ¬ v = -1) : p_St (c_si g (s + 3) (e) v) s (upd m (4 * e + 2) (p_un v)) := by
  rcases (show e = 0 ∨ e = 1 ∨ e = 2 ∨ e = 3 ∨ e = 4 ∨ e = 5 by omega) with rfl | rfl | rfl | rfl | rfl | rfl
  · exact h.put (K := 2) (by decide) (by decide) hv (fun _ => hr) (by decide)
  · exact h.put (K := 6) (by decide) (by decide) hv (fun _ => hr) (by decide)
  · exact h.put (K := 10) (by decide) (by decide) hv (fun _ => hr) (by decide)
  · exact h.put (K := 14) (by decide) (by decide) hv (fun _ => hr) (by decide)
  · exact h.put (K := 18) (by decide) (by decide) hv (fun _ => hr) (by decide)
  · exact h.put (K := 22) (by decide) (by decide) hv (fun _ => hr) (by decide)
theorem p_pt_hid {g : c_G} {s : Nat} {m : Nat → Int32} (h : p_St g s m) {v : Int32} {e : Nat} (he : e < 6) (hv : p_N v 2) : p_St (c_si g (s + 4) (e) v) s (upd m (4 * e + 3) (v)) := by
  rcases (show e = 0 ∨ e = 1 ∨ e = 2 ∨ e = 3 ∨ e = 4 ∨ e = 5 by omega) with rfl | rfl | rfl | rfl | rfl | rfl
  · exact h.put (K := 3) (by decide) (by decide) hv (fun q => by cases q) (by decide)
  · exact h.put (K := 7) (by decide) (by decide) hv (fun q => by cases q) (by decide)
  · exact h.put (K := 11) (by decide) (by decide) hv (fun q => by cases q) (by decide)
  · exact h.put (K := 15) (by decide) (by decide) hv (fun q => by cases q) (by decide)
  · exact h.put (K := 19) (by decide) (by decide) hv (fun q => by cases q) (by decide)
  · exact h.put (K := 23) (by decide) (by decide) hv (fun q => by cases q) (by decide)
theorem p_pt_kind {g : c_G} {s : Nat} {m : Nat → Int32} (h : p_St g s m) {v : Int32} {i : Nat} (hi : i < 6) (hv : p_N v 7) : p_St (c_si g (s + 5) (i) v) s (upd m (24 + 9 * i) (v)) := by
  rcases (show i = 0 ∨ i = 1 ∨ i = 2 ∨ i = 3 ∨ i = 4 ∨ i = 5 by omega) with rfl | rfl | rfl | rfl | rfl | rfl
  · exact h.put (K := 24) (by decide) (by decide) hv (fun q => by cases q) (by decide)
  · exact h.put (K := 33) (by decide) (by decide) hv (fun q => by cases q) (by decide)
  · exact h.put (K := 42) (by decide) (by decide) hv (fun q => by cases q) (by decide)
  · exact h.put (K := 51) (by decide) (by decide) hv (fun q => by cases q) (by decide)
  · exact h.put (K := 60) (by decide) (by decide) hv (fun q => by cases q) (by decide)
  · exact h.put (K := 69) (by decide) (by decide) hv (fun q => by cases q) (by decide)
theorem p_pt_v {g : c_G} {s : Nat} {m : Nat → Int32} (h : p_St g s m) {v : Int32} {i : Nat} (hi : i < 6) (hv : p_N v 10) : p_St (c_si g (s + 6) (i) v) s (upd m (24 + 9 * i + 1) (v)) := by
  rcases (show i = 0 ∨ i = 1 ∨ i = 2 ∨ i = 3 ∨ i = 4 ∨ i = 5 by omega) with rfl | rfl | rfl | rfl | rfl | rfl
  · exact h.put (K := 25) (by decide) (by decide) hv (fun q => by cases q) (by decide)
  · exact h.put (K := 34) (by decide) (by decide) hv (fun q => by cases q) (by decide)
  · exact h.put (K := 43) (by decide) (by decide) hv (fun q => by cases q) (by decide)
  · exact h.put (K := 52) (by decide) (by decide) hv (fun q => by cases q) (by decide)
  · exact h.put (K := 61) (by decide) (by decide) hv (fun q => by cases q) (by decide)
  · exact h.put (K := 70) (by decide) (by decide) hv (fun q => by cases q) (by decide)
theorem p_pt_knows {g : c_G} {s : Nat} {m : Nat → Int32} (h : p_St g s m) {v : Int32} {i : Nat} (hi : i < 6) (hv : p_N v 4096) : p_St (c_si g (s + 7) (i) v) s (upd m (24 + 9 * i + 2) (v)) := by
  rcases (show i = 0 ∨ i = 1 ∨ i = 2 ∨ i = 3 ∨ i = 4 ∨ i = 5 by omega) with rfl | rfl | rfl | rfl | rfl | rfl
  · exact h.put (K := 26) (by decide) (by decide) hv (fun q => by cases q) (by decide)
  · exact h.put (K := 35) (by decide) (by decide) hv (fun q => by cases q) (by decide)
  · exact h.put (K := 44) (by decide) (by decide) hv (fun q => by cases q) (by decide)
  · exact h.put (K := 53) (by decide) (by decide) hv (fun q => by cases q) (by decide)
  · exact h.put (K := 62) (by decide) (by decide) hv (fun q => by cases q) (by decide)
  · exact h.put (K := 71) (by decide) (by decide) hv (fun q => by cases q) (by decide)
theorem p_pt_age {g : c_G} {s : Nat} {m : Nat → Int32} (h : p_St g s m) {v : Int32} {i : Nat} (hi : i < 6) (hv : p_N v 20000) : p_St (c_si g (s + 8) (i) v) s (upd m (24 + 9 * i + 3) (v)) := by
  rcases (show i = 0 ∨ i = 1 ∨ i = 2 ∨ i = 3 ∨ i = 4 ∨ i = 5 by omega) with rfl | rfl | rfl | rfl | rfl | rfl
  · exact h.put (K := 27) (by decide) (by decide) hv (fun q => by cases q) (by decide)
  · exact h.put (K := 36) (by decide) (by decide) hv (fun q => by cases q) (by decide)
  · exact h.put (K := 45) (by decide) (by decide) hv (fun q => by cases q) (by decide)
  · exact h.put (K := 54) (by decide) (by decide) hv (fun q => by cases q) (by decide)
  · exact h.put (K := 63) (by decide) (by decide) hv (fun q => by cases q) (by decide)
  · exact h.put (K := 72) (by decide) (by decide) hv (fun q => by cases q) (by decide)
theorem p_pt_basket {g : c_G} {s : Nat} {m : Nat → Int32} (h : p_St g s m) {v : Int32} {i : Nat} (hi : i < 6) (hv : p_O (p_un v) 6) (hr : ¬ v = -1) : p_St (c_si g (s + 9) (i) v) s (upd m (24 + 9 * i + 4) (p_un v)) := by
  rcases (show i = 0 ∨ i = 1 ∨ i = 2 ∨ i = 3 ∨ i = 4 ∨ i = 5 by omega) with rfl | rfl | rfl | rfl | rfl | rfl
  · exact h.put (K := 28) (by decide) (by decide) hv (fun _ => hr) (by decide)
  · exact h.put (K := 37) (by decide) (by decide) hv (fun _ => hr) (by decide)
  · exact h.put (K := 46) (by decide) (by decide) hv (fun _ => hr) (by decide)
  · exact h.put (K := 55) (by decide) (by decide) hv (fun _ => hr) (by decide)
  · exact h.put (K := 64) (by decide) (by decide) hv (fun _ => hr) (by decide)
  · exact h.put (K := 73) (by decide) (by decide) hv (fun _ => hr) (by decide)
theorem p_pt_row {g : c_G} {s : Nat} {m : Nat → Int32} (h : p_St g s m) {v : Int32} {i q : Nat} (hi : i < 6) (hq : q < 4) (hv : p_N v 10) : p_St (c_si g (s + 10) (4 * i + q) v) s (upd m (24 + 9 * i + (5 + q)) (v)) := by
  rcases (show i = 0 ∨ i = 1 ∨ i = 2 ∨ i = 3 ∨ i = 4 ∨ i = 5 by omega) with rfl | rfl | rfl | rfl | rfl | rfl
  · rcases (show q = 0 ∨ q = 1 ∨ q = 2 ∨ q = 3 by omega) with rfl | rfl | rfl | rfl
    · exact h.put (K := 29) (by decide) (by decide) hv (fun q => by cases q) (by decide)
    · exact h.put (K := 30) (by decide) (by decide) hv (fun q => by cases q) (by decide)
    · exact h.put (K := 31) (by decide) (by decide) hv (fun q => by cases q) (by decide)
    · exact h.put (K := 32) (by decide) (by decide) hv (fun q => by cases q) (by decide)
  · rcases (show q = 0 ∨ q = 1 ∨ q = 2 ∨ q = 3 by omega) with rfl | rfl | rfl | rfl
    · exact h.put (K := 38) (by decide) (by decide) hv (fun q => by cases q) (by decide)
    · exact h.put (K := 39) (by decide) (by decide) hv (fun q => by cases q) (by decide)
    · exact h.put (K := 40) (by decide) (by decide) hv (fun q => by cases q) (by decide)
    · exact h.put (K := 41) (by decide) (by decide) hv (fun q => by cases q) (by decide)
  · rcases (show q = 0 ∨ q = 1 ∨ q = 2 ∨ q = 3 by omega) with rfl | rfl | rfl | rfl
    · exact h.put (K := 47) (by decide) (by decide) hv (fun q => by cases q) (by decide)
    · exact h.put (K := 48) (by decide) (by decide) hv (fun q => by cases q) (by decide)
    · exact h.put (K := 49) (by decide) (by decide) hv (fun q => by cases q) (by decide)
    · exact h.put (K := 50) (by decide) (by decide) hv (fun q => by cases q) (by decide)
  · rcases (show q = 0 ∨ q = 1 ∨ q = 2 ∨ q = 3 by omega) with rfl | rfl | rfl | rfl
    · exact h.put (K := 56) (by decide) (by decide) hv (fun q => by cases q) (by decide)
    · exact h.put (K := 57) (by decide) (by decide) hv (fun q => by cases q) (by decide)
    · exact h.put (K := 58) (by decide) (by decide) hv (fun q => by cases q) (by decide)
    · exact h.put (K := 59) (by decide) (by decide) hv (fun q => by cases q) (by decide)
  · rcases (show q = 0 ∨ q = 1 ∨ q = 2 ∨ q = 3 by omega) with rfl | rfl | rfl | rfl
    · exact h.put (K := 65) (by decide) (by decide) hv (fun q => by cases q) (by decide)
    · exact h.put (K := 66) (by decide) (by decide) hv (fun q => by cases q) (by decide)
    · exact h.put (K := 67) (by decide) (by decide) hv (fun q => by cases q) (by decide)
    · exact h.put (K := 68) (by decide) (by decide) hv (fun q => by cases q) (by decide)
  · rcases (show q = 0 ∨ q = 1 ∨ q = 2 ∨ q = 3 by omega) with rfl | rfl | rfl | rfl
    · exact h.put (K := 74) (by decide) (by decide) hv (fun q => by cases q) (by decide)
    · exact h.put (K := 75) (by decide) (by decide) hv (fun q => by cases q) (by decide)
    · exact h.put (K := 76) (by decide) (by decide) hv (fun q => by cases q) (by decide)
    · exact h.put (K := 77) (by decide) (by decide) hv (fun q => by cases q) (by decide)
theorem p_pt_many {g : c_G} {s : Nat} {m : Nat → Int32} (h : p_St g s m) {v : Int32}  (hv : p_N v 7) : p_St (c_si g (s + 0) (6) v) s (upd m (78) (v)) := by
  exact h.put (K := 78) (by decide) (by decide) hv (fun q => by cases q) (by decide)
theorem p_pt_bar {g : c_G} {s : Nat} {m : Nat → Int32} (h : p_St g s m) {v : Int32}  (hv : p_N v 4096) : p_St (c_si g (s + 0) (4) v) s (upd m (79) (v)) := by
  exact h.put (K := 79) (by decide) (by decide) hv (fun q => by cases q) (by decide)
theorem p_pt_sun {g : c_G} {s : Nat} {m : Nat → Int32} (h : p_St g s m) {v : Int32}  (hv : p_N v 20000) : p_St (c_si g (s + 0) (5) v) s (upd m (80) (v)) := by
  exact h.put (K := 80) (by decide) (by decide) hv (fun q => by cases q) (by decide)
theorem p_pt_sees {g : c_G} {s : Nat} {m : Nat → Int32} (h : p_St g s m) {v : Int32}  (hv : p_N v 6) : p_St (c_si g (s + 11) (3) v) s (upd m (82) (v)) := by
  exact h.put (K := 82) (by decide) (by decide) hv (fun q => by cases q) (by decide)
theorem p_pt_plans {g : c_G} {s : Nat} {m : Nat → Int32} (h : p_St g s m) {v : Int32}  (hv : p_N v 11) : p_St (c_si g (s + 15) (3) v) s (upd m (98) (v)) := by
  exact h.put (K := 98) (by decide) (by decide) hv (fun q => by cases q) (by decide)
theorem p_pt_books {g : c_G} {s : Nat} {m : Nat → Int32} (h : p_St g s m) {v : Int32}  (hv : p_N v 9) : p_St (c_si g (s + 19) (3) v) s (upd m (119) (v)) := by
  exact h.put (K := 119) (by decide) (by decide) hv (fun q => by cases q) (by decide)
theorem p_pt_hc {g : c_G} {s : Nat} {m : Nat → Int32} (h : p_St g s m) {v : Int32} {r : Nat} (hr5 : r < 5) (hv : p_N v 6) : p_St (c_si g (s + 12) (r) v) s (upd m (83 + 3 * r) (v)) := by
  rcases (show r = 0 ∨ r = 1 ∨ r = 2 ∨ r = 3 ∨ r = 4 by omega) with rfl | rfl | rfl | rfl | rfl
  · exact h.put (K := 83) (by decide) (by decide) hv (fun q => by cases q) (by decide)
  · exact h.put (K := 86) (by decide) (by decide) hv (fun q => by cases q) (by decide)
  · exact h.put (K := 89) (by decide) (by decide) hv (fun q => by cases q) (by decide)
  · exact h.put (K := 92) (by decide) (by decide) hv (fun q => by cases q) (by decide)
  · exact h.put (K := 95) (by decide) (by decide) hv (fun q => by cases q) (by decide)
theorem p_pt_he {g : c_G} {s : Nat} {m : Nat → Int32} (h : p_St g s m) {v : Int32} {r : Nat} (hr5 : r < 5) (hv : p_N v 6) : p_St (c_si g (s + 13) (r) v) s (upd m (83 + 3 * r + 1) (v)) := by
  rcases (show r = 0 ∨ r = 1 ∨ r = 2 ∨ r = 3 ∨ r = 4 by omega) with rfl | rfl | rfl | rfl | rfl
  · exact h.put (K := 84) (by decide) (by decide) hv (fun q => by cases q) (by decide)
  · exact h.put (K := 87) (by decide) (by decide) hv (fun q => by cases q) (by decide)
  · exact h.put (K := 90) (by decide) (by decide) hv (fun q => by cases q) (by decide)
  · exact h.put (K := 93) (by decide) (by decide) hv (fun q => by cases q) (by decide)
  · exact h.put (K := 96) (by decide) (by decide) hv (fun q => by cases q) (by decide)
theorem p_pt_hw {g : c_G} {s : Nat} {m : Nat → Int32} (h : p_St g s m) {v : Int32} {r : Nat} (hr5 : r < 5) (hv : p_O (p_un v) 12) (hr : ¬ v = -1) : p_St (c_si g (s + 14) (r) v) s (upd m (83 + 3 * r + 2) (p_un v)) := by
  rcases (show r = 0 ∨ r = 1 ∨ r = 2 ∨ r = 3 ∨ r = 4 by omega) with rfl | rfl | rfl | rfl | rfl
  · exact h.put (K := 85) (by decide) (by decide) hv (fun _ => hr) (by decide)
  · exact h.put (K := 88) (by decide) (by decide) hv (fun _ => hr) (by decide)
  · exact h.put (K := 91) (by decide) (by decide) hv (fun _ => hr) (by decide)
  · exact h.put (K := 94) (by decide) (by decide) hv (fun _ => hr) (by decide)
  · exact h.put (K := 97) (by decide) (by decide) hv (fun _ => hr) (by decide)
theorem p_pt_ba {g : c_G} {s : Nat} {m : Nat → Int32} (h : p_St g s m) {v : Int32} {r : Nat} (hr8 : r < 8) (hv : p_N v 6) : p_St (c_si g (s + 20) (r) v) s (upd m (120 + 2 * r) (v)) := by
  rcases (show r = 0 ∨ r = 1 ∨ r = 2 ∨ r = 3 ∨ r = 4 ∨ r = 5 ∨ r = 6 ∨ r = 7 by omega) with rfl | rfl | rfl | rfl | rfl | rfl | rfl | rfl
  · exact h.put (K := 120) (by decide) (by decide) hv (fun q => by cases q) (by decide)
  · exact h.put (K := 122) (by decide) (by decide) hv (fun q => by cases q) (by decide)
  · exact h.put (K := 124) (by decide) (by decide) hv (fun q => by cases q) (by decide)
  · exact h.put (K := 126) (by decide) (by decide) hv (fun q => by cases q) (by decide)
  · exact h.put (K := 128) (by decide) (by decide) hv (fun q => by cases q) (by decide)
  · exact h.put (K := 130) (by decide) (by decide) hv (fun q => by cases q) (by decide)
  · exact h.put (K := 132) (by decide) (by decide) hv (fun q => by cases q) (by decide)
  · exact h.put (K := 134) (by decide) (by decide) hv (fun q => by cases q) (by decide)
theorem p_pt_bb {g : c_G} {s : Nat} {m : Nat → Int32} (h : p_St g s m) {v : Int32} {r : Nat} (hr8 : r < 8) (hv : p_O (p_un v) 12) (hr : ¬ v = -1) : p_St (c_si g (s + 21) (r) v) s (upd m (120 + 2 * r + 1) (p_un v)) := by
  rcases (show r = 0 ∨ r = 1 ∨ r = 2 ∨ r = 3 ∨ r = 4 ∨ r = 5 ∨ r = 6 ∨ r = 7 by omega) with rfl | rfl | rfl | rfl | rfl | rfl | rfl | rfl
  · exact h.put (K := 121) (by decide) (by decide) hv (fun _ => hr) (by decide)
  · exact h.put (K := 123) (by decide) (by decide) hv (fun _ => hr) (by decide)
  · exact h.put (K := 125) (by decide) (by decide) hv (fun _ => hr) (by decide)
  · exact h.put (K := 127) (by decide) (by decide) hv (fun _ => hr) (by decide)
  · exact h.put (K := 129) (by decide) (by decide) hv (fun _ => hr) (by decide)
  · exact h.put (K := 131) (by decide) (by decide) hv (fun _ => hr) (by decide)
  · exact h.put (K := 133) (by decide) (by decide) hv (fun _ => hr) (by decide)
  · exact h.put (K := 135) (by decide) (by decide) hv (fun _ => hr) (by decide)
