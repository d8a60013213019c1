theorem n_la {T0 X : List c_T} (k : Nat) (h : X.length = k) : (T0 ++ X).length = T0.length + k := by rw [List.length_append, h]
theorem n_lp {T0 X : List c_T} {x : c_T} : 0 < (T0 ++ (x :: X)).length := by rw [List.length_append]; show 0 < T0.length + (X.length + 1); omega
theorem n_g0 {T0 X : List c_T} {x : c_T} : (T0 ++ (x :: X))[T0.length]? = some x := by rw [List.getElem?_append_right (Nat.le_refl _), Nat.sub_self]; rfl
theorem n_gk {T0 X : List c_T} {x : c_T} {k : Nat} (h : X[k]? = some x) : (T0 ++ X)[T0.length + k]? = some x := by rw [List.getElem?_append_right (Nat.le_add_right _ _), Nat.add_sub_cancel_left]; exact h
theorem n_s0 {T0 X : List c_T} {x y : c_T} : (T0 ++ (x :: X)).set T0.length y = T0 ++ (y :: X) := by rw [List.set_append_right _ _ (Nat.le_refl _), Nat.sub_self]; rfl
def n_Zg (n : Nat) (g : c_G) : Prop := ∀ k, n < k → (∀ j, g.1 k j = 0) ∧ ∀ j, g.2.1 k j = 0
set_option maxRecDepth 100000 in
set_option maxHeartbeats 4000000 in
theorem kX2_init {l : Launch} {D : va_G} {tc : Nat → ClassId} {h0 : Nat} {E : (Nat → Nat) × (Nat → Nat) × Nat} {b : Nat} {T : List c_T} {g : c_G} : n_M l yX2_init wsX2_init 1 0 0 D tc h0 E ([.ref b] : List Value) T T g g := by
  refine n_ofW (bytes := cX2_init) (maxL := 1) (by decide) rfl rfl (Nat.le_of_ble_eq_true rfl) ?_
  intro p e s m below meth c ls K hP hsz hS hl
  obtain ⟨⟨hx, hb, hr, hml, hts, hown, hlk, hK, hE⟩, hC, hin⟩ := id K
  have hl : lv_has ls 1 [(0, .ref b)] := hl
  have hz := hsz
  refine lv_aload_n hx hb dX2_init_0 rfl (lv_at hl 0 rfl) ?_
  refine W.objInit hx hb hown (hts _ (List.mem_of_getElem? (i := 1) rfl)) (hts _ (List.mem_of_getElem? (i := 2) rfl)) (hts _ (List.mem_of_getElem? (i := 3) rfl)) rfl (by rw [hml]; exact hl.1) rfl dX2_init_1 (Nat.le_of_ble_eq_true rfl) (Nat.le_of_ble_eq_true rfl) ?_
  refine W.eq (g2 := F0 m 4 ls []) rfl ?_
  exact n_vret hx hb hr hlk hP hz hS rfl rfl dX2_init_4
set_option maxRecDepth 100000 in
set_option maxHeartbeats 4000000 in
theorem kX1_init {l : Launch} {D : va_G} {tc : Nat → ClassId} {h0 : Nat} {E : (Nat → Nat) × (Nat → Nat) × Nat} {b : Nat} {T : List c_T} {g : c_G} : n_M l yX1_init wsX1_init 2 0 0 D tc h0 E ([.ref b] : List Value) T T g g := by
  refine n_ofW (bytes := cX1_init) (maxL := 1) (by decide) rfl rfl (Nat.le_of_ble_eq_true rfl) ?_
  intro p e s m below meth c ls K hP hsz hS hl
  obtain ⟨⟨hx, hb, hr, hml, hts, hown, hlk, hK, hE⟩, hC, hin⟩ := id K
  have hl : lv_has ls 1 [(0, .ref b)] := hl
  have hz := hsz
  refine lv_aload_n hx hb dX1_init_0 rfl (lv_at hl 0 rfl) ?_
  refine n_go (va_runIN (As := []) (rest := []) ⟨hx, hb, hml, hown, hts⟩ kX2_init (⟨va_cnB 0 hts gX1_init_X2_init_n3 rfl rfl rfl (hC.2 _ (List.mem_of_getElem? (i := 8) rfl)) (hts _ (List.mem_of_getElem? (i := 2) rfl)) (by decide +kernel) ⟨Nat.le_of_ble_eq_true rfl, Nat.le_of_ble_eq_true rfl⟩, rfl, (hts _ (List.mem_of_getElem? (i := 1) rfl))⟩) (n_preS hK hP hE hC hS hz) rfl rfl hl.1 rfl (lv_room (Nat.le_of_ble_eq_true rfl)) dX1_init_1 ⟨Nat.le_of_ble_eq_true rfl, Nat.le_of_ble_eq_true rfl⟩) hS (fun H locs hP hz hS => ?_)
  exact n_vret hx hb hr hlk hP hz hS rfl rfl dX1_init_4
set_option maxRecDepth 100000 in
set_option maxHeartbeats 4000000 in
theorem kX9_init {l : Launch} {D : va_G} {tc : Nat → ClassId} {h0 : Nat} {E : (Nat → Nat) × (Nat → Nat) × Nat} {b : Nat} {T : List c_T} {g : c_G} : n_M l yX9_init wsX9_init 2 0 0 D tc h0 E ([.ref b] : List Value) T T g g := by
  refine n_ofW (bytes := cX9_init) (maxL := 1) (by decide) rfl rfl (Nat.le_of_ble_eq_true rfl) ?_
  intro p e s m below meth c ls K hP hsz hS hl
  obtain ⟨⟨hx, hb, hr, hml, hts, hown, hlk, hK, hE⟩, hC, hin⟩ := id K
  have hl : lv_has ls 1 [(0, .ref b)] := hl
  have hz := hsz
  refine lv_aload_n hx hb dX9_init_0 rfl (lv_at hl 0 rfl) ?_
  refine n_go (va_runIN (As := []) (rest := []) ⟨hx, hb, hml, hown, hts⟩ kX2_init (⟨va_cnB 0 hts gX9_init_X2_init_n1 rfl rfl rfl (hC.2 _ (List.mem_of_getElem? (i := 9) rfl)) (hts _ (List.mem_of_getElem? (i := 2) rfl)) (by decide +kernel) ⟨Nat.le_of_ble_eq_true rfl, Nat.le_of_ble_eq_true rfl⟩, rfl, (hts _ (List.mem_of_getElem? (i := 1) rfl))⟩) (n_preS hK hP hE hC hS hz) rfl rfl hl.1 rfl (lv_room (Nat.le_of_ble_eq_true rfl)) dX9_init_1 ⟨Nat.le_of_ble_eq_true rfl, Nat.le_of_ble_eq_true rfl⟩) hS (fun H locs hP hz hS => ?_)
  exact n_vret hx hb hr hlk hP hz hS rfl rfl dX9_init_4
set_option maxRecDepth 100000 in
set_option maxHeartbeats 4000000 in
theorem kX6_init {l : Launch} {D : va_G} {tc : Nat → ClassId} {h0 : Nat} {E : (Nat → Nat) × (Nat → Nat) × Nat} {b : Nat} {T : List c_T} {g : c_G} : n_M l yX6_init wsX6_init 2 0 0 D tc h0 E ([.ref b] : List Value) T T g g := by
  refine n_ofW (bytes := cX6_init) (maxL := 1) (by decide) rfl rfl (Nat.le_of_ble_eq_true rfl) ?_
  intro p e s m below meth c ls K hP hsz hS hl
  obtain ⟨⟨hx, hb, hr, hml, hts, hown, hlk, hK, hE⟩, hC, hin⟩ := id K
  have hl : lv_has ls 1 [(0, .ref b)] := hl
  have hz := hsz
  refine lv_aload_n hx hb dX6_init_0 rfl (lv_at hl 0 rfl) ?_
  refine n_go (va_runIN (As := []) (rest := []) ⟨hx, hb, hml, hown, hts⟩ kX2_init (⟨va_cnB 0 hts gX6_init_X2_init_n3 rfl rfl rfl (hC.2 _ (List.mem_of_getElem? (i := 10) rfl)) (hts _ (List.mem_of_getElem? (i := 2) rfl)) (by decide +kernel) ⟨Nat.le_of_ble_eq_true rfl, Nat.le_of_ble_eq_true rfl⟩, rfl, (hts _ (List.mem_of_getElem? (i := 1) rfl))⟩) (n_preS hK hP hE hC hS hz) rfl rfl hl.1 rfl (lv_room (Nat.le_of_ble_eq_true rfl)) dX6_init_1 ⟨Nat.le_of_ble_eq_true rfl, Nat.le_of_ble_eq_true rfl⟩) hS (fun H locs hP hz hS => ?_)
  exact n_vret hx hb hr hlk hP hz hS rfl rfl dX6_init_4
set_option maxRecDepth 100000 in
set_option maxHeartbeats 4000000 in
theorem kX3_init {l : Launch} {D : va_G} {tc : Nat → ClassId} {h0 : Nat} {E : (Nat → Nat) × (Nat → Nat) × Nat} {b : Nat} {T : List c_T} {g : c_G} : n_M l yX3_init wsX3_init 3 0 0 D tc h0 E ([.ref b] : List Value) T T g g := by
  refine n_ofW (bytes := cX3_init) (maxL := 1) (by decide) rfl rfl (Nat.le_of_ble_eq_true rfl) ?_
  intro p e s m below meth c ls K hP hsz hS hl
  obtain ⟨⟨hx, hb, hr, hml, hts, hown, hlk, hK, hE⟩, hC, hin⟩ := id K
  have hl : lv_has ls 1 [(0, .ref b)] := hl
  have hz := hsz
  refine lv_aload_n hx hb dX3_init_0 rfl (lv_at hl 0 rfl) ?_
  refine n_go (va_runIN (As := []) (rest := []) ⟨hx, hb, hml, hown, hts⟩ kX1_init (⟨va_cnB 0 hts gX3_init_X1_init_n3 rfl rfl rfl (hC.2 _ (List.mem_of_getElem? (i := 11) rfl)) (hts _ (List.mem_of_getElem? (i := 2) rfl)) (by decide +kernel) ⟨Nat.le_of_ble_eq_true rfl, Nat.le_of_ble_eq_true rfl⟩, rfl, (hts _ (List.mem_of_getElem? (i := 1) rfl))⟩) (n_preS hK hP hE hC hS hz) rfl rfl hl.1 rfl (lv_room (Nat.le_of_ble_eq_true rfl)) dX3_init_1 ⟨Nat.le_of_ble_eq_true rfl, Nat.le_of_ble_eq_true rfl⟩) hS (fun H locs hP hz hS => ?_)
  exact n_vret hx hb hr hlk hP hz hS rfl rfl dX3_init_4
set_option maxRecDepth 100000 in
set_option maxHeartbeats 4000000 in
theorem kX4_init {l : Launch} {D : va_G} {tc : Nat → ClassId} {h0 : Nat} {E : (Nat → Nat) × (Nat → Nat) × Nat} {b : Nat} {T : List c_T} {g : c_G} : n_M l yX4_init wsX4_init 3 0 0 D tc h0 E ([.ref b] : List Value) T T g g := by
  refine n_ofW (bytes := cX4_init) (maxL := 1) (by decide) rfl rfl (Nat.le_of_ble_eq_true rfl) ?_
  intro p e s m below meth c ls K hP hsz hS hl
  obtain ⟨⟨hx, hb, hr, hml, hts, hown, hlk, hK, hE⟩, hC, hin⟩ := id K
  have hl : lv_has ls 1 [(0, .ref b)] := hl
  have hz := hsz
  refine lv_aload_n hx hb dX4_init_0 rfl (lv_at hl 0 rfl) ?_
  refine n_go (va_runIN (As := []) (rest := []) ⟨hx, hb, hml, hown, hts⟩ kX9_init (⟨va_cnB 0 hts gX4_init_X9_init_n1 rfl rfl rfl (hC.2 _ (List.mem_of_getElem? (i := 12) rfl)) (hts _ (List.mem_of_getElem? (i := 2) rfl)) (by decide +kernel) ⟨Nat.le_of_ble_eq_true rfl, Nat.le_of_ble_eq_true rfl⟩, rfl, (hts _ (List.mem_of_getElem? (i := 1) rfl))⟩) (n_preS hK hP hE hC hS hz) rfl rfl hl.1 rfl (lv_room (Nat.le_of_ble_eq_true rfl)) dX4_init_1 ⟨Nat.le_of_ble_eq_true rfl, Nat.le_of_ble_eq_true rfl⟩) hS (fun H locs hP hz hS => ?_)
  exact n_vret hx hb hr hlk hP hz hS rfl rfl dX4_init_4
set_option maxRecDepth 100000 in
set_option maxHeartbeats 4000000 in
theorem kX8_init {l : Launch} {D : va_G} {tc : Nat → ClassId} {h0 : Nat} {E : (Nat → Nat) × (Nat → Nat) × Nat} {b : Nat} {T : List c_T} {g : c_G} : n_M l yX8_init wsX8_init 3 0 0 D tc h0 E ([.ref b] : List Value) T T g g := by
  refine n_ofW (bytes := cX8_init) (maxL := 1) (by decide) rfl rfl (Nat.le_of_ble_eq_true rfl) ?_
  intro p e s m below meth c ls K hP hsz hS hl
  obtain ⟨⟨hx, hb, hr, hml, hts, hown, hlk, hK, hE⟩, hC, hin⟩ := id K
  have hl : lv_has ls 1 [(0, .ref b)] := hl
  have hz := hsz
  refine lv_aload_n hx hb dX8_init_0 rfl (lv_at hl 0 rfl) ?_
  refine n_go (va_runIN (As := []) (rest := []) ⟨hx, hb, hml, hown, hts⟩ kX6_init (⟨va_cnB 0 hts gX8_init_X6_init_n3 rfl rfl rfl (hC.2 _ (List.mem_of_getElem? (i := 13) rfl)) (hts _ (List.mem_of_getElem? (i := 2) rfl)) (by decide +kernel) ⟨Nat.le_of_ble_eq_true rfl, Nat.le_of_ble_eq_true rfl⟩, rfl, (hts _ (List.mem_of_getElem? (i := 1) rfl))⟩) (n_preS hK hP hE hC hS hz) rfl rfl hl.1 rfl (lv_room (Nat.le_of_ble_eq_true rfl)) dX8_init_1 ⟨Nat.le_of_ble_eq_true rfl, Nat.le_of_ble_eq_true rfl⟩) hS (fun H locs hP hz hS => ?_)
  exact n_vret hx hb hr hlk hP hz hS rfl rfl dX8_init_4
theorem i_X0_init_X0 : ∀ w ∈ u_ws RX0 TX0 4, w ∈ wsX0_init := c_inP [6, 7, 8, 9] (by decide +kernel)
set_option maxRecDepth 100000 in
set_option maxHeartbeats 4000000 in
theorem kX0_init {l : Launch} {D : va_G} {tc : Nat → ClassId} {h0 : Nat} {E : (Nat → Nat) × (Nat → Nat) × Nat} {T0 : List c_T} {g : c_G}  (hg : n_Zg T0.length g) : n_M l yX0_init wsX0_init 1 1 20 D tc h0 E ([.ref (n_ad h0 T0.length)] : List Value) (T0 ++ [(0, 0, [0, 0, 0, 2])]) (T0 ++ ([(0, 0, [0, 0, 0, (T0.length + 1) + 3]), (1, 20, [])] : List c_T)) g g := by
  refine n_ofW (bytes := cX0_init) (maxL := 1) (by decide) rfl rfl (Nat.le_of_ble_eq_true rfl) ?_
  intro p e s m below meth c ls K hP hsz hS hl
  obtain ⟨⟨hx, hb, hr, hml, hts, hown, hlk, hK, hE⟩, hC, hin⟩ := id K
  have hl : lv_has ls 1 [(0, .ref (n_ad h0 T0.length))] := hl
  have hz := hsz
  refine lv_aload_n hx hb dX0_init_0 rfl (lv_at hl 0 rfl) ?_
  refine W.objInit hx hb hown (hts _ (List.mem_of_getElem? (i := 1) rfl)) (hts _ (List.mem_of_getElem? (i := 2) rfl)) (hts _ (List.mem_of_getElem? (i := 3) rfl)) rfl (by rw [hml]; exact hl.1) rfl dX0_init_1 (Nat.le_of_ble_eq_true rfl) (Nat.le_of_ble_eq_true rfl) ?_
  refine W.eq (g2 := F0 m 4 ls []) rfl ?_
  refine lv_aload_n hx hb dX0_init_4 rfl (lv_at hl 0 rfl) ?_
  refine lv_bipush (v := (20 : Int32)) hx hb dX0_init_5 (by decide) ?_
  refine n_newI hx hb (hts _ (List.mem_of_getElem? (i := 4) rfl)) hK hP hz hS (fun j => (hg _ (by rw [n_la (T0 := T0) (X := [(0, 0, [0, 0, 0, 2])]) 1 rfl]; omega)).1 j) 20 (by decide) (by decide) (by decide) (Nat.le_of_ble_eq_true rfl) (Nat.le_of_ble_eq_true rfl) dX0_init_7 (fun H hP hz hS => ?_)
  rw [n_la (T0 := T0) (X := [(0, 0, [0, 0, 0, 2])]) 1 rfl]
  rw [List.append_assoc] at hP hz
  have hP : va_P D vwCl (c_ws tc (n_ad h0) (T0 ++ ([(0, 0, [0, 0, 0, 2]), (1, 20, [])] : List c_T)) g) H := hP
  have hz : H.size = h0 + (T0 ++ ([(0, 0, [0, 0, 0, 2]), (1, 20, [])] : List c_T)).length := hz
  refine n_putF (T' := (T0 ++ ([(0, 0, [0, 0, 0, (T0.length + 1) + 3]), (1, 20, [])] : List c_T))) (fl := [0, 0, 0, 2]) hx hb hts i_X0_init_X0 tyX0 tyX0_ok nmX0 hown hK hP hS T0.length n_g0 rfl 3 (by decide) (hts _ (List.mem_of_getElem? (i := 5) rfl)) (fun _ h9 => h9) rfl hin rfl (ty := (.array .int)) (by decide +kernel) rfl rfl (Nat.le_of_ble_eq_true rfl) ((T0.length + 1) + 3) rfl n_s0 dX0_init_9 (fun H locs hP hS => ?_)
  have hP : va_P D vwCl (c_ws tc (n_ad h0) (T0 ++ ([(0, 0, [0, 0, 0, (T0.length + 1) + 3]), (1, 20, [])] : List c_T)) g) H := hP
  refine n_hz hP n_lp (by rw [hsz]; show h0 + (T0 ++ _ : List c_T).length + 1 = _; rw [n_la (T0 := T0) 1 rfl, n_la (T0 := T0) 2 rfl]; omega) (fun hz => ?_)
  exact n_vret hx hb hr hlk hP hz hS rfl rfl dX0_init_12
theorem i_X5_init_X5 : ∀ w ∈ u_ws RX5 TX5 4, w ∈ wsX5_init := c_inP [8, 9, 10, 11] (by decide +kernel)
set_option maxRecDepth 100000 in
set_option maxHeartbeats 4000000 in
theorem kX5_init {l : Launch} {D : va_G} {tc : Nat → ClassId} {h0 : Nat} {E : (Nat → Nat) × (Nat → Nat) × Nat} {T0 : List c_T} {g : c_G} {a1 : Int32} {N : Nat} (h1 : ¬ a1 < 0) (h2 : a1.toNatClampNeg = N) (h3 : N ≤ 100) (hg : n_Zg T0.length g) : n_M l yX5_init wsX5_init 1 3 (N + N + N) D tc h0 E ([.ref (n_ad h0 T0.length), .int a1] : List Value) (T0 ++ [(0, 5, [2, 2, 2, 0])]) (T0 ++ ([(0, 5, [(T0.length + 1) + 3, (T0.length + 2) + 3, (T0.length + 3) + 3, 0]), (1, N, []), (1, N, []), (1, N, [])] : List c_T)) g g := by
  refine n_ofW (bytes := cX5_init) (maxL := 2) (by decide) rfl rfl (Nat.le_of_ble_eq_true rfl) ?_
  intro p e s m below meth c ls K hP hsz hS hl
  obtain ⟨⟨hx, hb, hr, hml, hts, hown, hlk, hK, hE⟩, hC, hin⟩ := id K
  have hl : lv_has ls 2 [(0, .ref (n_ad h0 T0.length)), (1, .int a1)] := hl
  have hz := hsz
  refine lv_aload_n hx hb dX5_init_0 rfl (lv_at hl 0 rfl) ?_
  refine W.objInit hx hb hown (hts _ (List.mem_of_getElem? (i := 1) rfl)) (hts _ (List.mem_of_getElem? (i := 2) rfl)) (hts _ (List.mem_of_getElem? (i := 3) rfl)) rfl (by rw [hml]; exact hl.1) rfl dX5_init_1 (Nat.le_of_ble_eq_true rfl) (Nat.le_of_ble_eq_true rfl) ?_
  refine W.eq (g2 := F0 m 4 ls []) rfl ?_
  refine lv_aload_n hx hb dX5_init_4 rfl (lv_at hl 0 rfl) ?_
  refine lv_iload_n hx hb dX5_init_5 rfl (lv_at hl 1 rfl) ?_
  refine n_newI hx hb (hts _ (List.mem_of_getElem? (i := 4) rfl)) hK hP hz hS (fun j => (hg _ (by rw [n_la (T0 := T0) (X := [(0, 5, [2, 2, 2, 0])]) 1 rfl]; omega)).1 j) N h1 h2 (by omega) (Nat.le_of_ble_eq_true rfl) (by show 0 + N ≤ N + N + N; omega) dX5_init_6 (fun H hP hz hS => ?_)
  rw [n_la (T0 := T0) (X := [(0, 5, [2, 2, 2, 0])]) 1 rfl]
  rw [List.append_assoc] at hP hz
  have hP : va_P D vwCl (c_ws tc (n_ad h0) (T0 ++ ([(0, 5, [2, 2, 2, 0]), (1, N, [])] : List c_T)) g) H := hP
  have hz : H.size = h0 + (T0 ++ ([(0, 5, [2, 2, 2, 0]), (1, N, [])] : List c_T)).length := hz
  refine n_putF (T' := (T0 ++ ([(0, 5, [(T0.length + 1) + 3, 2, 2, 0]), (1, N, [])] : List c_T))) (fl := [2, 2, 2, 0]) hx hb hts i_X5_init_X5 tyX5 tyX5_ok nmX5 hown hK hP hS T0.length n_g0 rfl 0 (by decide) (hts _ (List.mem_of_getElem? (i := 5) rfl)) (fun _ h9 => h9) rfl hin rfl (ty := (.array .int)) (by decide +kernel) rfl rfl (Nat.le_of_ble_eq_true rfl) ((T0.length + 1) + 3) rfl n_s0 dX5_init_8 (fun H locs hP hS => ?_)
  have hP : va_P D vwCl (c_ws tc (n_ad h0) (T0 ++ ([(0, 5, [(T0.length + 1) + 3, 2, 2, 0]), (1, N, [])] : List c_T)) g) H := hP
  refine n_hz hP n_lp (by rw [hsz]; show h0 + (T0 ++ _ : List c_T).length + 1 = _; rw [n_la (T0 := T0) 1 rfl, n_la (T0 := T0) 2 rfl]; omega) (fun hz => ?_)
  refine lv_aload_n hx hb dX5_init_11 rfl (lv_at hl 0 rfl) ?_
  refine lv_iload_n hx hb dX5_init_12 rfl (lv_at hl 1 rfl) ?_
  refine n_newI hx hb (hts _ (List.mem_of_getElem? (i := 4) rfl)) hK hP hz hS (fun j => (hg _ (by rw [n_la (T0 := T0) (X := [(0, 5, [(T0.length + 1) + 3, 2, 2, 0]), (1, N, [])]) 2 rfl]; omega)).1 j) N h1 h2 (by omega) (Nat.le_of_ble_eq_true rfl) (by show 0 + N + N ≤ N + N + N; omega) dX5_init_13 (fun H hP hz hS => ?_)
  rw [n_la (T0 := T0) (X := [(0, 5, [(T0.length + 1) + 3, 2, 2, 0]), (1, N, [])]) 2 rfl]
  rw [List.append_assoc] at hP hz
  have hP : va_P D vwCl (c_ws tc (n_ad h0) (T0 ++ ([(0, 5, [(T0.length + 1) + 3, 2, 2, 0]), (1, N, []), (1, N, [])] : List c_T)) g) H := hP
  have hz : H.size = h0 + (T0 ++ ([(0, 5, [(T0.length + 1) + 3, 2, 2, 0]), (1, N, []), (1, N, [])] : List c_T)).length := hz
  refine n_putF (T' := (T0 ++ ([(0, 5, [(T0.length + 1) + 3, (T0.length + 2) + 3, 2, 0]), (1, N, []), (1, N, [])] : List c_T))) (fl := [(T0.length + 1) + 3, 2, 2, 0]) hx hb hts i_X5_init_X5 tyX5 tyX5_ok nmX5 hown hK hP hS T0.length n_g0 rfl 1 (by decide) (hts _ (List.mem_of_getElem? (i := 6) rfl)) (fun _ h9 => h9) rfl hin rfl (ty := (.array .int)) (by decide +kernel) rfl rfl (Nat.le_of_ble_eq_true rfl) ((T0.length + 2) + 3) rfl n_s0 dX5_init_15 (fun H locs hP hS => ?_)
  have hP : va_P D vwCl (c_ws tc (n_ad h0) (T0 ++ ([(0, 5, [(T0.length + 1) + 3, (T0.length + 2) + 3, 2, 0]), (1, N, []), (1, N, [])] : List c_T)) g) H := hP
  refine n_hz hP n_lp (by rw [hsz]; show h0 + (T0 ++ _ : List c_T).length + 2 = _; rw [n_la (T0 := T0) 1 rfl, n_la (T0 := T0) 3 rfl]; omega) (fun hz => ?_)
  refine lv_aload_n hx hb dX5_init_18 rfl (lv_at hl 0 rfl) ?_
  refine lv_iload_n hx hb dX5_init_19 rfl (lv_at hl 1 rfl) ?_
  refine n_newI hx hb (hts _ (List.mem_of_getElem? (i := 4) rfl)) hK hP hz hS (fun j => (hg _ (by rw [n_la (T0 := T0) (X := [(0, 5, [(T0.length + 1) + 3, (T0.length + 2) + 3, 2, 0]), (1, N, []), (1, N, [])]) 3 rfl]; omega)).1 j) N h1 h2 (by omega) (Nat.le_of_ble_eq_true rfl) (by show 0 + N + N + N ≤ N + N + N; omega) dX5_init_20 (fun H hP hz hS => ?_)
  rw [n_la (T0 := T0) (X := [(0, 5, [(T0.length + 1) + 3, (T0.length + 2) + 3, 2, 0]), (1, N, []), (1, N, [])]) 3 rfl]
  rw [List.append_assoc] at hP hz
  have hP : va_P D vwCl (c_ws tc (n_ad h0) (T0 ++ ([(0, 5, [(T0.length + 1) + 3, (T0.length + 2) + 3, 2, 0]), (1, N, []), (1, N, []), (1, N, [])] : List c_T)) g) H := hP
  have hz : H.size = h0 + (T0 ++ ([(0, 5, [(T0.length + 1) + 3, (T0.length + 2) + 3, 2, 0]), (1, N, []), (1, N, []), (1, N, [])] : List c_T)).length := hz
  refine n_putF (T' := (T0 ++ ([(0, 5, [(T0.length + 1) + 3, (T0.length + 2) + 3, (T0.length + 3) + 3, 0]), (1, N, []), (1, N, []), (1, N, [])] : List c_T))) (fl := [(T0.length + 1) + 3, (T0.length + 2) + 3, 2, 0]) hx hb hts i_X5_init_X5 tyX5 tyX5_ok nmX5 hown hK hP hS T0.length n_g0 rfl 2 (by decide) (hts _ (List.mem_of_getElem? (i := 7) rfl)) (fun _ h9 => h9) rfl hin rfl (ty := (.array .int)) (by decide +kernel) rfl rfl (Nat.le_of_ble_eq_true rfl) ((T0.length + 3) + 3) rfl n_s0 dX5_init_22 (fun H locs hP hS => ?_)
  have hP : va_P D vwCl (c_ws tc (n_ad h0) (T0 ++ ([(0, 5, [(T0.length + 1) + 3, (T0.length + 2) + 3, (T0.length + 3) + 3, 0]), (1, N, []), (1, N, []), (1, N, [])] : List c_T)) g) H := hP
  refine n_hz hP n_lp (by rw [hsz]; show h0 + (T0 ++ _ : List c_T).length + 3 = _; rw [n_la (T0 := T0) 1 rfl, n_la (T0 := T0) 4 rfl]; omega) (fun hz => ?_)
  exact n_vret hx hb hr hlk hP hz hS rfl (by omega) dX5_init_25
theorem i_X10_init_X10 : ∀ w ∈ u_ws RX10 TX10 8, w ∈ wsX10_init := c_inP [10, 11, 12, 13, 14, 15, 16, 17] (by decide +kernel)
set_option maxRecDepth 100000 in
set_option maxHeartbeats 4000000 in
theorem kX10_init {l : Launch} {D : va_G} {tc : Nat → ClassId} {h0 : Nat} {E : (Nat → Nat) × (Nat → Nat) × Nat} {T0 : List c_T} {g : c_G}  (hg : n_Zg T0.length g) : n_M l yX10_init wsX10_init 1 4 400 D tc h0 E ([.ref (n_ad h0 T0.length)] : List Value) (T0 ++ [(0, 10, [2, 0, 0, 2, 2, 2, 0, 0])]) (T0 ++ ([(0, 10, [(T0.length + 1) + 3, 0, 0, (T0.length + 2) + 3, (T0.length + 3) + 3, (T0.length + 4) + 3, 0, 0]), (3, 100, []), (1, 100, []), (1, 100, []), (1, 100, [])] : List c_T)) g g := by
  refine n_ofW (bytes := cX10_init) (maxL := 1) (by decide) rfl rfl (Nat.le_of_ble_eq_true rfl) ?_
  intro p e s m below meth c ls K hP hsz hS hl
  obtain ⟨⟨hx, hb, hr, hml, hts, hown, hlk, hK, hE⟩, hC, hin⟩ := id K
  have hl : lv_has ls 1 [(0, .ref (n_ad h0 T0.length))] := hl
  have hz := hsz
  refine lv_aload_n hx hb dX10_init_0 rfl (lv_at hl 0 rfl) ?_
  refine W.objInit hx hb hown (hts _ (List.mem_of_getElem? (i := 1) rfl)) (hts _ (List.mem_of_getElem? (i := 2) rfl)) (hts _ (List.mem_of_getElem? (i := 3) rfl)) rfl (by rw [hml]; exact hl.1) rfl dX10_init_1 (Nat.le_of_ble_eq_true rfl) (Nat.le_of_ble_eq_true rfl) ?_
  refine W.eq (g2 := F0 m 4 ls []) rfl ?_
  refine lv_aload_n hx hb dX10_init_4 rfl (lv_at hl 0 rfl) ?_
  refine lv_bipush (v := (100 : Int32)) hx hb dX10_init_5 (by decide) ?_
  refine n_newB hx hb (hts _ (List.mem_of_getElem? (i := 4) rfl)) hK hP hz hS (fun j => (hg _ (by rw [n_la (T0 := T0) (X := [(0, 10, [2, 0, 0, 2, 2, 2, 0, 0])]) 1 rfl]; omega)).1 j) 100 (by decide) (by decide) (by decide) (Nat.le_of_ble_eq_true rfl) (Nat.le_of_ble_eq_true rfl) dX10_init_7 (fun H hP hz hS => ?_)
  rw [n_la (T0 := T0) (X := [(0, 10, [2, 0, 0, 2, 2, 2, 0, 0])]) 1 rfl]
  rw [List.append_assoc] at hP hz
  have hP : va_P D vwCl (c_ws tc (n_ad h0) (T0 ++ ([(0, 10, [2, 0, 0, 2, 2, 2, 0, 0]), (3, 100, [])] : List c_T)) g) H := hP
  have hz : H.size = h0 + (T0 ++ ([(0, 10, [2, 0, 0, 2, 2, 2, 0, 0]), (3, 100, [])] : List c_T)).length := hz
  refine n_putF (T' := (T0 ++ ([(0, 10, [(T0.length + 1) + 3, 0, 0, 2, 2, 2, 0, 0]), (3, 100, [])] : List c_T))) (fl := [2, 0, 0, 2, 2, 2, 0, 0]) hx hb hts i_X10_init_X10 tyX10 tyX10_ok nmX10 hown hK hP hS T0.length n_g0 rfl 0 (by decide) (hts _ (List.mem_of_getElem? (i := 5) rfl)) (fun _ h9 => h9) rfl hin rfl (ty := (.array .byte)) (by decide +kernel) rfl rfl (Nat.le_of_ble_eq_true rfl) ((T0.length + 1) + 3) rfl n_s0 dX10_init_9 (fun H locs hP hS => ?_)
  have hP : va_P D vwCl (c_ws tc (n_ad h0) (T0 ++ ([(0, 10, [(T0.length + 1) + 3, 0, 0, 2, 2, 2, 0, 0]), (3, 100, [])] : List c_T)) g) H := hP
  refine n_hz hP n_lp (by rw [hsz]; show h0 + (T0 ++ _ : List c_T).length + 1 = _; rw [n_la (T0 := T0) 1 rfl, n_la (T0 := T0) 2 rfl]; omega) (fun hz => ?_)
  refine lv_aload_n hx hb dX10_init_12 rfl (lv_at hl 0 rfl) ?_
  refine lv_bipush (v := (100 : Int32)) hx hb dX10_init_13 (by decide) ?_
  refine n_newI hx hb (hts _ (List.mem_of_getElem? (i := 6) rfl)) hK hP hz hS (fun j => (hg _ (by rw [n_la (T0 := T0) (X := [(0, 10, [(T0.length + 1) + 3, 0, 0, 2, 2, 2, 0, 0]), (3, 100, [])]) 2 rfl]; omega)).1 j) 100 (by decide) (by decide) (by decide) (Nat.le_of_ble_eq_true rfl) (Nat.le_of_ble_eq_true rfl) dX10_init_15 (fun H hP hz hS => ?_)
  rw [n_la (T0 := T0) (X := [(0, 10, [(T0.length + 1) + 3, 0, 0, 2, 2, 2, 0, 0]), (3, 100, [])]) 2 rfl]
  rw [List.append_assoc] at hP hz
  have hP : va_P D vwCl (c_ws tc (n_ad h0) (T0 ++ ([(0, 10, [(T0.length + 1) + 3, 0, 0, 2, 2, 2, 0, 0]), (3, 100, []), (1, 100, [])] : List c_T)) g) H := hP
  have hz : H.size = h0 + (T0 ++ ([(0, 10, [(T0.length + 1) + 3, 0, 0, 2, 2, 2, 0, 0]), (3, 100, []), (1, 100, [])] : List c_T)).length := hz
  refine n_putF (T' := (T0 ++ ([(0, 10, [(T0.length + 1) + 3, 0, 0, (T0.length + 2) + 3, 2, 2, 0, 0]), (3, 100, []), (1, 100, [])] : List c_T))) (fl := [(T0.length + 1) + 3, 0, 0, 2, 2, 2, 0, 0]) hx hb hts i_X10_init_X10 tyX10 tyX10_ok nmX10 hown hK hP hS T0.length n_g0 rfl 3 (by decide) (hts _ (List.mem_of_getElem? (i := 7) rfl)) (fun _ h9 => h9) rfl hin rfl (ty := (.array .int)) (by decide +kernel) rfl rfl (Nat.le_of_ble_eq_true rfl) ((T0.length + 2) + 3) rfl n_s0 dX10_init_17 (fun H locs hP hS => ?_)
  have hP : va_P D vwCl (c_ws tc (n_ad h0) (T0 ++ ([(0, 10, [(T0.length + 1) + 3, 0, 0, (T0.length + 2) + 3, 2, 2, 0, 0]), (3, 100, []), (1, 100, [])] : List c_T)) g) H := hP
  refine n_hz hP n_lp (by rw [hsz]; show h0 + (T0 ++ _ : List c_T).length + 2 = _; rw [n_la (T0 := T0) 1 rfl, n_la (T0 := T0) 3 rfl]; omega) (fun hz => ?_)
  refine lv_aload_n hx hb dX10_init_20 rfl (lv_at hl 0 rfl) ?_
  refine lv_bipush (v := (100 : Int32)) hx hb dX10_init_21 (by decide) ?_
  refine n_newI hx hb (hts _ (List.mem_of_getElem? (i := 6) rfl)) hK hP hz hS (fun j => (hg _ (by rw [n_la (T0 := T0) (X := [(0, 10, [(T0.length + 1) + 3, 0, 0, (T0.length + 2) + 3, 2, 2, 0, 0]), (3, 100, []), (1, 100, [])]) 3 rfl]; omega)).1 j) 100 (by decide) (by decide) (by decide) (Nat.le_of_ble_eq_true rfl) (Nat.le_of_ble_eq_true rfl) dX10_init_23 (fun H hP hz hS => ?_)
  rw [n_la (T0 := T0) (X := [(0, 10, [(T0.length + 1) + 3, 0, 0, (T0.length + 2) + 3, 2, 2, 0, 0]), (3, 100, []), (1, 100, [])]) 3 rfl]
  rw [List.append_assoc] at hP hz
  have hP : va_P D vwCl (c_ws tc (n_ad h0) (T0 ++ ([(0, 10, [(T0.length + 1) + 3, 0, 0, (T0.length + 2) + 3, 2, 2, 0, 0]), (3, 100, []), (1, 100, []), (1, 100, [])] : List c_T)) g) H := hP
  have hz : H.size = h0 + (T0 ++ ([(0, 10, [(T0.length + 1) + 3, 0, 0, (T0.length + 2) + 3, 2, 2, 0, 0]), (3, 100, []), (1, 100, []), (1, 100, [])] : List c_T)).length := hz
  refine n_putF (T' := (T0 ++ ([(0, 10, [(T0.length + 1) + 3, 0, 0, (T0.length + 2) + 3, (T0.length + 3) + 3, 2, 0, 0]), (3, 100, []), (1, 100, []), (1, 100, [])] : List c_T))) (fl := [(T0.length + 1) + 3, 0, 0, (T0.length + 2) + 3, 2, 2, 0, 0]) hx hb hts i_X10_init_X10 tyX10 tyX10_ok nmX10 hown hK hP hS T0.length n_g0 rfl 4 (by decide) (hts _ (List.mem_of_getElem? (i := 8) rfl)) (fun _ h9 => h9) rfl hin rfl (ty := (.array .int)) (by decide +kernel) rfl rfl (Nat.le_of_ble_eq_true rfl) ((T0.length + 3) + 3) rfl n_s0 dX10_init_25 (fun H locs hP hS => ?_)
  have hP : va_P D vwCl (c_ws tc (n_ad h0) (T0 ++ ([(0, 10, [(T0.length + 1) + 3, 0, 0, (T0.length + 2) + 3, (T0.length + 3) + 3, 2, 0, 0]), (3, 100, []), (1, 100, []), (1, 100, [])] : List c_T)) g) H := hP
  refine n_hz hP n_lp (by rw [hsz]; show h0 + (T0 ++ _ : List c_T).length + 3 = _; rw [n_la (T0 := T0) 1 rfl, n_la (T0 := T0) 4 rfl]; omega) (fun hz => ?_)
  refine lv_aload_n hx hb dX10_init_28 rfl (lv_at hl 0 rfl) ?_
  refine lv_bipush (v := (100 : Int32)) hx hb dX10_init_29 (by decide) ?_
  refine n_newI hx hb (hts _ (List.mem_of_getElem? (i := 6) rfl)) hK hP hz hS (fun j => (hg _ (by rw [n_la (T0 := T0) (X := [(0, 10, [(T0.length + 1) + 3, 0, 0, (T0.length + 2) + 3, (T0.length + 3) + 3, 2, 0, 0]), (3, 100, []), (1, 100, []), (1, 100, [])]) 4 rfl]; omega)).1 j) 100 (by decide) (by decide) (by decide) (Nat.le_of_ble_eq_true rfl) (Nat.le_of_ble_eq_true rfl) dX10_init_31 (fun H hP hz hS => ?_)
  rw [n_la (T0 := T0) (X := [(0, 10, [(T0.length + 1) + 3, 0, 0, (T0.length + 2) + 3, (T0.length + 3) + 3, 2, 0, 0]), (3, 100, []), (1, 100, []), (1, 100, [])]) 4 rfl]
  rw [List.append_assoc] at hP hz
  have hP : va_P D vwCl (c_ws tc (n_ad h0) (T0 ++ ([(0, 10, [(T0.length + 1) + 3, 0, 0, (T0.length + 2) + 3, (T0.length + 3) + 3, 2, 0, 0]), (3, 100, []), (1, 100, []), (1, 100, []), (1, 100, [])] : List c_T)) g) H := hP
  have hz : H.size = h0 + (T0 ++ ([(0, 10, [(T0.length + 1) + 3, 0, 0, (T0.length + 2) + 3, (T0.length + 3) + 3, 2, 0, 0]), (3, 100, []), (1, 100, []), (1, 100, []), (1, 100, [])] : List c_T)).length := hz
  refine n_putF (T' := (T0 ++ ([(0, 10, [(T0.length + 1) + 3, 0, 0, (T0.length + 2) + 3, (T0.length + 3) + 3, (T0.length + 4) + 3, 0, 0]), (3, 100, []), (1, 100, []), (1, 100, []), (1, 100, [])] : List c_T))) (fl := [(T0.length + 1) + 3, 0, 0, (T0.length + 2) + 3, (T0.length + 3) + 3, 2, 0, 0]) hx hb hts i_X10_init_X10 tyX10 tyX10_ok nmX10 hown hK hP hS T0.length n_g0 rfl 5 (by decide) (hts _ (List.mem_of_getElem? (i := 9) rfl)) (fun _ h9 => h9) rfl hin rfl (ty := (.array .int)) (by decide +kernel) rfl rfl (Nat.le_of_ble_eq_true rfl) ((T0.length + 4) + 3) rfl n_s0 dX10_init_33 (fun H locs hP hS => ?_)
  have hP : va_P D vwCl (c_ws tc (n_ad h0) (T0 ++ ([(0, 10, [(T0.length + 1) + 3, 0, 0, (T0.length + 2) + 3, (T0.length + 3) + 3, (T0.length + 4) + 3, 0, 0]), (3, 100, []), (1, 100, []), (1, 100, []), (1, 100, [])] : List c_T)) g) H := hP
  refine n_hz hP n_lp (by rw [hsz]; show h0 + (T0 ++ _ : List c_T).length + 4 = _; rw [n_la (T0 := T0) 1 rfl, n_la (T0 := T0) 5 rfl]; omega) (fun hz => ?_)
  exact n_vret hx hb hr hlk hP hz hS rfl rfl dX10_init_36
