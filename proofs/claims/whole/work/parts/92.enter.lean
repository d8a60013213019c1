theorem l_ap {args : Array Value} {s : State} {ty : FieldType} (h : (Cond.arrayClass ty).before args s = true) : ∃ cA, ArrOfT s cA ty ∧ s.vm.findClass ("[" ++ ty.toString) = some cA := by
  obtain ⟨cA, kA, comp, h1, h2, h3⟩ := Cond.arrayClass_spec h
  exact ⟨cA, fun n z => ⟨fun k q => (by cases q), kA, h2, comp, h3⟩, h1⟩
theorem l_ao {args : Array Value} {s : State} {C : String} (h : (Cond.arrayOver (.object C)).before args s = true) : ∃ cA, ArrOfT s cA (.object C) ∧ va_RA s cA (.object C) := by
  obtain ⟨comp, cA, kA, h1, h2, h3, h4, h5⟩ := Cond.arrayOver_spec h
  exact ⟨cA, fun n z => ⟨fun k q => (by cases q), kA, h3, comp, h4⟩, kA, comp, h3, h4, h1, h5⟩
theorem l_aa {args : Array Value} {s : State} {ty : FieldType} (h : (Cond.arrayOver (.array ty)).before args s = true) : ∃ cA, ArrOfT s cA (.array ty) ∧ s.vm.findClass ("[" ++ (FieldType.array ty).toString) = some cA := by
  obtain ⟨comp, cA, kA, h1, h2, h3, h4, h5⟩ := arrayOverA_spec h
  exact ⟨cA, fun n z => ⟨fun k q => (by cases q), kA, h3, comp, h4⟩, h5⟩
set_option maxRecDepth 100000 in
theorem l_know {b : Nat} {s : State} (hts : ∀ w ∈ lw_tbl, w.before #[Value.ref b] s = true) : ∃ (D : va_G) (tc : Nat → ClassId), va_K D vwCl (c_tys tc) s := by
  obtain ⟨c0, i0, K0⟩ := u_known (C := RX0) (T := TX0) (N := 4) (n := 4) hts lin_X0 (hts (.instantiable RX0 4) (List.mem_of_getElem? (i := 96) (by decide +kernel)))
  obtain ⟨c1, i1, K1⟩ := u_known (C := RX1) (T := TX1) (N := 0) (n := 0) hts lin_X1 (hts (.instantiable RX1 0) (List.mem_of_getElem? (i := 134) (by decide +kernel)))
  obtain ⟨c2, i2, K2⟩ := u_known (C := RX2) (T := TX2) (N := 0) (n := 0) hts lin_X2 (hts (.instantiable RX2 0) (List.mem_of_getElem? (i := 126) (by decide +kernel)))
  obtain ⟨c3, i3, K3⟩ := u_known (C := RX3) (T := TX3) (N := 0) (n := 0) hts lin_X3 (hts (.instantiable RX3 0) (List.mem_of_getElem? (i := 155) (by decide +kernel)))
  obtain ⟨c4, i4, K4⟩ := u_known (C := RX4) (T := TX4) (N := 0) (n := 0) hts lin_X4 (hts (.instantiable RX4 0) (List.mem_of_getElem? (i := 162) (by decide +kernel)))
  obtain ⟨c5, i5, K5⟩ := u_known (C := RX5) (T := TX5) (N := 4) (n := 4) hts lin_X5 (hts (.instantiable RX5 4) (List.mem_of_getElem? (i := 214) (by decide +kernel)))
  obtain ⟨c6, i6, K6⟩ := u_known (C := RX6) (T := TX6) (N := 0) (n := 0) hts lin_X6 (hts (.instantiable RX6 0) (List.mem_of_getElem? (i := 148) (by decide +kernel)))
  obtain ⟨c7, i7, K7⟩ := u_known (C := RX7) (T := TX7) (N := 17) (n := 17) hts lin_X7 (hts (.instantiable RX7 17) (List.mem_of_getElem? (i := 208) (by decide +kernel)))
  obtain ⟨c8, i8, K8⟩ := u_known (C := RX8) (T := TX8) (N := 0) (n := 0) hts lin_X8 (hts (.instantiable RX8 0) (List.mem_of_getElem? (i := 169) (by decide +kernel)))
  obtain ⟨c9, i9, K9⟩ := u_known (C := RX9) (T := TX9) (N := 0) (n := 0) hts lin_X9 (hts (.instantiable RX9 0) (List.mem_of_getElem? (i := 141) (by decide +kernel)))
  obtain ⟨c10, i10, K10⟩ := u_known (C := RX10) (T := TX10) (N := 8) (n := 8) hts lin_X10 (hts (.instantiable RX10 8) (List.mem_of_getElem? (i := 175) (by decide +kernel)))
  obtain ⟨c11, i11, K11⟩ := u_known (C := RX11) (T := TX11) (N := 19) (n := 19) hts lin_X11 (hts (.instantiable RX11 19) (List.mem_of_getElem? (i := 86) (by decide +kernel)))
  obtain ⟨c12, i12, K12⟩ := u_known (C := RX12) (T := TX12) (N := 32) (n := 32) hts lin_X12 (hts (.instantiable RX12 32) (List.mem_of_getElem? (i := 926) (by decide +kernel)))
  obtain ⟨t1, x1, y1⟩ := l_ap (hts (.arrayClass .int) (List.mem_of_getElem? (i := 121) (by decide +kernel)))
  obtain ⟨t2, x2, y2⟩ := l_ap (hts (.arrayClass .long) (List.mem_of_getElem? (i := 132) (by decide +kernel)))
  obtain ⟨t3, x3, y3⟩ := l_ap (hts (.arrayClass .byte) (List.mem_of_getElem? (i := 120) (by decide +kernel)))
  obtain ⟨t4, x4, y4⟩ := l_ap (hts (.arrayClass .char) (List.mem_of_getElem? (i := 1031) (by decide +kernel)))
  obtain ⟨t5, x5, y5⟩ := l_ao (hts (.arrayOver (.object "NamingElders$Child")) (List.mem_of_getElem? (i := 125) (by decide +kernel)))
  obtain ⟨t6, x6, y6⟩ := l_ao (hts (.arrayOver (.object "NamingElders$Valley")) (List.mem_of_getElem? (i := 94) (by decide +kernel)))
  obtain ⟨t7, x7, y7⟩ := l_aa (hts (.arrayOver (.array .long)) (List.mem_of_getElem? (i := 123) (by decide +kernel)))
  refine ⟨((fun k => match k with | 0 => c0 | 1 => c1 | 2 => c2 | 3 => c3 | 4 => c4 | 5 => c5 | 6 => c6 | 7 => c7 | 8 => c8 | 9 => c9 | 10 => c10 | 11 => c11 | _ => c12), (fun k => match k with | 0 => i0 | 1 => i1 | 2 => i2 | 3 => i3 | 4 => i4 | 5 => i5 | 6 => i6 | 7 => i7 | 8 => i8 | 9 => i9 | 10 => i10 | 11 => i11 | _ => i12)), (fun k => match k with | 1 => t1 | 2 => t2 | 3 => t3 | 4 => t4 | 5 => t5 | 6 => t6 | _ => t7), fun k q hq => ?_, fun k q hq => ?_⟩
  · match k, hq with
    | 0, hq => cases hq; exact K0
    | 1, hq => cases hq; exact K1
    | 2, hq => cases hq; exact K2
    | 3, hq => cases hq; exact K3
    | 4, hq => cases hq; exact K4
    | 5, hq => cases hq; exact K5
    | 6, hq => cases hq; exact K6
    | 7, hq => cases hq; exact K7
    | 8, hq => cases hq; exact K8
    | 9, hq => cases hq; exact K9
    | 10, hq => cases hq; exact K10
    | 11, hq => cases hq; exact K11
    | 12, hq => cases hq; exact K12
    | k + 13, hq => simp [vwCl] at hq
  · match k, hq with
    | 0, hq => cases hq; exact ⟨x1, y1⟩
    | 1, hq => cases hq; exact ⟨x2, y2⟩
    | 2, hq => cases hq; exact ⟨x3, y3⟩
    | 3, hq => cases hq; exact ⟨x4, y4⟩
    | 4, hq => cases hq; exact ⟨x5, y5⟩
    | 5, hq => cases hq; exact ⟨x6, y6⟩
    | 6, hq => cases hq; exact ⟨x7, y7⟩
    | k + 7, hq => simp [c_tys] at hq
set_option maxRecDepth 100000 in
set_option maxHeartbeats 4000000 in
theorem l_E {b : Nat} {s : State} (hts : ∀ w ∈ lw_tbl, w.before #[Value.ref b] s = true) (hgv : (Jvm.Cond.and given_1 narrow_1).before #[Value.ref b] s = true) : ∃ E : (Nat → Nat) × (Nat → Nat) × Nat, c_E (n_A s.heap.size) E s s.heap := by
  have hs := flat_of_before _ hgv
  have hA : ∀ a : Nat, a < s.heap.size → ¬ n_A s.heap.size a := fun a h => Nat.not_le.mpr h
  obtain ⟨aK, aV, hV, hev⟩ := vk_Sof (args := #[Value.ref b]) (s := s) (N := 5) (tm := fun i => Term.string "NamingElders$Valley" (c_six i)) (len := c_len) (byt := c_byt) (A := n_A s.heap.size)
    (fun i hi => match i, hi with | 0, _ => by decide | 1, _ => by decide | 2, _ => by decide | 3, _ => by decide | 4, _ => by decide | i + 5, h => absurd h (by omega))
    (fun i hi => match i, hi with | 0, _ => hs _ (by decide +kernel) | 1, _ => hs _ (by decide +kernel) | 2, _ => hs _ (by decide +kernel) | 3, _ => hs _ (by decide +kernel) | 4, _ => hs _ (by decide +kernel) | i + 5, h => absurd h (by omega))
    (fun i hi => match i, hi with | 0, _ => hs _ (by decide +kernel) | 1, _ => hs _ (by decide +kernel) | 2, _ => hs _ (by decide +kernel) | 3, _ => hs _ (by decide +kernel) | 4, _ => hs _ (by decide +kernel) | i + 5, h => absurd h (by omega))
    (fun i hi => match i, hi with | 0, _ => hs _ (by decide +kernel) | 1, _ => hs _ (by decide +kernel) | 2, _ => hs _ (by decide +kernel) | 3, _ => hs _ (by decide +kernel) | 4, _ => hs _ (by decide +kernel) | i + 5, h => absurd h (by omega))
    (fun i hi => match i, hi with | 0, _ => hs _ (by decide +kernel) | 1, _ => hs _ (by decide +kernel) | 2, _ => hs _ (by decide +kernel) | 3, _ => hs _ (by decide +kernel) | 4, _ => hs _ (by decide +kernel) | i + 5, h => absurd h (by omega))
    (fun i hi j hj => match i, j, hi, hj with | 0, 0, _, _ => hs _ (by decide +kernel) | 0, 1, _, _ => hs _ (by decide +kernel) | 0, 2, _, _ => hs _ (by decide +kernel) | 0, 3, _, _ => hs _ (by decide +kernel) | 1, 0, _, _ => hs _ (by decide +kernel) | 1, 1, _, _ => hs _ (by decide +kernel) | 1, 2, _, _ => hs _ (by decide +kernel) | 2, 0, _, _ => hs _ (by decide +kernel) | 2, 1, _, _ => hs _ (by decide +kernel) | 2, 2, _, _ => hs _ (by decide +kernel) | 2, 3, _, _ => hs _ (by decide +kernel) | 2, 4, _, _ => hs _ (by decide +kernel) | 2, 5, _, _ => hs _ (by decide +kernel) | 3, 0, _, _ => hs _ (by decide +kernel) | 3, 1, _, _ => hs _ (by decide +kernel) | 3, 2, _, _ => hs _ (by decide +kernel) | 3, 3, _, _ => hs _ (by decide +kernel) | 3, 4, _, _ => hs _ (by decide +kernel) | 3, 5, _, _ => hs _ (by decide +kernel) | 4, 0, _, _ => hs _ (by decide +kernel) | 4, 1, _, _ => hs _ (by decide +kernel) | 4, 2, _, _ => hs _ (by decide +kernel) | 0, j + 4, _, h => absurd h (by show ¬ j + 4 < 4; omega) | 1, j + 3, _, h => absurd h (by show ¬ j + 3 < 3; omega) | 2, j + 6, _, h => absurd h (by show ¬ j + 6 < 6; omega) | 3, j + 6, _, h => absurd h (by show ¬ j + 6 < 6; omega) | 4, j + 3, _, h => absurd h (by show ¬ j + 3 < 3; omega) | i + 5, _, h, _ => absurd h (by omega))
    (fun i j hi hj hij => match i, j, hi, hj, hij with | 0, 0, _, _, h => absurd rfl h | 0, 1, _, _, h => (by first | exact Or.inl (hs _ (by decide +kernel)) | exact Or.inr (hs _ (by decide +kernel))) | 0, 2, _, _, h => (by first | exact Or.inl (hs _ (by decide +kernel)) | exact Or.inr (hs _ (by decide +kernel))) | 0, 3, _, _, h => (by first | exact Or.inl (hs _ (by decide +kernel)) | exact Or.inr (hs _ (by decide +kernel))) | 0, 4, _, _, h => (by first | exact Or.inl (hs _ (by decide +kernel)) | exact Or.inr (hs _ (by decide +kernel))) | 1, 0, _, _, h => (by first | exact Or.inl (hs _ (by decide +kernel)) | exact Or.inr (hs _ (by decide +kernel))) | 1, 1, _, _, h => absurd rfl h | 1, 2, _, _, h => (by first | exact Or.inl (hs _ (by decide +kernel)) | exact Or.inr (hs _ (by decide +kernel))) | 1, 3, _, _, h => (by first | exact Or.inl (hs _ (by decide +kernel)) | exact Or.inr (hs _ (by decide +kernel))) | 1, 4, _, _, h => (by first | exact Or.inl (hs _ (by decide +kernel)) | exact Or.inr (hs _ (by decide +kernel))) | 2, 0, _, _, h => (by first | exact Or.inl (hs _ (by decide +kernel)) | exact Or.inr (hs _ (by decide +kernel))) | 2, 1, _, _, h => (by first | exact Or.inl (hs _ (by decide +kernel)) | exact Or.inr (hs _ (by decide +kernel))) | 2, 2, _, _, h => absurd rfl h | 2, 3, _, _, h => (by first | exact Or.inl (hs _ (by decide +kernel)) | exact Or.inr (hs _ (by decide +kernel))) | 2, 4, _, _, h => (by first | exact Or.inl (hs _ (by decide +kernel)) | exact Or.inr (hs _ (by decide +kernel))) | 3, 0, _, _, h => (by first | exact Or.inl (hs _ (by decide +kernel)) | exact Or.inr (hs _ (by decide +kernel))) | 3, 1, _, _, h => (by first | exact Or.inl (hs _ (by decide +kernel)) | exact Or.inr (hs _ (by decide +kernel))) | 3, 2, _, _, h => (by first | exact Or.inl (hs _ (by decide +kernel)) | exact Or.inr (hs _ (by decide +kernel))) | 3, 3, _, _, h => absurd rfl h | 3, 4, _, _, h => (by first | exact Or.inl (hs _ (by decide +kernel)) | exact Or.inr (hs _ (by decide +kernel))) | 4, 0, _, _, h => (by first | exact Or.inl (hs _ (by decide +kernel)) | exact Or.inr (hs _ (by decide +kernel))) | 4, 1, _, _, h => (by first | exact Or.inl (hs _ (by decide +kernel)) | exact Or.inr (hs _ (by decide +kernel))) | 4, 2, _, _, h => (by first | exact Or.inl (hs _ (by decide +kernel)) | exact Or.inr (hs _ (by decide +kernel))) | 4, 3, _, _, h => (by first | exact Or.inl (hs _ (by decide +kernel)) | exact Or.inr (hs _ (by decide +kernel))) | 4, 4, _, _, h => absurd rfl h | 0, j + 5, _, h, _ => absurd h (by omega) | 1, j + 5, _, h, _ => absurd h (by omega) | 2, j + 5, _, h, _ => absurd h (by omega) | 3, j + 5, _, h, _ => absurd h (by omega) | 4, j + 5, _, h, _ => absurd h (by omega) | i + 5, _, h, _, _ => absurd h (by omega))
    hA
  obtain ⟨t, ht, hT⟩ := va_Tof (args := #[Value.ref b]) (s := s) (tm := (Term.static "NamingElders" "ABOVE" "[I")) (ty := .int) (N := 7) (f := fun j => .int (c_abv j)) (A := n_A s.heap.size) (by decide) (hs _ (by decide +kernel)) (va_eqt (z := 7) (hs _ (by decide +kernel)))
    (fun j hj => match j, hj with | 0, _ => va_eqt (z := -1) (hs _ (by decide +kernel)) | 1, _ => va_eqt (z := 0) (hs _ (by decide +kernel)) | 2, _ => va_eqt (z := 0) (hs _ (by decide +kernel)) | 3, _ => va_eqt (z := 0) (hs _ (by decide +kernel)) | 4, _ => va_eqt (z := 1) (hs _ (by decide +kernel)) | 5, _ => va_eqt (z := 2) (hs _ (by decide +kernel)) | 6, _ => va_eqt (z := 3) (hs _ (by decide +kernel)) | j + 7, h => absurd h (by omega)) hA
  refine ⟨(aK, aV, t), ⟨hV, va_Zref (hts (.laysStatic "NamingElders" "ABOVE" "[I") (List.mem_of_getElem? (i := 898) (by decide +kernel))) (hts (.initialized "NamingElders") (List.mem_of_getElem? (i := 63) (by decide +kernel))) ht hA, hT, va_Zof (hts (.laysStatic "java/lang/String" "COMPACT_STRINGS" "Z") (List.mem_of_getElem? (i := 575) (by decide +kernel))) (hts (.initialized "java/lang/String") (List.mem_of_getElem? (i := 79) (by decide +kernel))) (va_eqi (z := 1) (hs _ (by decide +kernel))) hA, va_Zqof (hts (.laysStatic "jdk/internal/util/Preconditions" "SIOOBE_FORMATTER" "Ljava/util/function/BiFunction;") (List.mem_of_getElem? (i := 591) (by decide +kernel))) (hts (.initialized "jdk/internal/util/Preconditions") (List.mem_of_getElem? (i := 81) (by decide +kernel))) (hs _ (by decide +kernel)) hA⟩, fun k hk => ?_⟩
  match k, hk with
  | 0, hk => exact vk_R.of (hts (.stringRef "NamingElders$Valley" 52 "uit ") (List.mem_of_getElem? (i := 559) (by decide +kernel))) (hev 0 hk)
  | 1, hk => exact vk_R.of (hts (.stringRef "NamingElders$Valley" 54 "ar ") (List.mem_of_getElem? (i := 560) (by decide +kernel))) (hev 1 hk)
  | 2, hk => exact vk_R.of (hts (.stringRef "NamingElders$Valley" 56 "learn ") (List.mem_of_getElem? (i := 561) (by decide +kernel))) (hev 2 hk)
  | 3, hk => exact vk_R.of (hts (.stringRef "NamingElders$Valley" 83 "pkvxla") (List.mem_of_getElem? (i := 634) (by decide +kernel))) (hev 3 hk)
  | 4, hk => exact vk_R.of (hts (.stringRef "NamingElders$Valley" 89 "<=>") (List.mem_of_getElem? (i := 698) (by decide +kernel))) (hev 4 hk)
  | k + 5, hk => exact absurd hk (by omega)
theorem l_nC {b : Nat} {s : State} (hts : ∀ w ∈ lw_tbl, w.before #[Value.ref b] s = true) (hgv : (Jvm.Cond.and given_1 narrow_1).before #[Value.ref b] s = true) : n_C s := by
  have hs := flat_of_before _ hgv
  refine ⟨fun C hC => ?_, fun q hq => ?_⟩
  · simp only [n_cast, List.mem_cons, List.not_mem_nil, or_false] at hC
    rcases hC with rfl | rfl | rfl | rfl | rfl | rfl
    · exact va_Nw.of rfl (hts (.castable RX1 RX2) (List.mem_of_getElem? (i := 1360) (by decide +kernel)))
    · exact va_Nw.of rfl (hts (.castable RX9 RX2) (List.mem_of_getElem? (i := 1361) (by decide +kernel)))
    · exact va_Nw.of rfl (hts (.castable RX6 RX2) (List.mem_of_getElem? (i := 1362) (by decide +kernel)))
    · exact va_Nw.of rfl (hts (.castable RX3 RX2) (List.mem_of_getElem? (i := 1363) (by decide +kernel)))
    · exact va_Nw.of rfl (hts (.castable RX4 RX2) (List.mem_of_getElem? (i := 1364) (by decide +kernel)))
    · exact va_Nw.of rfl (hts (.castable RX8 RX2) (List.mem_of_getElem? (i := 1365) (by decide +kernel)))
  · simp only [n_nest, List.mem_cons, List.not_mem_nil, or_false] at hq
    rcases hq with rfl | rfl | rfl | rfl | rfl | rfl | rfl | rfl | rfl | rfl | rfl | rfl | rfl | rfl | rfl
    · exact va_Nw.of rfl (hts (.methodLinkNest RX11 39 yX0_init RX11) (List.mem_of_getElem? (i := 97) (by decide +kernel)))
    · exact va_Nw.of rfl (hts (.methodLinkNest RX11 57 yX2_init RX11) (List.mem_of_getElem? (i := 127) (by decide +kernel)))
    · exact va_Nw.of rfl (hts (.methodLinkNest RX11 60 yX1_init RX11) (List.mem_of_getElem? (i := 135) (by decide +kernel)))
    · exact va_Nw.of rfl (hts (.methodLinkNest RX11 63 yX9_init RX11) (List.mem_of_getElem? (i := 142) (by decide +kernel)))
    · exact va_Nw.of rfl (hts (.methodLinkNest RX11 66 yX6_init RX11) (List.mem_of_getElem? (i := 149) (by decide +kernel)))
    · exact va_Nw.of rfl (hts (.methodLinkNest RX11 69 yX3_init RX11) (List.mem_of_getElem? (i := 156) (by decide +kernel)))
    · exact va_Nw.of rfl (hts (.methodLinkNest RX11 72 yX4_init RX11) (List.mem_of_getElem? (i := 163) (by decide +kernel)))
    · exact va_Nw.of rfl (hts (.methodLinkNest RX11 75 yX8_init RX11) (List.mem_of_getElem? (i := 170) (by decide +kernel)))
    · exact va_Nw.of rfl (hts (.methodLinkNest RX1 3 yX2_init RX11) (List.mem_of_getElem? (i := 138) (by decide +kernel)))
    · exact va_Nw.of rfl (hts (.methodLinkNest RX9 1 yX2_init RX11) (List.mem_of_getElem? (i := 145) (by decide +kernel)))
    · exact va_Nw.of rfl (hts (.methodLinkNest RX6 3 yX2_init RX11) (List.mem_of_getElem? (i := 152) (by decide +kernel)))
    · exact va_Nw.of rfl (hts (.methodLinkNest RX3 3 yX1_init RX11) (List.mem_of_getElem? (i := 159) (by decide +kernel)))
    · exact va_Nw.of rfl (hts (.methodLinkNest RX4 1 yX9_init RX11) (List.mem_of_getElem? (i := 166) (by decide +kernel)))
    · exact va_Nw.of rfl (hts (.methodLinkNest RX8 3 yX6_init RX11) (List.mem_of_getElem? (i := 173) (by decide +kernel)))
    · exact va_Nw.of rfl (hts (.methodLinkNest RX11 80 yX10_init RX11) (List.mem_of_getElem? (i := 176) (by decide +kernel)))
