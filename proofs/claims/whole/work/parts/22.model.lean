theorem i_X12_goesTo_X12 : ∀ w ∈ u_ws RX12 TX12 32, w ∈ wsX12_goesTo := c_inP [93, 94, 95, 96, 97, 98, 99, 100, 101, 102, 103, 104, 105, 106, 107, 108, 109, 110, 111, 112, 113, 114, 115, 116, 117, 118, 119, 120, 121, 122, 123, 124] (by decide +kernel)
theorem dX12_goesTo_0 : decode cX12_goesTo 0 = .ok (.aload_n 0, 1) := by decide +kernel
theorem dX12_goesTo_1 : decode cX12_goesTo 1 = .ok (.iload_n 1, 1) := by decide +kernel
theorem dX12_goesTo_2 : decode cX12_goesTo 2 = .ok (.iload_n 2, 1) := by decide +kernel
theorem dX12_goesTo_3 : decode cX12_goesTo 3 = .ok (.invokevirtual 115, 3) := by decide +kernel
theorem dX12_goesTo_6 : decode cX12_goesTo 6 = .ok (.istore_n 3, 1) := by decide +kernel
theorem dX12_goesTo_7 : decode cX12_goesTo 7 = .ok (.iload_n 3, 1) := by decide +kernel
theorem dX12_goesTo_8 : decode cX12_goesTo 8 = .ok (.iconst (-1), 1) := by decide +kernel
theorem dX12_goesTo_9 : decode cX12_goesTo 9 = .ok (.if_icmp .eq 25, 3) := by decide +kernel
theorem dX12_goesTo_12 : decode cX12_goesTo 12 = .ok (.aload_n 0, 1) := by decide +kernel
theorem dX12_goesTo_13 : decode cX12_goesTo 13 = .ok (.getfield 15, 3) := by decide +kernel
theorem dX12_goesTo_16 : decode cX12_goesTo 16 = .ok (.iconst 4, 1) := by decide +kernel
theorem dX12_goesTo_17 : decode cX12_goesTo 17 = .ok (.iload_n 2, 1) := by decide +kernel
theorem dX12_goesTo_18 : decode cX12_goesTo 18 = .ok (.imul, 1) := by decide +kernel
theorem dX12_goesTo_19 : decode cX12_goesTo 19 = .ok (.iconst 1, 1) := by decide +kernel
theorem dX12_goesTo_20 : decode cX12_goesTo 20 = .ok (.iadd, 1) := by decide +kernel
theorem dX12_goesTo_21 : decode cX12_goesTo 21 = .ok (.iload_n 3, 1) := by decide +kernel
theorem dX12_goesTo_22 : decode cX12_goesTo 22 = .ok (.iastore, 1) := by decide +kernel
theorem dX12_goesTo_23 : decode cX12_goesTo 23 = .ok (.aload_n 0, 1) := by decide +kernel
theorem dX12_goesTo_24 : decode cX12_goesTo 24 = .ok (.getfield 15, 3) := by decide +kernel
theorem dX12_goesTo_27 : decode cX12_goesTo 27 = .ok (.iconst 4, 1) := by decide +kernel
theorem dX12_goesTo_28 : decode cX12_goesTo 28 = .ok (.iload_n 2, 1) := by decide +kernel
theorem dX12_goesTo_29 : decode cX12_goesTo 29 = .ok (.imul, 1) := by decide +kernel
theorem dX12_goesTo_30 : decode cX12_goesTo 30 = .ok (.iconst 2, 1) := by decide +kernel
theorem dX12_goesTo_31 : decode cX12_goesTo 31 = .ok (.iadd, 1) := by decide +kernel
theorem dX12_goesTo_32 : decode cX12_goesTo 32 = .ok (.iload_n 1, 1) := by decide +kernel
theorem dX12_goesTo_33 : decode cX12_goesTo 33 = .ok (.iastore, 1) := by decide +kernel
theorem dX12_goesTo_34 : decode cX12_goesTo 34 = .ok (.iload_n 3, 1) := by decide +kernel
theorem dX12_goesTo_35 : decode cX12_goesTo 35 = .ok (.ireturn, 1) := by decide +kernel
set_option maxRecDepth 20000 in
theorem ggX12_goesTo_X12_says : GoodIn wsX12_goesTo wsX12_says := goodIn_r _ [6, 7, 8, 9, 5, 10, 11, 12, 13, 14, 15, 16, 1, 17, 18, 19, 20, 21, 22, 23, 24, 25, 26, 27, 28, 29, 30, 31, 32, 33, 34, 35, 36, 37, 38, 39, 40, 41, 42, 43, 44, 45, 46, 47, 48, 49, 50, 51, 52, 53, 54, 55, 56, 57, 58, 59, 60, 61, 62, 63, 64, 65, 66, 67, 68, 69, 70, 71, 72, 73, 74, 75, 76, 77, 78, 79, 80, 81, 82, 83, 84, 85, 86, 87, 88, 89, 90, 91, 92, 93, 94, 95, 96, 97, 98, 99, 100, 101, 102, 103, 104, 105, 106, 107, 108, 109, 110, 111, 112, 113, 114, 115, 116, 117, 118, 119, 120, 121, 122, 123, 124] (by decide +kernel) (by decide +kernel)
set_option maxRecDepth 20000 in
theorem gX12_goesTo_X12_says : GoodIn wsX12_goesTo (wsV RX12 115 RX12 yX12_says wsX12_says) := goodIn_app (goodIn_of _ (by decide +kernel)) ggX12_goesTo_X12_says
def fX12_goesTo (g : c_G) (a1 : Int32) (a2 : Int32) : Option (c_G × Int32) :=
  c_b2 (fX12_says g a1 a2) fun g2 r3 => if r3 = (-1 : Int32) then (some (g2, r3)) else (if c_in ((((4 : Int32) * a2) + (1 : Int32))) (136) = true then c_let (c_si g2 1 ((((4 : Int32) * a2) + (1 : Int32))).toNatClampNeg r3) fun g6 => if c_in ((((4 : Int32) * a2) + (2 : Int32))) (136) = true then c_let (c_si g6 1 ((((4 : Int32) * a2) + (2 : Int32))).toNatClampNeg a1) fun g8 => some (g8, r3) else none else none)
set_option maxRecDepth 100000 in
set_option maxHeartbeats 4000000 in
theorem kX12_goesTo {l : Launch} {D : va_G} {tc : Nat → ClassId} {ad : Nat → Nat} {A : Nat → Prop} {E : (Nat → Nat) × (Nat → Nat) × Nat} (hD : c_D A ad TM) {a1 : Int32} {a2 : Int32} {g g' : c_G} {r : Int32} (hf : fX12_goesTo g a1 a2 = some (g', r)) : c_Mi l yX12_goesTo wsX12_goesTo (c_rm 50) D tc ad A E TM ([.ref (ad 0), .int a1, .int a2] : List Value) g g' r := by
  refine c_ofW (bytes := cX12_goesTo) (maxL := 4) (ret := (some .int)) (by decide) rfl (Nat.le_of_ble_eq_true rfl) ?_
  intro p e s m below meth c ls C hP hS hl
  unfold fX12_goesTo at hf
  obtain ⟨hx, hb, hr, hml, hts, hown, hlk, hK, hE⟩ := id C
  have hl : lv_has ls 4 [(0, .ref (ad 0)), (1, .int a1), (2, .int a2)] := hl
  refine lv_aload_n hx hb dX12_goesTo_0 rfl (lv_at hl 0 rfl) ?_
  refine lv_iload_n hx hb dX12_goesTo_1 rfl (lv_at hl 1 rfl) ?_
  refine lv_iload_n hx hb dX12_goesTo_2 rfl (lv_at hl 2 rfl) ?_
  obtain ⟨g2, r3, hc1, hf⟩ := c_b2E hf
  refine c_goi (va_runV (As := [.int a1, .int a2]) (rest := []) ⟨hx, hb, hml, hown, hts⟩ (kX12_says hD hc1) (cwV 2 hts gX12_goesTo_X12_says rfl rfl rfl (by decide +kernel) ⟨Nat.le_of_ble_eq_true rfl, Nat.le_of_ble_eq_true rfl⟩) (c_preV hK hP hE hS tM0 rfl) rfl rfl hl.1 rfl (lv_room (Nat.le_of_ble_eq_true rfl)) dX12_goesTo_3 ⟨Nat.zero_le _, Nat.zero_le _⟩) hS (fun H locs hP hS => ?_)
  refine lv_istore_n (lv' := [(3, .int r3), (0, .ref (ad 0)), (1, .int a1), (2, .int a2)]) hx hb dX12_goesTo_6 rfl hl (by decide) rfl (fun ls hl => ?_)
  refine lv_iload_n hx hb dX12_goesTo_7 rfl (lv_at hl 0 rfl) ?_
  refine lv_iconst (v := (-1 : Int32)) hx hb dX12_goesTo_8 (by decide) ?_
  refine lv_icmp_eq (tgt := 34) hx hb dX12_goesTo_9 (by decide) (fun c4 => ?_) (fun c4 => ?_)
  · have hf := c_it c4 hf
    refine lv_iload_n hx hb dX12_goesTo_34 rfl (lv_at hl 0 rfl) ?_
    exact c_iret hx hb hr hlk hP hS rfl (c_inj hf) dX12_goesTo_35
  · have hf := c_ie c4 hf
    refine lv_aload_n hx hb dX12_goesTo_12 rfl (lv_at hl 1 rfl) ?_
    refine c_get hx hb hts i_X12_goesTo_X12 hown hK hP 0 tM0 rfl 0 (by decide) (hts _ (List.mem_of_getElem? (i := 1) rfl)) (fun _ h9 => h9) rfl (v := .ref (ad 1)) rfl dX12_goesTo_13 ?_
    refine lv_iconst (v := (4 : Int32)) hx hb dX12_goesTo_16 (by decide) ?_
    refine lv_iload_n hx hb dX12_goesTo_17 rfl (lv_at hl 3 rfl) ?_
    refine lv_imul hx hb dX12_goesTo_18 ?_
    refine lv_iconst (v := (1 : Int32)) hx hb dX12_goesTo_19 (by decide) ?_
    refine lv_iadd hx hb dX12_goesTo_20 ?_
    refine lv_iload_n hx hb dX12_goesTo_21 rfl (lv_at hl 0 rfl) ?_
    obtain ⟨hi5, hf⟩ := c_gd hf
    obtain ⟨g6, eg6, hf⟩ := c_letE hf
    refine c_iast (j := ((((4 : Int32) * a2) + (1 : Int32))).toNatClampNeg) hx hb hK hP hD hS 1 tM1 rfl (c_inV hi5) eg6 dX12_goesTo_22 (fun H locs hP hS => ?_)
    refine lv_aload_n hx hb dX12_goesTo_23 rfl (lv_at hl 1 rfl) ?_
    refine c_get hx hb hts i_X12_goesTo_X12 hown hK hP 0 tM0 rfl 0 (by decide) (hts _ (List.mem_of_getElem? (i := 1) rfl)) (fun _ h9 => h9) rfl (v := .ref (ad 1)) rfl dX12_goesTo_24 ?_
    refine lv_iconst (v := (4 : Int32)) hx hb dX12_goesTo_27 (by decide) ?_
    refine lv_iload_n hx hb dX12_goesTo_28 rfl (lv_at hl 3 rfl) ?_
    refine lv_imul hx hb dX12_goesTo_29 ?_
    refine lv_iconst (v := (2 : Int32)) hx hb dX12_goesTo_30 (by decide) ?_
    refine lv_iadd hx hb dX12_goesTo_31 ?_
    refine lv_iload_n hx hb dX12_goesTo_32 rfl (lv_at hl 2 rfl) ?_
    obtain ⟨hi7, hf⟩ := c_gd hf
    obtain ⟨g8, eg8, hf⟩ := c_letE hf
    refine c_iast (j := ((((4 : Int32) * a2) + (2 : Int32))).toNatClampNeg) hx hb hK hP hD hS 1 tM1 rfl (c_inV hi7) eg8 dX12_goesTo_33 (fun H locs hP hS => ?_)
    refine lv_iload_n hx hb dX12_goesTo_34 rfl (lv_at hl 0 rfl) ?_
    exact c_iret hx hb hr hlk hP hS rfl (c_inj hf) dX12_goesTo_35
theorem i_X12_learnNow_X12 : ∀ w ∈ u_ws RX12 TX12 32, w ∈ wsX12_learnNow := c_inP [68, 69, 70, 71, 72, 73, 74, 75, 76, 77, 78, 79, 80, 81, 82, 83, 84, 85, 86, 87, 88, 89, 90, 91, 92, 93, 94, 95, 96, 97, 98, 99] (by decide +kernel)
theorem dX12_learnNow_0 : decode cX12_learnNow 0 = .ok (.aload_n 0, 1) := by decide +kernel
theorem dX12_learnNow_1 : decode cX12_learnNow 1 = .ok (.iconst 0, 1) := by decide +kernel
theorem dX12_learnNow_2 : decode cX12_learnNow 2 = .ok (.iconst 0, 1) := by decide +kernel
theorem dX12_learnNow_3 : decode cX12_learnNow 3 = .ok (.iconst 0, 1) := by decide +kernel
theorem dX12_learnNow_4 : decode cX12_learnNow 4 = .ok (.invokevirtual 194, 3) := by decide +kernel
theorem dX12_learnNow_7 : decode cX12_learnNow 7 = .ok (.aload_n 0, 1) := by decide +kernel
theorem dX12_learnNow_8 : decode cX12_learnNow 8 = .ok (.getfield 179, 3) := by decide +kernel
theorem dX12_learnNow_11 : decode cX12_learnNow 11 = .ok (.ireturn, 1) := by decide +kernel
set_option maxRecDepth 20000 in
theorem ggX12_learnNow_X12_readFor : GoodIn wsX12_learnNow wsX12_readFor := goodIn_r _ [6, 7, 8, 9, 1, 10, 11, 12, 13, 14, 15, 16, 5, 17, 18, 19, 20, 21, 22, 23, 24, 25, 26, 27, 28, 29, 30, 31, 32, 33, 34, 35, 36, 37, 38, 39, 40, 41, 42, 43, 44, 45, 46, 47, 48, 49, 50, 51, 52, 53, 54, 55, 56, 57, 58, 59, 60, 61, 62, 63, 64, 65, 66, 67, 68, 69, 70, 71, 72, 73, 74, 75, 76, 77, 78, 79, 80, 81, 82, 83, 84, 85, 86, 87, 88, 89, 90, 91, 92, 93, 94, 95, 96, 97, 98, 99] (by decide +kernel) (by decide +kernel)
set_option maxRecDepth 20000 in
theorem gX12_learnNow_X12_readFor : GoodIn wsX12_learnNow (wsV RX12 194 RX12 yX12_readFor wsX12_readFor) := goodIn_app (goodIn_of _ (by decide +kernel)) ggX12_learnNow_X12_readFor
def fX12_learnNow (g : c_G)  : Option (c_G × Int32) :=
  (fX12_readFor g ((0 : Int32)) ((0 : Int32)) ((0 : Int32))).bind fun g2 => some (g2, (g2.1 0 15))
set_option maxRecDepth 100000 in
set_option maxHeartbeats 4000000 in
theorem kX12_learnNow {l : Launch} {D : va_G} {tc : Nat → ClassId} {ad : Nat → Nat} {A : Nat → Prop} {E : (Nat → Nat) × (Nat → Nat) × Nat} (hD : c_D A ad TM)  {g g' : c_G} {r : Int32} (hf : fX12_learnNow g  = some (g', r)) : c_Mi l yX12_learnNow wsX12_learnNow (c_rm 47) D tc ad A E TM ([.ref (ad 0)] : List Value) g g' r := by
  refine c_ofW (bytes := cX12_learnNow) (maxL := 1) (ret := (some .int)) (by decide) rfl (Nat.le_of_ble_eq_true rfl) ?_
  intro p e s m below meth c ls C hP hS hl
  unfold fX12_learnNow at hf
  obtain ⟨hx, hb, hr, hml, hts, hown, hlk, hK, hE⟩ := id C
  have hl : lv_has ls 1 [(0, .ref (ad 0))] := hl
  refine lv_aload_n hx hb dX12_learnNow_0 rfl (lv_at hl 0 rfl) ?_
  refine lv_iconst (v := (0 : Int32)) hx hb dX12_learnNow_1 (by decide) ?_
  refine lv_iconst (v := (0 : Int32)) hx hb dX12_learnNow_2 (by decide) ?_
  refine lv_iconst (v := (0 : Int32)) hx hb dX12_learnNow_3 (by decide) ?_
  obtain ⟨g2, hc1, hf⟩ := c_bd hf
  refine c_gov (va_runV (As := [.int (0 : Int32), .int (0 : Int32), .int (0 : Int32)]) (rest := []) ⟨hx, hb, hml, hown, hts⟩ (kX12_readFor hD hc1) (cwV 3 hts gX12_learnNow_X12_readFor rfl rfl rfl (by decide +kernel) ⟨Nat.le_of_ble_eq_true rfl, Nat.le_of_ble_eq_true rfl⟩) (c_preV hK hP hE hS tM0 rfl) rfl rfl hl.1 rfl (lv_room (Nat.le_of_ble_eq_true rfl)) dX12_learnNow_4 ⟨Nat.zero_le _, Nat.zero_le _⟩) hS (fun H locs hP hS => ?_)
  refine lv_aload_n hx hb dX12_learnNow_7 rfl (lv_at hl 0 rfl) ?_
  refine c_get hx hb hts i_X12_learnNow_X12 hown hK hP 0 tM0 rfl 15 (by decide) (hts _ (List.mem_of_getElem? (i := 1) rfl)) (fun _ h9 => h9) rfl (v := .int (g2.1 0 15)) rfl dX12_learnNow_8 ?_
  exact c_iret hx hb hr hlk hP hS rfl (c_inj hf) dX12_learnNow_11
theorem i_X12_sunday_X12 : ∀ w ∈ u_ws RX12 TX12 32, w ∈ wsX12_sunday := c_inP [105, 106, 107, 108, 109, 110, 111, 112, 113, 114, 115, 116, 117, 118, 119, 120, 121, 122, 123, 124, 125, 126, 127, 128, 129, 130, 131, 132, 133, 134, 135, 136] (by decide +kernel)
theorem dX12_sunday_0 : decode cX12_sunday 0 = .ok (.iconst 0, 1) := by decide +kernel
theorem dX12_sunday_1 : decode cX12_sunday 1 = .ok (.istore_n 1, 1) := by decide +kernel
theorem dX12_sunday_2 : decode cX12_sunday 2 = .ok (.iload_n 1, 1) := by decide +kernel
theorem dX12_sunday_3 : decode cX12_sunday 3 = .ok (.aload_n 0, 1) := by decide +kernel
theorem dX12_sunday_4 : decode cX12_sunday 4 = .ok (.getfield 15, 3) := by decide +kernel
theorem dX12_sunday_7 : decode cX12_sunday 7 = .ok (.bipush 78, 2) := by decide +kernel
theorem dX12_sunday_9 : decode cX12_sunday 9 = .ok (.iaload, 1) := by decide +kernel
theorem dX12_sunday_10 : decode cX12_sunday 10 = .ok (.if_icmp .ge 31, 3) := by decide +kernel
theorem dX12_sunday_13 : decode cX12_sunday 13 = .ok (.aload_n 0, 1) := by decide +kernel
theorem dX12_sunday_14 : decode cX12_sunday 14 = .ok (.iload_n 1, 1) := by decide +kernel
theorem dX12_sunday_15 : decode cX12_sunday 15 = .ok (.iconst 4, 1) := by decide +kernel
theorem dX12_sunday_16 : decode cX12_sunday 16 = .ok (.invokevirtual 89, 3) := by decide +kernel
theorem dX12_sunday_19 : decode cX12_sunday 19 = .ok (.iconst (-1), 1) := by decide +kernel
theorem dX12_sunday_20 : decode cX12_sunday 20 = .ok (.if_icmp .eq 15, 3) := by decide +kernel
theorem dX12_sunday_23 : decode cX12_sunday 23 = .ok (.aload_n 0, 1) := by decide +kernel
theorem dX12_sunday_24 : decode cX12_sunday 24 = .ok (.iload_n 1, 1) := by decide +kernel
theorem dX12_sunday_25 : decode cX12_sunday 25 = .ok (.aload_n 0, 1) := by decide +kernel
theorem dX12_sunday_26 : decode cX12_sunday 26 = .ok (.iload_n 1, 1) := by decide +kernel
theorem dX12_sunday_27 : decode cX12_sunday 27 = .ok (.iconst 4, 1) := by decide +kernel
theorem dX12_sunday_28 : decode cX12_sunday 28 = .ok (.invokevirtual 89, 3) := by decide +kernel
theorem dX12_sunday_31 : decode cX12_sunday 31 = .ok (.invokevirtual 130, 3) := by decide +kernel
theorem dX12_sunday_34 : decode cX12_sunday 34 = .ok (.pop, 1) := by decide +kernel
theorem dX12_sunday_35 : decode cX12_sunday 35 = .ok (.iinc 1 1, 3) := by decide +kernel
theorem dX12_sunday_38 : decode cX12_sunday 38 = .ok (.goto (-36), 3) := by decide +kernel
theorem dX12_sunday_41 : decode cX12_sunday 41 = .ok (.aload_n 0, 1) := by decide +kernel
theorem dX12_sunday_42 : decode cX12_sunday 42 = .ok (.invokevirtual 211, 3) := by decide +kernel
theorem dX12_sunday_45 : decode cX12_sunday 45 = .ok (.istore_n 1, 1) := by decide +kernel
theorem dX12_sunday_46 : decode cX12_sunday 46 = .ok (.iconst 0, 1) := by decide +kernel
theorem dX12_sunday_47 : decode cX12_sunday 47 = .ok (.istore_n 2, 1) := by decide +kernel
theorem dX12_sunday_48 : decode cX12_sunday 48 = .ok (.iload_n 2, 1) := by decide +kernel
theorem dX12_sunday_49 : decode cX12_sunday 49 = .ok (.aload_n 0, 1) := by decide +kernel
theorem dX12_sunday_50 : decode cX12_sunday 50 = .ok (.getfield 15, 3) := by decide +kernel
theorem dX12_sunday_53 : decode cX12_sunday 53 = .ok (.bipush 78, 2) := by decide +kernel
theorem dX12_sunday_55 : decode cX12_sunday 55 = .ok (.iaload, 1) := by decide +kernel
theorem dX12_sunday_56 : decode cX12_sunday 56 = .ok (.if_icmp .ge 80, 3) := by decide +kernel
theorem dX12_sunday_59 : decode cX12_sunday 59 = .ok (.aload_n 0, 1) := by decide +kernel
theorem dX12_sunday_60 : decode cX12_sunday 60 = .ok (.iload_n 2, 1) := by decide +kernel
theorem dX12_sunday_61 : decode cX12_sunday 61 = .ok (.iconst 3, 1) := by decide +kernel
theorem dX12_sunday_62 : decode cX12_sunday 62 = .ok (.aload_n 0, 1) := by decide +kernel
theorem dX12_sunday_63 : decode cX12_sunday 63 = .ok (.iload_n 2, 1) := by decide +kernel
theorem dX12_sunday_64 : decode cX12_sunday 64 = .ok (.iconst 3, 1) := by decide +kernel
theorem dX12_sunday_65 : decode cX12_sunday 65 = .ok (.invokevirtual 89, 3) := by decide +kernel
theorem dX12_sunday_68 : decode cX12_sunday 68 = .ok (.iconst 1, 1) := by decide +kernel
theorem dX12_sunday_69 : decode cX12_sunday 69 = .ok (.iadd, 1) := by decide +kernel
theorem dX12_sunday_70 : decode cX12_sunday 70 = .ok (.invokevirtual 97, 3) := by decide +kernel
theorem dX12_sunday_73 : decode cX12_sunday 73 = .ok (.pop, 1) := by decide +kernel
theorem dX12_sunday_74 : decode cX12_sunday 74 = .ok (.iload_n 1, 1) := by decide +kernel
theorem dX12_sunday_75 : decode cX12_sunday 75 = .ok (.ifCond .le 18, 3) := by decide +kernel
theorem dX12_sunday_78 : decode cX12_sunday 78 = .ok (.aload_n 0, 1) := by decide +kernel
theorem dX12_sunday_79 : decode cX12_sunday 79 = .ok (.iload_n 2, 1) := by decide +kernel
theorem dX12_sunday_80 : decode cX12_sunday 80 = .ok (.iconst 3, 1) := by decide +kernel
theorem dX12_sunday_81 : decode cX12_sunday 81 = .ok (.invokevirtual 89, 3) := by decide +kernel
theorem dX12_sunday_84 : decode cX12_sunday 84 = .ok (.iload_n 1, 1) := by decide +kernel
theorem dX12_sunday_85 : decode cX12_sunday 85 = .ok (.irem, 1) := by decide +kernel
theorem dX12_sunday_86 : decode cX12_sunday 86 = .ok (.ifCond .ne 7, 3) := by decide +kernel
theorem dX12_sunday_89 : decode cX12_sunday 89 = .ok (.iconst 1, 1) := by decide +kernel
theorem dX12_sunday_90 : decode cX12_sunday 90 = .ok (.goto 4, 3) := by decide +kernel
theorem dX12_sunday_93 : decode cX12_sunday 93 = .ok (.iconst 0, 1) := by decide +kernel
theorem dX12_sunday_94 : decode cX12_sunday 94 = .ok (.istore_n 3, 1) := by decide +kernel
theorem dX12_sunday_95 : decode cX12_sunday 95 = .ok (.aload_n 0, 1) := by decide +kernel
theorem dX12_sunday_96 : decode cX12_sunday 96 = .ok (.iload_n 2, 1) := by decide +kernel
theorem dX12_sunday_97 : decode cX12_sunday 97 = .ok (.iconst 2, 1) := by decide +kernel
theorem dX12_sunday_98 : decode cX12_sunday 98 = .ok (.aload_n 0, 1) := by decide +kernel
theorem dX12_sunday_99 : decode cX12_sunday 99 = .ok (.iload_n 2, 1) := by decide +kernel
theorem dX12_sunday_100 : decode cX12_sunday 100 = .ok (.iconst 2, 1) := by decide +kernel
theorem dX12_sunday_101 : decode cX12_sunday 101 = .ok (.invokevirtual 89, 3) := by decide +kernel
theorem dX12_sunday_104 : decode cX12_sunday 104 = .ok (.iload_n 3, 1) := by decide +kernel
theorem dX12_sunday_105 : decode cX12_sunday 105 = .ok (.ifCond .eq 19, 3) := by decide +kernel
theorem dX12_sunday_108 : decode cX12_sunday 108 = .ok (.iconst 1, 1) := by decide +kernel
theorem dX12_sunday_109 : decode cX12_sunday 109 = .ok (.aload_n 0, 1) := by decide +kernel
theorem dX12_sunday_110 : decode cX12_sunday 110 = .ok (.iload_n 2, 1) := by decide +kernel
theorem dX12_sunday_111 : decode cX12_sunday 111 = .ok (.iconst 3, 1) := by decide +kernel
theorem dX12_sunday_112 : decode cX12_sunday 112 = .ok (.invokevirtual 89, 3) := by decide +kernel
theorem dX12_sunday_115 : decode cX12_sunday 115 = .ok (.iload_n 2, 1) := by decide +kernel
theorem dX12_sunday_116 : decode cX12_sunday 116 = .ok (.iadd, 1) := by decide +kernel
theorem dX12_sunday_117 : decode cX12_sunday 117 = .ok (.bipush 12, 2) := by decide +kernel
theorem dX12_sunday_119 : decode cX12_sunday 119 = .ok (.irem, 1) := by decide +kernel
theorem dX12_sunday_120 : decode cX12_sunday 120 = .ok (.ishl, 1) := by decide +kernel
theorem dX12_sunday_121 : decode cX12_sunday 121 = .ok (.goto 4, 3) := by decide +kernel
theorem dX12_sunday_124 : decode cX12_sunday 124 = .ok (.iconst 0, 1) := by decide +kernel
theorem dX12_sunday_125 : decode cX12_sunday 125 = .ok (.ior, 1) := by decide +kernel
theorem dX12_sunday_126 : decode cX12_sunday 126 = .ok (.invokevirtual 97, 3) := by decide +kernel
theorem dX12_sunday_129 : decode cX12_sunday 129 = .ok (.pop, 1) := by decide +kernel
theorem dX12_sunday_130 : decode cX12_sunday 130 = .ok (.iinc 2 1, 3) := by decide +kernel
theorem dX12_sunday_133 : decode cX12_sunday 133 = .ok (.goto (-85), 3) := by decide +kernel
theorem dX12_sunday_136 : decode cX12_sunday 136 = .ok (.aload_n 0, 1) := by decide +kernel
theorem dX12_sunday_137 : decode cX12_sunday 137 = .ok (.getfield 15, 3) := by decide +kernel
theorem dX12_sunday_140 : decode cX12_sunday 140 = .ok (.bipush 80, 2) := by decide +kernel
theorem dX12_sunday_142 : decode cX12_sunday 142 = .ok (.dup2, 1) := by decide +kernel
theorem dX12_sunday_143 : decode cX12_sunday 143 = .ok (.iaload, 1) := by decide +kernel
theorem dX12_sunday_144 : decode cX12_sunday 144 = .ok (.iconst 1, 1) := by decide +kernel
theorem dX12_sunday_145 : decode cX12_sunday 145 = .ok (.iadd, 1) := by decide +kernel
theorem dX12_sunday_146 : decode cX12_sunday 146 = .ok (.iastore, 1) := by decide +kernel
theorem dX12_sunday_147 : decode cX12_sunday 147 = .ok (.return_, 1) := by decide +kernel
set_option maxRecDepth 20000 in
theorem ggX12_sunday_X12_one : GoodIn wsX12_sunday wsX12_one := goodIn_r _ [6, 1, 105, 106, 107, 108, 109, 110, 111, 112, 113, 114, 115, 116, 117, 118, 119, 120, 121, 122, 123, 124, 125, 126, 127, 128, 129, 130, 131, 132, 133, 134, 135, 136] (by decide +kernel) (by decide +kernel)
set_option maxRecDepth 20000 in
theorem gX12_sunday_X12_one : GoodIn wsX12_sunday (wsV RX12 89 RX12 yX12_one wsX12_one) := goodIn_app (goodIn_of _ (by decide +kernel)) ggX12_sunday_X12_one
set_option maxRecDepth 20000 in
theorem ggX12_sunday_X12_goesTo : GoodIn wsX12_sunday wsX12_goesTo := goodIn_r _ [10, 1, 11, 12, 13, 5, 14, 15, 16, 17, 18, 19, 20, 21, 22, 23, 24, 25, 26, 27, 28, 29, 30, 31, 32, 33, 34, 2, 3, 4, 6, 35, 36, 37, 38, 39, 40, 41, 42, 43, 44, 45, 46, 47, 48, 49, 50, 51, 52, 53, 54, 55, 56, 57, 58, 59, 60, 61, 62, 63, 64, 65, 66, 67, 68, 69, 70, 71, 72, 73, 74, 75, 76, 77, 78, 79, 80, 81, 82, 83, 84, 85, 86, 87, 88, 89, 90, 91, 92, 93, 94, 95, 96, 105, 106, 107, 108, 109, 110, 111, 112, 113, 114, 115, 116, 117, 118, 119, 120, 121, 122, 123, 124, 125, 126, 127, 128, 129, 130, 131, 132, 133, 134, 135, 136] (by decide +kernel) (by decide +kernel)
set_option maxRecDepth 20000 in
theorem gX12_sunday_X12_goesTo : GoodIn wsX12_sunday (wsV RX12 130 RX12 yX12_goesTo wsX12_goesTo) := goodIn_app (goodIn_of _ (by decide +kernel)) ggX12_sunday_X12_goesTo
set_option maxRecDepth 20000 in
theorem ggX12_sunday_X12_learnNow : GoodIn wsX12_sunday wsX12_learnNow := goodIn_r _ [100, 30, 25, 26, 27, 5, 28, 29, 1, 24, 31, 32, 33, 34, 2, 3, 4, 6, 35, 36, 37, 38, 39, 40, 41, 42, 43, 44, 45, 46, 47, 48, 49, 50, 51, 52, 53, 54, 55, 56, 57, 58, 59, 60, 61, 62, 63, 64, 65, 66, 67, 68, 69, 70, 71, 72, 73, 74, 75, 76, 77, 78, 79, 80, 81, 82, 83, 84, 105, 106, 107, 108, 109, 110, 111, 112, 113, 114, 115, 116, 117, 118, 119, 120, 121, 122, 123, 124, 125, 126, 127, 128, 129, 130, 131, 132, 133, 134, 135, 136] (by decide +kernel) (by decide +kernel)
set_option maxRecDepth 20000 in
theorem gX12_sunday_X12_learnNow : GoodIn wsX12_sunday (wsV RX12 211 RX12 yX12_learnNow wsX12_learnNow) := goodIn_app (goodIn_of _ (by decide +kernel)) ggX12_sunday_X12_learnNow
set_option maxRecDepth 20000 in
theorem ggX12_sunday_X12_change : GoodIn wsX12_sunday wsX12_change := goodIn_r _ [104, 1, 2, 3, 4, 5, 6, 105, 106, 107, 108, 109, 110, 111, 112, 113, 114, 115, 116, 117, 118, 119, 120, 121, 122, 123, 124, 125, 126, 127, 128, 129, 130, 131, 132, 133, 134, 135, 136] (by decide +kernel) (by decide +kernel)
set_option maxRecDepth 20000 in
theorem gX12_sunday_X12_change : GoodIn wsX12_sunday (wsV RX12 97 RX12 yX12_change wsX12_change) := goodIn_app (goodIn_of _ (by decide +kernel)) ggX12_sunday_X12_change
def fX12_sunday_125 (rec48 : Int32 → Int32 → c_G → Option (c_G))  (x1 : Int32) (x2 : Int32) (y1 : Int32) (y2 : Int32) (y3 : Int32) (y4 : Int32) (g : c_G) : Option (c_G) :=
  c_b2 (fX12_change g y1 y2 ((y3 ||| y4))) fun g125002 r125003 => c_let (x2 + (1 : Int32)) fun v125004 => rec48 x1 v125004 g125002
set_option maxRecDepth 100000 in
set_option maxHeartbeats 4000000 in
theorem jX12_sunday_125 {p : Program} {l : Launch} {e : Env} {s : State} {m : MethodId} {below : List Frame} {meth : Method} {c : Code} {D : va_G} {tc : Nat → ClassId} {ad : Nat → Nat} {A : Nat → Prop} {E : (Nat → Nat) × (Nat → Nat) × Nat} {g' : c_G} (C : c_C p s m meth c D tc A E RX12 wsX12_sunday cX12_sunday 4 none ([.ref (ad 0)] : List Value).toArray) (hD : c_D A ad TM) {rec48 : Int32 → Int32 → c_G → Option (c_G)} (hrec48 : ∀ (x1 : Int32) (x2 : Int32) (g : c_G), rec48 x1 x2 g = some g' → ∀ (H : Heap) (locs : List Loc), va_P D vwCl (c_ws tc ad TM g) H → va_S A s.heap H locs → ∀ ls : Array Slot, lv_has ls 4 [(0, .ref (ad 0)), (1, .int x1), (2, .int x2)] → W p l e (c_rm 51) s m ([.ref (ad 0)] : List Value).toArray below meth c H locs 0 0 (MQ below (va_Qv (fun (_ : Unit) => True) (fun _ t => va_P D vwCl (c_ws tc ad TM g') t.heap) A) ([.ref (ad 0)] : List Value).toArray s 0 0 A) (F0 m 48 ls [])) : ∀ (x1 : Int32) (x2 : Int32) (y1 : Int32) (y2 : Int32) (y3 : Int32) (y4 : Int32) (g : c_G), fX12_sunday_125 rec48 x1 x2 y1 y2 y3 y4 g = some g' → ∀ (H : Heap) (locs : List Loc), va_P D vwCl (c_ws tc ad TM g) H → va_S A s.heap H locs → ∀ ls : Array Slot, lv_has ls 4 [(0, .ref (ad 0)), (1, .int x1), (2, .int x2)] → W p l e (c_rm 51) s m ([.ref (ad 0)] : List Value).toArray below meth c H locs 0 0 (MQ below (va_Qv (fun (_ : Unit) => True) (fun _ t => va_P D vwCl (c_ws tc ad TM g') t.heap) A) ([.ref (ad 0)] : List Value).toArray s 0 0 A) (F0 m 125 ls [.int y4, .int y3, .int y2, .int y1, .ref (ad 0)]) := by
  obtain ⟨hx, hb, hr, hml, hts, hown, hlk, hK, hE⟩ := id C
  intro x1 x2 y1 y2 y3 y4 g hf H locs hP hS ls hl
  unfold fX12_sunday_125 at hf
  refine lv_ior hx hb dX12_sunday_125 ?_
  obtain ⟨g125002, r125003, hc125001, hf⟩ := c_b2E hf
  refine c_goi (va_runV (As := [.int y1, .int y2, .int (y3 ||| y4)]) (rest := []) ⟨hx, hb, hml, hown, hts⟩ (kX12_change hD hc125001) (cwV 3 hts gX12_sunday_X12_change rfl rfl rfl (by decide +kernel) ⟨Nat.le_of_ble_eq_true rfl, Nat.le_of_ble_eq_true rfl⟩) (c_preV hK hP hE hS tM0 rfl) rfl rfl hl.1 rfl (lv_room (Nat.le_of_ble_eq_true rfl)) dX12_sunday_126 ⟨Nat.zero_le _, Nat.zero_le _⟩) hS (fun H locs hP hS => ?_)
  refine lv_pop hx hb dX12_sunday_129 rfl ?_
  obtain ⟨v125004, ev125004, hf⟩ := c_letE hf
  refine lv_iinc (v := v125004) (lv' := [(2, .int v125004), (0, .ref (ad 0)), (1, .int x1)]) hx hb dX12_sunday_130 hl (k := 2) rfl (by rw [ev125004]; rfl) (by decide) rfl (fun ls hl => ?_)
  refine lv_goto (tgt := 48) hx hb dX12_sunday_133 (by decide) ?_
  exact hrec48 x1 v125004 g125002 hf _ _ hP hS _ (lv_sub hl [1, 2, 0] rfl)
def fX12_sunday_94 (rec48 : Int32 → Int32 → c_G → Option (c_G))  (x1 : Int32) (x2 : Int32) (y0 : Int32) (g : c_G) : Option (c_G) :=
  (fX12_one g x2 ((2 : Int32))).bind fun r94001 => if y0 = 0 then (fX12_sunday_125 rec48 x1 x2 x2 ((2 : Int32)) r94001 ((0 : Int32)) g) else ((fX12_one g x2 ((3 : Int32))).bind fun r94004 => fX12_sunday_125 rec48 x1 x2 x2 ((2 : Int32)) r94001 (((1 : Int32) <<< (((r94004 + x2) - (r94004 + x2) / (12 : Int32) * (12 : Int32)) &&& 31))) g)
set_option maxRecDepth 100000 in
set_option maxHeartbeats 4000000 in
theorem jX12_sunday_94 {p : Program} {l : Launch} {e : Env} {s : State} {m : MethodId} {below : List Frame} {meth : Method} {c : Code} {D : va_G} {tc : Nat → ClassId} {ad : Nat → Nat} {A : Nat → Prop} {E : (Nat → Nat) × (Nat → Nat) × Nat} {g' : c_G} (C : c_C p s m meth c D tc A E RX12 wsX12_sunday cX12_sunday 4 none ([.ref (ad 0)] : List Value).toArray) (hD : c_D A ad TM) {rec48 : Int32 → Int32 → c_G → Option (c_G)} (hrec48 : ∀ (x1 : Int32) (x2 : Int32) (g : c_G), rec48 x1 x2 g = some g' → ∀ (H : Heap) (locs : List Loc), va_P D vwCl (c_ws tc ad TM g) H → va_S A s.heap H locs → ∀ ls : Array Slot, lv_has ls 4 [(0, .ref (ad 0)), (1, .int x1), (2, .int x2)] → W p l e (c_rm 51) s m ([.ref (ad 0)] : List Value).toArray below meth c H locs 0 0 (MQ below (va_Qv (fun (_ : Unit) => True) (fun _ t => va_P D vwCl (c_ws tc ad TM g') t.heap) A) ([.ref (ad 0)] : List Value).toArray s 0 0 A) (F0 m 48 ls [])) : ∀ (x1 : Int32) (x2 : Int32) (y0 : Int32) (g : c_G), fX12_sunday_94 rec48 x1 x2 y0 g = some g' → ∀ (H : Heap) (locs : List Loc), va_P D vwCl (c_ws tc ad TM g) H → va_S A s.heap H locs → ∀ ls : Array Slot, lv_has ls 4 [(0, .ref (ad 0)), (1, .int x1), (2, .int x2)] → W p l e (c_rm 51) s m ([.ref (ad 0)] : List Value).toArray below meth c H locs 0 0 (MQ below (va_Qv (fun (_ : Unit) => True) (fun _ t => va_P D vwCl (c_ws tc ad TM g') t.heap) A) ([.ref (ad 0)] : List Value).toArray s 0 0 A) (F0 m 94 ls [.int y0]) := by
  obtain ⟨hx, hb, hr, hml, hts, hown, hlk, hK, hE⟩ := id C
  intro x1 x2 y0 g hf H locs hP hS ls hl
  unfold fX12_sunday_94 at hf
  refine lv_istore_n (lv' := [(3, .int y0), (0, .ref (ad 0)), (1, .int x1), (2, .int x2)]) hx hb dX12_sunday_94 rfl hl (by decide) rfl (fun ls hl => ?_)
  refine lv_aload_n hx hb dX12_sunday_95 rfl (lv_at hl 1 rfl) ?_
  refine lv_iload_n hx hb dX12_sunday_96 rfl (lv_at hl 3 rfl) ?_
  refine lv_iconst (v := (2 : Int32)) hx hb dX12_sunday_97 (by decide) ?_
  refine lv_aload_n hx hb dX12_sunday_98 rfl (lv_at hl 1 rfl) ?_
  refine lv_iload_n hx hb dX12_sunday_99 rfl (lv_at hl 3 rfl) ?_
  refine lv_iconst (v := (2 : Int32)) hx hb dX12_sunday_100 (by decide) ?_
  obtain ⟨r94001, hc94002, hf⟩ := c_bd hf
  refine c_goi (va_runV (As := [.int x2, .int (2 : Int32)]) (rest := [.int (2 : Int32), .int x2, .ref (ad 0)]) ⟨hx, hb, hml, hown, hts⟩ (kX12_one hD hc94002) (cwV 2 hts gX12_sunday_X12_one rfl rfl rfl (by decide +kernel) ⟨Nat.le_of_ble_eq_true rfl, Nat.le_of_ble_eq_true rfl⟩) (c_preV hK hP hE hS tM0 rfl) rfl rfl hl.1 rfl (lv_room (Nat.le_of_ble_eq_true rfl)) dX12_sunday_101 ⟨Nat.zero_le _, Nat.zero_le _⟩) hS (fun H locs hP hS => ?_)
  refine lv_iload_n hx hb dX12_sunday_104 rfl (lv_at hl 0 rfl) ?_
  refine lv_if_eq (tgt := 124) hx hb dX12_sunday_105 (by decide) (fun c94003 => ?_) (fun c94003 => ?_)
  · have hf := c_it c94003 hf
    refine lv_iconst (v := (0 : Int32)) hx hb dX12_sunday_124 (by decide) ?_
    exact jX12_sunday_125 C hD hrec48 x1 x2 x2 ((2 : Int32)) r94001 ((0 : Int32)) g hf _ _ hP hS _ (lv_sub hl [1, 2, 3] rfl)
  · have hf := c_ie c94003 hf
    refine lv_iconst (v := (1 : Int32)) hx hb dX12_sunday_108 (by decide) ?_
    refine lv_aload_n hx hb dX12_sunday_109 rfl (lv_at hl 1 rfl) ?_
    refine lv_iload_n hx hb dX12_sunday_110 rfl (lv_at hl 3 rfl) ?_
    refine lv_iconst (v := (3 : Int32)) hx hb dX12_sunday_111 (by decide) ?_
    obtain ⟨r94004, hc94005, hf⟩ := c_bd hf
    refine c_goi (va_runV (As := [.int x2, .int (3 : Int32)]) (rest := [.int (1 : Int32), .int r94001, .int (2 : Int32), .int x2, .ref (ad 0)]) ⟨hx, hb, hml, hown, hts⟩ (kX12_one hD hc94005) (cwV 2 hts gX12_sunday_X12_one rfl rfl rfl (by decide +kernel) ⟨Nat.le_of_ble_eq_true rfl, Nat.le_of_ble_eq_true rfl⟩) (c_preV hK hP hE hS tM0 rfl) rfl rfl hl.1 rfl (lv_room (Nat.le_of_ble_eq_true rfl)) dX12_sunday_112 ⟨Nat.zero_le _, Nat.zero_le _⟩) hS (fun H locs hP hS => ?_)
    refine lv_iload_n hx hb dX12_sunday_115 rfl (lv_at hl 3 rfl) ?_
    refine lv_iadd hx hb dX12_sunday_116 ?_
    refine lv_bipush (v := (12 : Int32)) hx hb dX12_sunday_117 (by decide) ?_
    refine lv_irem hx hb dX12_sunday_119 (by decide) ?_
    refine lv_ishl hx hb dX12_sunday_120 ?_
    refine lv_goto (tgt := 125) hx hb dX12_sunday_121 (by decide) ?_
    exact jX12_sunday_125 C hD hrec48 x1 x2 x2 ((2 : Int32)) r94001 (((1 : Int32) <<< (((r94004 + x2) - (r94004 + x2) / (12 : Int32) * (12 : Int32)) &&& 31))) g hf _ _ hP hS _ (lv_sub hl [1, 2, 3] rfl)
def fX12_sunday_93 (rec48 : Int32 → Int32 → c_G → Option (c_G))  (x1 : Int32) (x2 : Int32) (g : c_G) : Option (c_G) :=
  fX12_sunday_94 rec48 x1 x2 ((0 : Int32)) g
set_option maxRecDepth 100000 in
set_option maxHeartbeats 4000000 in
theorem jX12_sunday_93 {p : Program} {l : Launch} {e : Env} {s : State} {m : MethodId} {below : List Frame} {meth : Method} {c : Code} {D : va_G} {tc : Nat → ClassId} {ad : Nat → Nat} {A : Nat → Prop} {E : (Nat → Nat) × (Nat → Nat) × Nat} {g' : c_G} (C : c_C p s m meth c D tc A E RX12 wsX12_sunday cX12_sunday 4 none ([.ref (ad 0)] : List Value).toArray) (hD : c_D A ad TM) {rec48 : Int32 → Int32 → c_G → Option (c_G)} (hrec48 : ∀ (x1 : Int32) (x2 : Int32) (g : c_G), rec48 x1 x2 g = some g' → ∀ (H : Heap) (locs : List Loc), va_P D vwCl (c_ws tc ad TM g) H → va_S A s.heap H locs → ∀ ls : Array Slot, lv_has ls 4 [(0, .ref (ad 0)), (1, .int x1), (2, .int x2)] → W p l e (c_rm 51) s m ([.ref (ad 0)] : List Value).toArray below meth c H locs 0 0 (MQ below (va_Qv (fun (_ : Unit) => True) (fun _ t => va_P D vwCl (c_ws tc ad TM g') t.heap) A) ([.ref (ad 0)] : List Value).toArray s 0 0 A) (F0 m 48 ls [])) : ∀ (x1 : Int32) (x2 : Int32) (g : c_G), fX12_sunday_93 rec48 x1 x2 g = some g' → ∀ (H : Heap) (locs : List Loc), va_P D vwCl (c_ws tc ad TM g) H → va_S A s.heap H locs → ∀ ls : Array Slot, lv_has ls 4 [(0, .ref (ad 0)), (1, .int x1), (2, .int x2)] → W p l e (c_rm 51) s m ([.ref (ad 0)] : List Value).toArray below meth c H locs 0 0 (MQ below (va_Qv (fun (_ : Unit) => True) (fun _ t => va_P D vwCl (c_ws tc ad TM g') t.heap) A) ([.ref (ad 0)] : List Value).toArray s 0 0 A) (F0 m 93 ls []) := by
  obtain ⟨hx, hb, hr, hml, hts, hown, hlk, hK, hE⟩ := id C
  intro x1 x2 g hf H locs hP hS ls hl
  unfold fX12_sunday_93 at hf
  refine lv_iconst (v := (0 : Int32)) hx hb dX12_sunday_93 (by decide) ?_
  exact jX12_sunday_94 C hD hrec48 x1 x2 ((0 : Int32)) g hf _ _ hP hS _ (lv_sub hl [0, 1, 2] rfl)
def fX12_sunday_48   : Nat → Int32 → Int32 → c_G → Option (c_G)
  | 0, _, _, _ => none
  | n + 1, x1, x2, g => if (g.1 1 78) ≤ x2 then (c_let (((g.1 1 80) + (1 : Int32))) fun v48002 => c_let (c_si g 1 80 v48002) fun g48003 => some g48003) else ((fX12_one g x2 ((3 : Int32))).bind fun r48004 => c_b2 (fX12_change g x2 ((3 : Int32)) ((r48004 + (1 : Int32)))) fun g48007 r48008 => if x1 ≤ 0 then (fX12_sunday_93 (fX12_sunday_48 n) x1 x2 g48007) else ((fX12_one g48007 x2 ((3 : Int32))).bind fun r48010 => if x1 = 0 then none else if (r48010 - r48010 / x1 * x1) = 0 then (fX12_sunday_94 (fX12_sunday_48 n) x1 x2 ((1 : Int32)) g48007) else (fX12_sunday_93 (fX12_sunday_48 n) x1 x2 g48007)))
set_option maxRecDepth 100000 in
set_option maxHeartbeats 4000000 in
theorem jX12_sunday_48 {p : Program} {l : Launch} {e : Env} {s : State} {m : MethodId} {below : List Frame} {meth : Method} {c : Code} {D : va_G} {tc : Nat → ClassId} {ad : Nat → Nat} {A : Nat → Prop} {E : (Nat → Nat) × (Nat → Nat) × Nat} {g' : c_G} (C : c_C p s m meth c D tc A E RX12 wsX12_sunday cX12_sunday 4 none ([.ref (ad 0)] : List Value).toArray) (hD : c_D A ad TM)  : ∀ (n : Nat) (x1 : Int32) (x2 : Int32) (g : c_G), fX12_sunday_48 n x1 x2 g = some g' → ∀ (H : Heap) (locs : List Loc), va_P D vwCl (c_ws tc ad TM g) H → va_S A s.heap H locs → ∀ ls : Array Slot, lv_has ls 4 [(0, .ref (ad 0)), (1, .int x1), (2, .int x2)] → W p l e (c_rm 51) s m ([.ref (ad 0)] : List Value).toArray below meth c H locs 0 0 (MQ below (va_Qv (fun (_ : Unit) => True) (fun _ t => va_P D vwCl (c_ws tc ad TM g') t.heap) A) ([.ref (ad 0)] : List Value).toArray s 0 0 A) (F0 m 48 ls []) := by
  obtain ⟨hx, hb, hr, hml, hts, hown, hlk, hK, hE⟩ := id C
  intro n
  induction n with
  | zero =>
    intro x1 x2 g hf
    cases hf
  | succ n ih =>
    intro x1 x2 g hf H locs hP hS ls hl
    unfold fX12_sunday_48 at hf
    refine lv_iload_n hx hb dX12_sunday_48 rfl (lv_at hl 2 rfl) ?_
    refine lv_aload_n hx hb dX12_sunday_49 rfl (lv_at hl 0 rfl) ?_
    refine c_get hx hb hts i_X12_sunday_X12 hown hK hP 0 tM0 rfl 0 (by decide) (hts _ (List.mem_of_getElem? (i := 1) rfl)) (fun _ h9 => h9) rfl (v := .ref (ad 1)) rfl dX12_sunday_50 ?_
    refine lv_bipush (v := (78 : Int32)) hx hb dX12_sunday_53 (by decide) ?_
    refine c_iald (j := 78) hx hb hK hP 1 tM1 (by decide) (c_inV (by decide)) dX12_sunday_55 ?_
    refine lv_icmp_ge (tgt := 136) hx hb dX12_sunday_56 (by decide) (fun c48001 => ?_) (fun c48001 => ?_)
    · have hf := c_it c48001 hf
      refine lv_aload_n hx hb dX12_sunday_136 rfl (lv_at hl 0 rfl) ?_
      refine c_get hx hb hts i_X12_sunday_X12 hown hK hP 0 tM0 rfl 0 (by decide) (hts _ (List.mem_of_getElem? (i := 1) rfl)) (fun _ h9 => h9) rfl (v := .ref (ad 1)) rfl dX12_sunday_137 ?_
      refine lv_bipush (v := (80 : Int32)) hx hb dX12_sunday_140 (by decide) ?_
      refine lv_dup2_11 hx hb dX12_sunday_142 rfl rfl ?_
      refine c_iald (j := 80) hx hb hK hP 1 tM1 (by decide) (c_inV (by decide)) dX12_sunday_143 ?_
      refine lv_iconst (v := (1 : Int32)) hx hb dX12_sunday_144 (by decide) ?_
      refine lv_iadd hx hb dX12_sunday_145 ?_
      obtain ⟨v48002, ev48002, hf⟩ := c_letE hf
      refine c_topi ev48002 ?_
      obtain ⟨g48003, eg48003, hf⟩ := c_letE hf
      refine c_iast (j := 80) hx hb hK hP hD hS 1 tM1 (by decide) (c_inV (by decide)) eg48003 dX12_sunday_146 (fun H locs hP hS => ?_)
      exact c_vret hx hb hr hlk hP hS (Option.some.inj hf) dX12_sunday_147
    · have hf := c_ie c48001 hf
      refine lv_aload_n hx hb dX12_sunday_59 rfl (lv_at hl 0 rfl) ?_
      refine lv_iload_n hx hb dX12_sunday_60 rfl (lv_at hl 2 rfl) ?_
      refine lv_iconst (v := (3 : Int32)) hx hb dX12_sunday_61 (by decide) ?_
      refine lv_aload_n hx hb dX12_sunday_62 rfl (lv_at hl 0 rfl) ?_
      refine lv_iload_n hx hb dX12_sunday_63 rfl (lv_at hl 2 rfl) ?_
      refine lv_iconst (v := (3 : Int32)) hx hb dX12_sunday_64 (by decide) ?_
      obtain ⟨r48004, hc48005, hf⟩ := c_bd hf
      refine c_goi (va_runV (As := [.int x2, .int (3 : Int32)]) (rest := [.int (3 : Int32), .int x2, .ref (ad 0)]) ⟨hx, hb, hml, hown, hts⟩ (kX12_one hD hc48005) (cwV 2 hts gX12_sunday_X12_one rfl rfl rfl (by decide +kernel) ⟨Nat.le_of_ble_eq_true rfl, Nat.le_of_ble_eq_true rfl⟩) (c_preV hK hP hE hS tM0 rfl) rfl rfl hl.1 rfl (lv_room (Nat.le_of_ble_eq_true rfl)) dX12_sunday_65 ⟨Nat.zero_le _, Nat.zero_le _⟩) hS (fun H locs hP hS => ?_)
      refine lv_iconst (v := (1 : Int32)) hx hb dX12_sunday_68 (by decide) ?_
      refine lv_iadd hx hb dX12_sunday_69 ?_
      obtain ⟨g48007, r48008, hc48006, hf⟩ := c_b2E hf
      refine c_goi (va_runV (As := [.int x2, .int (3 : Int32), .int (r48004 + (1 : Int32))]) (rest := []) ⟨hx, hb, hml, hown, hts⟩ (kX12_change hD hc48006) (cwV 3 hts gX12_sunday_X12_change rfl rfl rfl (by decide +kernel) ⟨Nat.le_of_ble_eq_true rfl, Nat.le_of_ble_eq_true rfl⟩) (c_preV hK hP hE hS tM0 rfl) rfl rfl hl.1 rfl (lv_room (Nat.le_of_ble_eq_true rfl)) dX12_sunday_70 ⟨Nat.zero_le _, Nat.zero_le _⟩) hS (fun H locs hP hS => ?_)
      refine lv_pop hx hb dX12_sunday_73 rfl ?_
      refine lv_iload_n hx hb dX12_sunday_74 rfl (lv_at hl 1 rfl) ?_
      refine lv_if_le (tgt := 93) hx hb dX12_sunday_75 (by decide) (fun c48009 => ?_) (fun c48009 => ?_)
      · have hf := c_it c48009 hf
        exact jX12_sunday_93 C hD ih x1 x2 g48007 hf _ _ hP hS _ (lv_sub hl [0, 1, 2] rfl)
      · have hf := c_ie c48009 hf
        refine lv_aload_n hx hb dX12_sunday_78 rfl (lv_at hl 0 rfl) ?_
        refine lv_iload_n hx hb dX12_sunday_79 rfl (lv_at hl 2 rfl) ?_
        refine lv_iconst (v := (3 : Int32)) hx hb dX12_sunday_80 (by decide) ?_
        obtain ⟨r48010, hc48011, hf⟩ := c_bd hf
        refine c_goi (va_runV (As := [.int x2, .int (3 : Int32)]) (rest := []) ⟨hx, hb, hml, hown, hts⟩ (kX12_one hD hc48011) (cwV 2 hts gX12_sunday_X12_one rfl rfl rfl (by decide +kernel) ⟨Nat.le_of_ble_eq_true rfl, Nat.le_of_ble_eq_true rfl⟩) (c_preV hK hP hE hS tM0 rfl) rfl rfl hl.1 rfl (lv_room (Nat.le_of_ble_eq_true rfl)) dX12_sunday_81 ⟨Nat.zero_le _, Nat.zero_le _⟩) hS (fun H locs hP hS => ?_)
        refine lv_iload_n hx hb dX12_sunday_84 rfl (lv_at hl 1 rfl) ?_
        obtain ⟨hz48012, hf⟩ := c_gn hf
        refine lv_irem hx hb dX12_sunday_85 hz48012 ?_
        refine lv_if_ne (tgt := 93) hx hb dX12_sunday_86 (by decide) (fun c48013 => ?_) (fun c48013 => ?_)
        · have hf := c_ie c48013 hf
          exact jX12_sunday_93 C hD ih x1 x2 g48007 hf _ _ hP hS _ (lv_sub hl [0, 1, 2] rfl)
        · have hf := c_it c48013 hf
          refine lv_iconst (v := (1 : Int32)) hx hb dX12_sunday_89 (by decide) ?_
          refine lv_goto (tgt := 94) hx hb dX12_sunday_90 (by decide) ?_
          exact jX12_sunday_94 C hD ih x1 x2 ((1 : Int32)) g48007 hf _ _ hP hS _ (lv_sub hl [0, 1, 2] rfl)
def fX12_sunday_35 (rec2 : Int32 → c_G → Option (c_G))  (x1 : Int32) (g : c_G) : Option (c_G) :=
  c_let (x1 + (1 : Int32)) fun v35001 => rec2 v35001 g
set_option maxRecDepth 100000 in
set_option maxHeartbeats 4000000 in
theorem jX12_sunday_35 {p : Program} {l : Launch} {e : Env} {s : State} {m : MethodId} {below : List Frame} {meth : Method} {c : Code} {D : va_G} {tc : Nat → ClassId} {ad : Nat → Nat} {A : Nat → Prop} {E : (Nat → Nat) × (Nat → Nat) × Nat} {g' : c_G} (C : c_C p s m meth c D tc A E RX12 wsX12_sunday cX12_sunday 4 none ([.ref (ad 0)] : List Value).toArray) (hD : c_D A ad TM) {rec2 : Int32 → c_G → Option (c_G)} (hrec2 : ∀ (x1 : Int32) (g : c_G), rec2 x1 g = some g' → ∀ (H : Heap) (locs : List Loc), va_P D vwCl (c_ws tc ad TM g) H → va_S A s.heap H locs → ∀ ls : Array Slot, lv_has ls 4 [(0, .ref (ad 0)), (1, .int x1)] → W p l e (c_rm 51) s m ([.ref (ad 0)] : List Value).toArray below meth c H locs 0 0 (MQ below (va_Qv (fun (_ : Unit) => True) (fun _ t => va_P D vwCl (c_ws tc ad TM g') t.heap) A) ([.ref (ad 0)] : List Value).toArray s 0 0 A) (F0 m 2 ls [])) : ∀ (x1 : Int32) (g : c_G), fX12_sunday_35 rec2 x1 g = some g' → ∀ (H : Heap) (locs : List Loc), va_P D vwCl (c_ws tc ad TM g) H → va_S A s.heap H locs → ∀ ls : Array Slot, lv_has ls 4 [(0, .ref (ad 0)), (1, .int x1)] → W p l e (c_rm 51) s m ([.ref (ad 0)] : List Value).toArray below meth c H locs 0 0 (MQ below (va_Qv (fun (_ : Unit) => True) (fun _ t => va_P D vwCl (c_ws tc ad TM g') t.heap) A) ([.ref (ad 0)] : List Value).toArray s 0 0 A) (F0 m 35 ls []) := by
  obtain ⟨hx, hb, hr, hml, hts, hown, hlk, hK, hE⟩ := id C
  intro x1 g hf H locs hP hS ls hl
  unfold fX12_sunday_35 at hf
  obtain ⟨v35001, ev35001, hf⟩ := c_letE hf
  refine lv_iinc (v := v35001) (lv' := [(1, .int v35001), (0, .ref (ad 0))]) hx hb dX12_sunday_35 hl (k := 1) rfl (by rw [ev35001]; rfl) (by decide) rfl (fun ls hl => ?_)
  refine lv_goto (tgt := 2) hx hb dX12_sunday_38 (by decide) ?_
  exact hrec2 v35001 g hf _ _ hP hS _ (lv_sub hl [1, 0] rfl)
def fX12_sunday_2   : Nat → Int32 → c_G → Option (c_G)
  | 0, _, _ => none
  | n + 1, x1, g => if (g.1 1 78) ≤ x1 then (c_b2 (fX12_learnNow g) fun g2003 r2004 => fX12_sunday_48 c_F r2004 ((0 : Int32)) g2003) else ((fX12_one g x1 ((4 : Int32))).bind fun r2005 => if r2005 = (-1 : Int32) then (fX12_sunday_35 (fX12_sunday_2 n) x1 g) else ((fX12_one g x1 ((4 : Int32))).bind fun r2008 => c_b2 (fX12_goesTo g x1 r2008) fun g2011 r2012 => fX12_sunday_35 (fX12_sunday_2 n) x1 g2011))
set_option maxRecDepth 100000 in
set_option maxHeartbeats 4000000 in
theorem jX12_sunday_2 {p : Program} {l : Launch} {e : Env} {s : State} {m : MethodId} {below : List Frame} {meth : Method} {c : Code} {D : va_G} {tc : Nat → ClassId} {ad : Nat → Nat} {A : Nat → Prop} {E : (Nat → Nat) × (Nat → Nat) × Nat} {g' : c_G} (C : c_C p s m meth c D tc A E RX12 wsX12_sunday cX12_sunday 4 none ([.ref (ad 0)] : List Value).toArray) (hD : c_D A ad TM)  : ∀ (n : Nat) (x1 : Int32) (g : c_G), fX12_sunday_2 n x1 g = some g' → ∀ (H : Heap) (locs : List Loc), va_P D vwCl (c_ws tc ad TM g) H → va_S A s.heap H locs → ∀ ls : Array Slot, lv_has ls 4 [(0, .ref (ad 0)), (1, .int x1)] → W p l e (c_rm 51) s m ([.ref (ad 0)] : List Value).toArray below meth c H locs 0 0 (MQ below (va_Qv (fun (_ : Unit) => True) (fun _ t => va_P D vwCl (c_ws tc ad TM g') t.heap) A) ([.ref (ad 0)] : List Value).toArray s 0 0 A) (F0 m 2 ls []) := by
  obtain ⟨hx, hb, hr, hml, hts, hown, hlk, hK, hE⟩ := id C
  intro n
  induction n with
  | zero =>
    intro x1 g hf
    cases hf
  | succ n ih =>
    intro x1 g hf H locs hP hS ls hl
    unfold fX12_sunday_2 at hf
    refine lv_iload_n hx hb dX12_sunday_2 rfl (lv_at hl 1 rfl) ?_
    refine lv_aload_n hx hb dX12_sunday_3 rfl (lv_at hl 0 rfl) ?_
    refine c_get hx hb hts i_X12_sunday_X12 hown hK hP 0 tM0 rfl 0 (by decide) (hts _ (List.mem_of_getElem? (i := 1) rfl)) (fun _ h9 => h9) rfl (v := .ref (ad 1)) rfl dX12_sunday_4 ?_
    refine lv_bipush (v := (78 : Int32)) hx hb dX12_sunday_7 (by decide) ?_
    refine c_iald (j := 78) hx hb hK hP 1 tM1 (by decide) (c_inV (by decide)) dX12_sunday_9 ?_
    refine lv_icmp_ge (tgt := 41) hx hb dX12_sunday_10 (by decide) (fun c2001 => ?_) (fun c2001 => ?_)
    · have hf := c_it c2001 hf
      refine lv_aload_n hx hb dX12_sunday_41 rfl (lv_at hl 0 rfl) ?_
      obtain ⟨g2003, r2004, hc2002, hf⟩ := c_b2E hf
      refine c_goi (va_runV (As := []) (rest := []) ⟨hx, hb, hml, hown, hts⟩ (kX12_learnNow hD hc2002) (cwV 0 hts gX12_sunday_X12_learnNow rfl rfl rfl (by decide +kernel) ⟨Nat.le_of_ble_eq_true rfl, Nat.le_of_ble_eq_true rfl⟩) (c_preV hK hP hE hS tM0 rfl) rfl rfl hl.1 rfl (lv_room (Nat.le_of_ble_eq_true rfl)) dX12_sunday_42 ⟨Nat.zero_le _, Nat.zero_le _⟩) hS (fun H locs hP hS => ?_)
      refine lv_istore_n (lv' := [(1, .int r2004), (0, .ref (ad 0))]) hx hb dX12_sunday_45 rfl hl (by decide) rfl (fun ls hl => ?_)
      refine lv_iconst (v := (0 : Int32)) hx hb dX12_sunday_46 (by decide) ?_
      refine lv_istore_n (lv' := [(2, .int (0 : Int32)), (1, .int r2004), (0, .ref (ad 0))]) hx hb dX12_sunday_47 rfl hl (by decide) rfl (fun ls hl => ?_)
      exact jX12_sunday_48 C hD c_F r2004 ((0 : Int32)) g2003 hf _ _ hP hS _ (lv_sub hl [2, 1, 0] rfl)
    · have hf := c_ie c2001 hf
      refine lv_aload_n hx hb dX12_sunday_13 rfl (lv_at hl 0 rfl) ?_
      refine lv_iload_n hx hb dX12_sunday_14 rfl (lv_at hl 1 rfl) ?_
      refine lv_iconst (v := (4 : Int32)) hx hb dX12_sunday_15 (by decide) ?_
      obtain ⟨r2005, hc2006, hf⟩ := c_bd hf
      refine c_goi (va_runV (As := [.int x1, .int (4 : Int32)]) (rest := []) ⟨hx, hb, hml, hown, hts⟩ (kX12_one hD hc2006) (cwV 2 hts gX12_sunday_X12_one rfl rfl rfl (by decide +kernel) ⟨Nat.le_of_ble_eq_true rfl, Nat.le_of_ble_eq_true rfl⟩) (c_preV hK hP hE hS tM0 rfl) rfl rfl hl.1 rfl (lv_room (Nat.le_of_ble_eq_true rfl)) dX12_sunday_16 ⟨Nat.zero_le _, Nat.zero_le _⟩) hS (fun H locs hP hS => ?_)
      refine lv_iconst (v := (-1 : Int32)) hx hb dX12_sunday_19 (by decide) ?_
      refine lv_icmp_eq (tgt := 35) hx hb dX12_sunday_20 (by decide) (fun c2007 => ?_) (fun c2007 => ?_)
      · have hf := c_it c2007 hf
        exact jX12_sunday_35 C hD ih x1 g hf _ _ hP hS _ (lv_sub hl [0, 1] rfl)
      · have hf := c_ie c2007 hf
        refine lv_aload_n hx hb dX12_sunday_23 rfl (lv_at hl 0 rfl) ?_
        refine lv_iload_n hx hb dX12_sunday_24 rfl (lv_at hl 1 rfl) ?_
        refine lv_aload_n hx hb dX12_sunday_25 rfl (lv_at hl 0 rfl) ?_
        refine lv_iload_n hx hb dX12_sunday_26 rfl (lv_at hl 1 rfl) ?_
        refine lv_iconst (v := (4 : Int32)) hx hb dX12_sunday_27 (by decide) ?_
        obtain ⟨r2008, hc2009, hf⟩ := c_bd hf
        refine c_goi (va_runV (As := [.int x1, .int (4 : Int32)]) (rest := [.int x1, .ref (ad 0)]) ⟨hx, hb, hml, hown, hts⟩ (kX12_one hD hc2009) (cwV 2 hts gX12_sunday_X12_one rfl rfl rfl (by decide +kernel) ⟨Nat.le_of_ble_eq_true rfl, Nat.le_of_ble_eq_true rfl⟩) (c_preV hK hP hE hS tM0 rfl) rfl rfl hl.1 rfl (lv_room (Nat.le_of_ble_eq_true rfl)) dX12_sunday_28 ⟨Nat.zero_le _, Nat.zero_le _⟩) hS (fun H locs hP hS => ?_)
        obtain ⟨g2011, r2012, hc2010, hf⟩ := c_b2E hf
        refine c_goi (va_runV (As := [.int x1, .int r2008]) (rest := []) ⟨hx, hb, hml, hown, hts⟩ (kX12_goesTo hD hc2010) (cwV 2 hts gX12_sunday_X12_goesTo rfl rfl rfl (by decide +kernel) ⟨Nat.le_of_ble_eq_true rfl, Nat.le_of_ble_eq_true rfl⟩) (c_preV hK hP hE hS tM0 rfl) rfl rfl hl.1 rfl (lv_room (Nat.le_of_ble_eq_true rfl)) dX12_sunday_31 ⟨Nat.zero_le _, Nat.zero_le _⟩) hS (fun H locs hP hS => ?_)
        refine lv_pop hx hb dX12_sunday_34 rfl ?_
        exact jX12_sunday_35 C hD ih x1 g2011 hf _ _ hP hS _ (lv_sub hl [0, 1] rfl)
def fX12_sunday (g : c_G)  : Option (c_G) :=
  fX12_sunday_2 c_F ((0 : Int32)) g
set_option maxRecDepth 100000 in
set_option maxHeartbeats 4000000 in
theorem kX12_sunday {l : Launch} {D : va_G} {tc : Nat → ClassId} {ad : Nat → Nat} {A : Nat → Prop} {E : (Nat → Nat) × (Nat → Nat) × Nat} (hD : c_D A ad TM)  {g g' : c_G} (hf : fX12_sunday g  = some g') : c_Mv l yX12_sunday wsX12_sunday (c_rm 51) D tc ad A E TM ([.ref (ad 0)] : List Value) g g' := by
  refine c_ofW (bytes := cX12_sunday) (maxL := 4) (ret := none) (by decide) rfl (Nat.le_of_ble_eq_true rfl) ?_
  intro p e s m below meth c ls C hP hS hl
  unfold fX12_sunday at hf
  obtain ⟨hx, hb, hr, hml, hts, hown, hlk, hK, hE⟩ := id C
  have hl : lv_has ls 4 [(0, .ref (ad 0))] := hl
  refine lv_iconst (v := (0 : Int32)) hx hb dX12_sunday_0 (by decide) ?_
  refine lv_istore_n (lv' := [(1, .int (0 : Int32)), (0, .ref (ad 0))]) hx hb dX12_sunday_1 rfl hl (by decide) rfl (fun ls hl => ?_)
  exact jX12_sunday_2 C hD c_F ((0 : Int32)) g hf _ _ hP hS _ (lv_sub hl [1, 0] rfl)
theorem i_X12_named_X12 : ∀ w ∈ u_ws RX12 TX12 32, w ∈ wsX12_named := c_inP [118, 119, 120, 121, 122, 123, 124, 125, 126, 127, 128, 129, 130, 131, 132, 133, 134, 135, 136, 137, 138, 139, 140, 141, 142, 143, 144, 145, 146, 147, 148, 149] (by decide +kernel)
theorem dX12_named_0 : decode cX12_named 0 = .ok (.aload_n 0, 1) := by decide +kernel
theorem dX12_named_1 : decode cX12_named 1 = .ok (.iconst 0, 1) := by decide +kernel
theorem dX12_named_2 : decode cX12_named 2 = .ok (.invokevirtual 217, 3) := by decide +kernel
theorem dX12_named_5 : decode cX12_named 5 = .ok (.bipush (-5), 2) := by decide +kernel
theorem dX12_named_7 : decode cX12_named 7 = .ok (.istore_n 2, 1) := by decide +kernel
theorem dX12_named_8 : decode cX12_named 8 = .ok (.iconst 0, 1) := by decide +kernel
theorem dX12_named_9 : decode cX12_named 9 = .ok (.istore_n 3, 1) := by decide +kernel
theorem dX12_named_10 : decode cX12_named 10 = .ok (.iload_n 3, 1) := by decide +kernel
theorem dX12_named_11 : decode cX12_named 11 = .ok (.bipush 60, 2) := by decide +kernel
theorem dX12_named_13 : decode cX12_named 13 = .ok (.if_icmp .gt 40, 3) := by decide +kernel
theorem dX12_named_16 : decode cX12_named 16 = .ok (.iload_n 2, 1) := by decide +kernel
theorem dX12_named_17 : decode cX12_named 17 = .ok (.bipush (-5), 2) := by decide +kernel
theorem dX12_named_19 : decode cX12_named 19 = .ok (.if_icmp .ne 34, 3) := by decide +kernel
theorem dX12_named_22 : decode cX12_named 22 = .ok (.aload_n 0, 1) := by decide +kernel
theorem dX12_named_23 : decode cX12_named 23 = .ok (.aload_n 0, 1) := by decide +kernel
theorem dX12_named_24 : decode cX12_named 24 = .ok (.getfield 15, 3) := by decide +kernel
theorem dX12_named_27 : decode cX12_named 27 = .ok (.iload_n 1, 1) := by decide +kernel
theorem dX12_named_28 : decode cX12_named 28 = .ok (.iconst 1, 1) := by decide +kernel
theorem dX12_named_29 : decode cX12_named 29 = .ok (.invokevirtual 118, 3) := by decide +kernel
theorem dX12_named_32 : decode cX12_named 32 = .ok (.iconst (-1), 1) := by decide +kernel
theorem dX12_named_33 : decode cX12_named 33 = .ok (.if_icmp .ne 8, 3) := by decide +kernel
theorem dX12_named_36 : decode cX12_named 36 = .ok (.bipush (-5), 2) := by decide +kernel
theorem dX12_named_38 : decode cX12_named 38 = .ok (.goto 4, 3) := by decide +kernel
theorem dX12_named_41 : decode cX12_named 41 = .ok (.iload_n 3, 1) := by decide +kernel
theorem dX12_named_42 : decode cX12_named 42 = .ok (.istore_n 2, 1) := by decide +kernel
theorem dX12_named_43 : decode cX12_named 43 = .ok (.aload_n 0, 1) := by decide +kernel
theorem dX12_named_44 : decode cX12_named 44 = .ok (.invokevirtual 214, 3) := by decide +kernel
theorem dX12_named_47 : decode cX12_named 47 = .ok (.iinc 3 1, 3) := by decide +kernel
theorem dX12_named_50 : decode cX12_named 50 = .ok (.goto (-40), 3) := by decide +kernel
theorem dX12_named_53 : decode cX12_named 53 = .ok (.aload_n 0, 1) := by decide +kernel
theorem dX12_named_54 : decode cX12_named 54 = .ok (.iconst 0, 1) := by decide +kernel
theorem dX12_named_55 : decode cX12_named 55 = .ok (.invokevirtual 220, 3) := by decide +kernel
theorem dX12_named_58 : decode cX12_named 58 = .ok (.iload_n 2, 1) := by decide +kernel
theorem dX12_named_59 : decode cX12_named 59 = .ok (.ireturn, 1) := by decide +kernel
set_option maxRecDepth 20000 in
theorem ggX12_named_X12_keep : GoodIn wsX12_named wsX12_keep := goodIn_r _ [6, 7, 1, 118, 119, 120, 121, 122, 123, 124, 125, 126, 127, 128, 129, 130, 131, 132, 133, 134, 135, 136, 137, 138, 139, 140, 141, 142, 143, 144, 145, 146, 147, 148, 149] (by decide +kernel) (by decide +kernel)
set_option maxRecDepth 20000 in
theorem gX12_named_X12_keep : GoodIn wsX12_named (wsV RX12 217 RX12 yX12_keep wsX12_keep) := goodIn_app (goodIn_of _ (by decide +kernel)) ggX12_named_X12_keep
set_option maxRecDepth 20000 in
theorem ggX12_named_X12_of : GoodIn wsX12_named wsX12_of := goodIn_r _ [11] (by decide +kernel) (by decide +kernel)
set_option maxRecDepth 20000 in
theorem gX12_named_X12_of : GoodIn wsX12_named (wsV RX12 118 RX12 yX12_of wsX12_of) := goodIn_app (goodIn_of _ (by decide +kernel)) ggX12_named_X12_of
set_option maxRecDepth 20000 in
theorem ggX12_named_X12_sunday : GoodIn wsX12_named wsX12_sunday := goodIn_r _ [15, 1, 16, 17, 18, 5, 19, 20, 21, 22, 23, 24, 25, 26, 27, 28, 29, 30, 31, 32, 33, 34, 35, 36, 37, 38, 39, 40, 41, 42, 43, 44, 45, 46, 47, 8, 9, 10, 11, 48, 49, 50, 51, 52, 53, 54, 55, 56, 57, 58, 59, 60, 61, 62, 63, 64, 65, 66, 67, 68, 69, 70, 71, 72, 73, 74, 75, 76, 77, 78, 79, 80, 81, 82, 83, 84, 85, 86, 87, 88, 89, 90, 91, 92, 93, 94, 95, 96, 97, 98, 99, 100, 101, 102, 103, 104, 105, 106, 107, 108, 109, 110, 111, 112, 113, 118, 119, 120, 121, 122, 123, 124, 125, 126, 127, 128, 129, 130, 131, 132, 133, 134, 135, 136, 137, 138, 139, 140, 141, 142, 143, 144, 145, 146, 147, 148, 149] (by decide +kernel) (by decide +kernel)
set_option maxRecDepth 20000 in
theorem gX12_named_X12_sunday : GoodIn wsX12_named (wsV RX12 214 RX12 yX12_sunday wsX12_sunday) := goodIn_app (goodIn_of _ (by decide +kernel)) ggX12_named_X12_sunday
set_option maxRecDepth 20000 in
theorem ggX12_named_X12_lay : GoodIn wsX12_named wsX12_lay := goodIn_r _ [117, 1, 7, 118, 119, 120, 121, 122, 123, 124, 125, 126, 127, 128, 129, 130, 131, 132, 133, 134, 135, 136, 137, 138, 139, 140, 141, 142, 143, 144, 145, 146, 147, 148, 149] (by decide +kernel) (by decide +kernel)
set_option maxRecDepth 20000 in
theorem gX12_named_X12_lay : GoodIn wsX12_named (wsV RX12 220 RX12 yX12_lay wsX12_lay) := goodIn_app (goodIn_of _ (by decide +kernel)) ggX12_named_X12_lay
def fX12_named_53  (a1 : Int32) (x2 : Int32) (g : c_G) : Option (c_G × Int32) :=
  (fX12_lay g ((0 : Int32))).bind fun g53002 => some (g53002, x2)
set_option maxRecDepth 100000 in
set_option maxHeartbeats 4000000 in
theorem jX12_named_53 {p : Program} {l : Launch} {e : Env} {s : State} {m : MethodId} {below : List Frame} {meth : Method} {c : Code} {D : va_G} {tc : Nat → ClassId} {ad : Nat → Nat} {A : Nat → Prop} {E : (Nat → Nat) × (Nat → Nat) × Nat} {a1 : Int32} {g' : c_G} {r : Int32} (C : c_C p s m meth c D tc A E RX12 wsX12_named cX12_named 4 (some .int) ([.ref (ad 0), .int a1] : List Value).toArray) (hD : c_D A ad TM)  : ∀ (x2 : Int32) (g : c_G), fX12_named_53 a1 x2 g = some (g', r) → ∀ (H : Heap) (locs : List Loc), va_P D vwCl (c_ws tc ad TM g) H → va_S A s.heap H locs → ∀ ls : Array Slot, lv_has ls 4 [(0, .ref (ad 0)), (2, .int x2)] → W p l e (c_rm 52) s m ([.ref (ad 0), .int a1] : List Value).toArray below meth c H locs 0 0 (MQ below (va_Qi (fun (x : Int32) (_ : Unit) => x = r) (fun _ t => va_P D vwCl (c_ws tc ad TM g') t.heap) A) ([.ref (ad 0), .int a1] : List Value).toArray s 0 0 A) (F0 m 53 ls []) := by
  obtain ⟨hx, hb, hr, hml, hts, hown, hlk, hK, hE⟩ := id C
  intro x2 g hf H locs hP hS ls hl
  unfold fX12_named_53 at hf
  refine lv_aload_n hx hb dX12_named_53 rfl (lv_at hl 0 rfl) ?_
  refine lv_iconst (v := (0 : Int32)) hx hb dX12_named_54 (by decide) ?_
  obtain ⟨g53002, hc53001, hf⟩ := c_bd hf
  refine c_gov (va_runV (As := [.int (0 : Int32)]) (rest := []) ⟨hx, hb, hml, hown, hts⟩ (kX12_lay hD hc53001) (cwV 1 hts gX12_named_X12_lay rfl rfl rfl (by decide +kernel) ⟨Nat.le_of_ble_eq_true rfl, Nat.le_of_ble_eq_true rfl⟩) (c_preV hK hP hE hS tM0 rfl) rfl rfl hl.1 rfl (lv_room (Nat.le_of_ble_eq_true rfl)) dX12_named_55 ⟨Nat.zero_le _, Nat.zero_le _⟩) hS (fun H locs hP hS => ?_)
  refine lv_iload_n hx hb dX12_named_58 rfl (lv_at hl 1 rfl) ?_
  exact c_iret hx hb hr hlk hP hS rfl (c_inj hf) dX12_named_59
def fX12_named_42 (rec10 : Int32 → Int32 → Int32 → c_G → Option (c_G × Int32)) (a1 : Int32) (x1 : Int32) (x3 : Int32) (y0 : Int32) (g : c_G) : Option (c_G × Int32) :=
  (fX12_sunday g).bind fun g42002 => c_let (x3 + (1 : Int32)) fun v42003 => rec10 x1 y0 v42003 g42002
set_option maxRecDepth 100000 in
set_option maxHeartbeats 4000000 in
theorem jX12_named_42 {p : Program} {l : Launch} {e : Env} {s : State} {m : MethodId} {below : List Frame} {meth : Method} {c : Code} {D : va_G} {tc : Nat → ClassId} {ad : Nat → Nat} {A : Nat → Prop} {E : (Nat → Nat) × (Nat → Nat) × Nat} {a1 : Int32} {g' : c_G} {r : Int32} (C : c_C p s m meth c D tc A E RX12 wsX12_named cX12_named 4 (some .int) ([.ref (ad 0), .int a1] : List Value).toArray) (hD : c_D A ad TM) {rec10 : Int32 → Int32 → Int32 → c_G → Option (c_G × Int32)} (hrec10 : ∀ (x1 : Int32) (x2 : Int32) (x3 : Int32) (g : c_G), rec10 x1 x2 x3 g = some (g', r) → ∀ (H : Heap) (locs : List Loc), va_P D vwCl (c_ws tc ad TM g) H → va_S A s.heap H locs → ∀ ls : Array Slot, lv_has ls 4 [(0, .ref (ad 0)), (1, .int x1), (2, .int x2), (3, .int x3)] → W p l e (c_rm 52) s m ([.ref (ad 0), .int a1] : List Value).toArray below meth c H locs 0 0 (MQ below (va_Qi (fun (x : Int32) (_ : Unit) => x = r) (fun _ t => va_P D vwCl (c_ws tc ad TM g') t.heap) A) ([.ref (ad 0), .int a1] : List Value).toArray s 0 0 A) (F0 m 10 ls [])) : ∀ (x1 : Int32) (x3 : Int32) (y0 : Int32) (g : c_G), fX12_named_42 rec10 a1 x1 x3 y0 g = some (g', r) → ∀ (H : Heap) (locs : List Loc), va_P D vwCl (c_ws tc ad TM g) H → va_S A s.heap H locs → ∀ ls : Array Slot, lv_has ls 4 [(0, .ref (ad 0)), (1, .int x1), (3, .int x3)] → W p l e (c_rm 52) s m ([.ref (ad 0), .int a1] : List Value).toArray below meth c H locs 0 0 (MQ below (va_Qi (fun (x : Int32) (_ : Unit) => x = r) (fun _ t => va_P D vwCl (c_ws tc ad TM g') t.heap) A) ([.ref (ad 0), .int a1] : List Value).toArray s 0 0 A) (F0 m 42 ls [.int y0]) := by
  obtain ⟨hx, hb, hr, hml, hts, hown, hlk, hK, hE⟩ := id C
  intro x1 x3 y0 g hf H locs hP hS ls hl
  unfold fX12_named_42 at hf
  refine lv_istore_n (lv' := [(2, .int y0), (0, .ref (ad 0)), (1, .int x1), (3, .int x3)]) hx hb dX12_named_42 rfl hl (by decide) rfl (fun ls hl => ?_)
  refine lv_aload_n hx hb dX12_named_43 rfl (lv_at hl 1 rfl) ?_
  obtain ⟨g42002, hc42001, hf⟩ := c_bd hf
  refine c_gov (va_runV (As := []) (rest := []) ⟨hx, hb, hml, hown, hts⟩ (kX12_sunday hD hc42001) (cwV 0 hts gX12_named_X12_sunday rfl rfl rfl (by decide +kernel) ⟨Nat.le_of_ble_eq_true rfl, Nat.le_of_ble_eq_true rfl⟩) (c_preV hK hP hE hS tM0 rfl) rfl rfl hl.1 rfl (lv_room (Nat.le_of_ble_eq_true rfl)) dX12_named_44 ⟨Nat.zero_le _, Nat.zero_le _⟩) hS (fun H locs hP hS => ?_)
  obtain ⟨v42003, ev42003, hf⟩ := c_letE hf
  refine lv_iinc (v := v42003) (lv' := [(3, .int v42003), (2, .int y0), (0, .ref (ad 0)), (1, .int x1)]) hx hb dX12_named_47 hl (k := 3) rfl (by rw [ev42003]; rfl) (by decide) rfl (fun ls hl => ?_)
  refine lv_goto (tgt := 10) hx hb dX12_named_50 (by decide) ?_
  exact hrec10 x1 y0 v42003 g42002 hf _ _ hP hS _ (lv_sub hl [2, 3, 1, 0] rfl)
def fX12_named_10  (a1 : Int32) : Nat → Int32 → Int32 → Int32 → c_G → Option (c_G × Int32)
  | 0, _, _, _, _ => none
  | n + 1, x1, x2, x3, g => if (60 : Int32) < x3 then (fX12_named_53 a1 x2 g) else (if x2 = (-5 : Int32) then ((fX12_of g x1 ((1 : Int32))).bind fun r10003 => if r10003 = (-1 : Int32) then (fX12_named_42 (fX12_named_10 a1 n) a1 x1 x3 ((-5 : Int32)) g) else (fX12_named_42 (fX12_named_10 a1 n) a1 x1 x3 x3 g)) else (fX12_named_53 a1 x2 g))
set_option maxRecDepth 100000 in
set_option maxHeartbeats 4000000 in
theorem jX12_named_10 {p : Program} {l : Launch} {e : Env} {s : State} {m : MethodId} {below : List Frame} {meth : Method} {c : Code} {D : va_G} {tc : Nat → ClassId} {ad : Nat → Nat} {A : Nat → Prop} {E : (Nat → Nat) × (Nat → Nat) × Nat} {a1 : Int32} {g' : c_G} {r : Int32} (C : c_C p s m meth c D tc A E RX12 wsX12_named cX12_named 4 (some .int) ([.ref (ad 0), .int a1] : List Value).toArray) (hD : c_D A ad TM)  : ∀ (n : Nat) (x1 : Int32) (x2 : Int32) (x3 : Int32) (g : c_G), fX12_named_10 a1 n x1 x2 x3 g = some (g', r) → ∀ (H : Heap) (locs : List Loc), va_P D vwCl (c_ws tc ad TM g) H → va_S A s.heap H locs → ∀ ls : Array Slot, lv_has ls 4 [(0, .ref (ad 0)), (1, .int x1), (2, .int x2), (3, .int x3)] → W p l e (c_rm 52) s m ([.ref (ad 0), .int a1] : List Value).toArray below meth c H locs 0 0 (MQ below (va_Qi (fun (x : Int32) (_ : Unit) => x = r) (fun _ t => va_P D vwCl (c_ws tc ad TM g') t.heap) A) ([.ref (ad 0), .int a1] : List Value).toArray s 0 0 A) (F0 m 10 ls []) := by
  obtain ⟨hx, hb, hr, hml, hts, hown, hlk, hK, hE⟩ := id C
  intro n
  induction n with
  | zero =>
    intro x1 x2 x3 g hf
    cases hf
  | succ n ih =>
    intro x1 x2 x3 g hf H locs hP hS ls hl
    unfold fX12_named_10 at hf
    refine lv_iload_n hx hb dX12_named_10 rfl (lv_at hl 3 rfl) ?_
    refine lv_bipush (v := (60 : Int32)) hx hb dX12_named_11 (by decide) ?_
    refine lv_icmp_gt (tgt := 53) hx hb dX12_named_13 (by decide) (fun c10001 => ?_) (fun c10001 => ?_)
    · have hf := c_it c10001 hf
      exact jX12_named_53 C hD x2 g hf _ _ hP hS _ (lv_sub hl [0, 2] rfl)
    · have hf := c_ie c10001 hf
      refine lv_iload_n hx hb dX12_named_16 rfl (lv_at hl 2 rfl) ?_
      refine lv_bipush (v := (-5 : Int32)) hx hb dX12_named_17 (by decide) ?_
      refine lv_icmp_ne (tgt := 53) hx hb dX12_named_19 (by decide) (fun c10002 => ?_) (fun c10002 => ?_)
      · have hf := c_ie c10002 hf
        exact jX12_named_53 C hD x2 g hf _ _ hP hS _ (lv_sub hl [0, 2] rfl)
      · have hf := c_it c10002 hf
        refine lv_aload_n hx hb dX12_named_22 rfl (lv_at hl 0 rfl) ?_
        refine lv_aload_n hx hb dX12_named_23 rfl (lv_at hl 0 rfl) ?_
        refine c_get hx hb hts i_X12_named_X12 hown hK hP 0 tM0 rfl 0 (by decide) (hts _ (List.mem_of_getElem? (i := 1) rfl)) (fun _ h9 => h9) rfl (v := .ref (ad 1)) rfl dX12_named_24 ?_
        refine lv_iload_n hx hb dX12_named_27 rfl (lv_at hl 1 rfl) ?_
        refine lv_iconst (v := (1 : Int32)) hx hb dX12_named_28 (by decide) ?_
        obtain ⟨r10003, hc10004, hf⟩ := c_bd hf
        refine c_goi (va_runV (As := [.ref (ad 1), .int x1, .int (1 : Int32)]) (rest := []) ⟨hx, hb, hml, hown, hts⟩ (kX12_of hD hc10004) (cwV 3 hts gX12_named_X12_of rfl rfl rfl (by decide +kernel) ⟨Nat.le_of_ble_eq_true rfl, Nat.le_of_ble_eq_true rfl⟩) (c_preV hK hP hE hS tM0 rfl) rfl rfl hl.1 rfl (lv_room (Nat.le_of_ble_eq_true rfl)) dX12_named_29 ⟨Nat.zero_le _, Nat.zero_le _⟩) hS (fun H locs hP hS => ?_)
        refine lv_iconst (v := (-1 : Int32)) hx hb dX12_named_32 (by decide) ?_
        refine lv_icmp_ne (tgt := 41) hx hb dX12_named_33 (by decide) (fun c10005 => ?_) (fun c10005 => ?_)
        · have hf := c_ie c10005 hf
          refine lv_iload_n hx hb dX12_named_41 rfl (lv_at hl 3 rfl) ?_
          exact jX12_named_42 C hD ih x1 x3 x3 g hf _ _ hP hS _ (lv_sub hl [0, 1, 3] rfl)
        · have hf := c_it c10005 hf
          refine lv_bipush (v := (-5 : Int32)) hx hb dX12_named_36 (by decide) ?_
          refine lv_goto (tgt := 42) hx hb dX12_named_38 (by decide) ?_
          exact jX12_named_42 C hD ih x1 x3 ((-5 : Int32)) g hf _ _ hP hS _ (lv_sub hl [0, 1, 3] rfl)
def fX12_named (g : c_G) (a1 : Int32) : Option (c_G × Int32) :=
  (fX12_keep g ((0 : Int32))).bind fun g2 => fX12_named_10 a1 c_F a1 ((-5 : Int32)) ((0 : Int32)) g2
set_option maxRecDepth 100000 in
set_option maxHeartbeats 4000000 in
theorem kX12_named {l : Launch} {D : va_G} {tc : Nat → ClassId} {ad : Nat → Nat} {A : Nat → Prop} {E : (Nat → Nat) × (Nat → Nat) × Nat} (hD : c_D A ad TM) {a1 : Int32} {g g' : c_G} {r : Int32} (hf : fX12_named g a1 = some (g', r)) : c_Mi l yX12_named wsX12_named (c_rm 52) D tc ad A E TM ([.ref (ad 0), .int a1] : List Value) g g' r := by
  refine c_ofW (bytes := cX12_named) (maxL := 4) (ret := (some .int)) (by decide) rfl (Nat.le_of_ble_eq_true rfl) ?_
  intro p e s m below meth c ls C hP hS hl
  unfold fX12_named at hf
  obtain ⟨hx, hb, hr, hml, hts, hown, hlk, hK, hE⟩ := id C
  have hl : lv_has ls 4 [(0, .ref (ad 0)), (1, .int a1)] := hl
  refine lv_aload_n hx hb dX12_named_0 rfl (lv_at hl 0 rfl) ?_
  refine lv_iconst (v := (0 : Int32)) hx hb dX12_named_1 (by decide) ?_
  obtain ⟨g2, hc1, hf⟩ := c_bd hf
  refine c_gov (va_runV (As := [.int (0 : Int32)]) (rest := []) ⟨hx, hb, hml, hown, hts⟩ (kX12_keep hD hc1) (cwV 1 hts gX12_named_X12_keep rfl rfl rfl (by decide +kernel) ⟨Nat.le_of_ble_eq_true rfl, Nat.le_of_ble_eq_true rfl⟩) (c_preV hK hP hE hS tM0 rfl) rfl rfl hl.1 rfl (lv_room (Nat.le_of_ble_eq_true rfl)) dX12_named_2 ⟨Nat.zero_le _, Nat.zero_le _⟩) hS (fun H locs hP hS => ?_)
  refine lv_bipush (v := (-5 : Int32)) hx hb dX12_named_5 (by decide) ?_
  refine lv_istore_n (lv' := [(2, .int (-5 : Int32)), (0, .ref (ad 0)), (1, .int a1)]) hx hb dX12_named_7 rfl hl (by decide) rfl (fun ls hl => ?_)
  refine lv_iconst (v := (0 : Int32)) hx hb dX12_named_8 (by decide) ?_
  refine lv_istore_n (lv' := [(3, .int (0 : Int32)), (2, .int (-5 : Int32)), (0, .ref (ad 0)), (1, .int a1)]) hx hb dX12_named_9 rfl hl (by decide) rfl (fun ls hl => ?_)
  exact jX12_named_10 C hD c_F a1 ((-5 : Int32)) ((0 : Int32)) g2 hf _ _ hP hS _ (lv_sub hl [2, 3, 1, 0] rfl)
theorem i_X12_elder_X12 : ∀ w ∈ u_ws RX12 TX12 32, w ∈ wsX12_elder := c_inP [131, 132, 133, 134, 135, 136, 137, 138, 139, 140, 141, 142, 143, 144, 145, 146, 147, 148, 149, 150, 151, 152, 153, 154, 155, 156, 157, 158, 159, 160, 161, 162] (by decide +kernel)
theorem dX12_elder_0 : decode cX12_elder 0 = .ok (.iload_n 1, 1) := by decide +kernel
theorem dX12_elder_1 : decode cX12_elder 1 = .ok (.invokestatic 112, 3) := by decide +kernel
theorem dX12_elder_4 : decode cX12_elder 4 = .ok (.ifCond .eq 12, 3) := by decide +kernel
theorem dX12_elder_7 : decode cX12_elder 7 = .ok (.iload_n 2, 1) := by decide +kernel
theorem dX12_elder_8 : decode cX12_elder 8 = .ok (.iconst 0, 1) := by decide +kernel
theorem dX12_elder_9 : decode cX12_elder 9 = .ok (.iconst 4, 1) := by decide +kernel
theorem dX12_elder_10 : decode cX12_elder 10 = .ok (.invokestatic 85, 3) := by decide +kernel
theorem dX12_elder_13 : decode cX12_elder 13 = .ok (.ifCond .ne 5, 3) := by decide +kernel
theorem dX12_elder_16 : decode cX12_elder 16 = .ok (.iconst (-1), 1) := by decide +kernel
theorem dX12_elder_17 : decode cX12_elder 17 = .ok (.ireturn, 1) := by decide +kernel
theorem dX12_elder_18 : decode cX12_elder 18 = .ok (.iload_n 2, 1) := by decide +kernel
theorem dX12_elder_19 : decode cX12_elder 19 = .ok (.iconst 4, 1) := by decide +kernel
theorem dX12_elder_20 : decode cX12_elder 20 = .ok (.if_icmp .ne 7, 3) := by decide +kernel
theorem dX12_elder_23 : decode cX12_elder 23 = .ok (.iconst 0, 1) := by decide +kernel
theorem dX12_elder_24 : decode cX12_elder 24 = .ok (.goto 13, 3) := by decide +kernel
theorem dX12_elder_27 : decode cX12_elder 27 = .ok (.aload_n 0, 1) := by decide +kernel
theorem dX12_elder_28 : decode cX12_elder 28 = .ok (.aload_n 0, 1) := by decide +kernel
theorem dX12_elder_29 : decode cX12_elder 29 = .ok (.getfield 15, 3) := by decide +kernel
theorem dX12_elder_32 : decode cX12_elder 32 = .ok (.iload_n 1, 1) := by decide +kernel
theorem dX12_elder_33 : decode cX12_elder 33 = .ok (.iload_n 2, 1) := by decide +kernel
theorem dX12_elder_34 : decode cX12_elder 34 = .ok (.invokevirtual 118, 3) := by decide +kernel
theorem dX12_elder_37 : decode cX12_elder 37 = .ok (.istore_n 3, 1) := by decide +kernel
theorem dX12_elder_38 : decode cX12_elder 38 = .ok (.iload_n 2, 1) := by decide +kernel
theorem dX12_elder_39 : decode cX12_elder 39 = .ok (.iconst 4, 1) := by decide +kernel
theorem dX12_elder_40 : decode cX12_elder 40 = .ok (.if_icmp .ne 11, 3) := by decide +kernel
theorem dX12_elder_43 : decode cX12_elder 43 = .ok (.aload_n 0, 1) := by decide +kernel
theorem dX12_elder_44 : decode cX12_elder 44 = .ok (.iload_n 1, 1) := by decide +kernel
theorem dX12_elder_45 : decode cX12_elder 45 = .ok (.invokevirtual 122, 3) := by decide +kernel
theorem dX12_elder_48 : decode cX12_elder 48 = .ok (.goto 21, 3) := by decide +kernel
theorem dX12_elder_51 : decode cX12_elder 51 = .ok (.iload_n 2, 1) := by decide +kernel
theorem dX12_elder_52 : decode cX12_elder 52 = .ok (.iconst 1, 1) := by decide +kernel
theorem dX12_elder_53 : decode cX12_elder 53 = .ok (.if_icmp .eq 8, 3) := by decide +kernel
theorem dX12_elder_56 : decode cX12_elder 56 = .ok (.iload_n 2, 1) := by decide +kernel
theorem dX12_elder_57 : decode cX12_elder 57 = .ok (.iconst 2, 1) := by decide +kernel
theorem dX12_elder_58 : decode cX12_elder 58 = .ok (.if_icmp .ne 10, 3) := by decide +kernel
theorem dX12_elder_61 : decode cX12_elder 61 = .ok (.iload_n 3, 1) := by decide +kernel
theorem dX12_elder_62 : decode cX12_elder 62 = .ok (.invokestatic 104, 3) := by decide +kernel
theorem dX12_elder_65 : decode cX12_elder 65 = .ok (.goto 4, 3) := by decide +kernel
theorem dX12_elder_68 : decode cX12_elder 68 = .ok (.iload_n 3, 1) := by decide +kernel
theorem dX12_elder_69 : decode cX12_elder 69 = .ok (.ireturn, 1) := by decide +kernel
set_option maxRecDepth 20000 in
theorem ggX12_elder_X12_isElder : GoodIn wsX12_elder wsX12_isElder := goodIn_r _ [5, 6, 7, 4, 8] (by decide +kernel) (by decide +kernel)
set_option maxRecDepth 20000 in
theorem gX12_elder_X12_isElder : GoodIn wsX12_elder (va_wsS RX12 112 yX12_isElder wsX12_isElder) := goodIn_app (goodIn_of _ (by decide +kernel)) ggX12_elder_X12_isElder
set_option maxRecDepth 20000 in
theorem ggX12_elder_X12_isIn : GoodIn wsX12_elder wsX12_isIn := goodIn_r _ [8] (by decide +kernel) (by decide +kernel)
set_option maxRecDepth 20000 in
theorem gX12_elder_X12_isIn : GoodIn wsX12_elder (va_wsS RX12 85 yX12_isIn wsX12_isIn) := goodIn_app (goodIn_of _ (by decide +kernel)) ggX12_elder_X12_isIn
set_option maxRecDepth 20000 in
theorem ggX12_elder_X12_of : GoodIn wsX12_elder wsX12_of := goodIn_r _ [12] (by decide +kernel) (by decide +kernel)
set_option maxRecDepth 20000 in
theorem gX12_elder_X12_of : GoodIn wsX12_elder (wsV RX12 118 RX12 yX12_of wsX12_of) := goodIn_app (goodIn_of _ (by decide +kernel)) ggX12_elder_X12_of
set_option maxRecDepth 20000 in
theorem ggX12_elder_X12_named : GoodIn wsX12_elder wsX12_named := goodIn_r _ [16, 1, 17, 18, 19, 4, 20, 21, 9, 10, 11, 12, 22, 23, 24, 25, 26, 27, 28, 29, 30, 31, 32, 33, 34, 35, 36, 37, 38, 39, 40, 41, 42, 43, 44, 45, 46, 47, 48, 49, 50, 51, 52, 53, 54, 55, 56, 57, 58, 59, 60, 61, 62, 63, 64, 65, 66, 67, 68, 69, 70, 71, 72, 73, 74, 75, 76, 77, 78, 79, 80, 81, 82, 83, 84, 85, 86, 87, 88, 89, 90, 91, 92, 93, 94, 95, 96, 97, 98, 99, 100, 101, 102, 103, 104, 105, 106, 107, 108, 109, 110, 111, 112, 113, 114, 115, 116, 117, 118, 119, 120, 121, 122, 123, 124, 125, 126, 127, 131, 132, 133, 134, 135, 136, 137, 138, 139, 140, 141, 142, 143, 144, 145, 146, 147, 148, 149, 150, 151, 152, 153, 154, 155, 156, 157, 158, 159, 160, 161, 162] (by decide +kernel) (by decide +kernel)
set_option maxRecDepth 20000 in
theorem gX12_elder_X12_named : GoodIn wsX12_elder (wsV RX12 122 RX12 yX12_named wsX12_named) := goodIn_app (goodIn_of _ (by decide +kernel)) ggX12_elder_X12_named
set_option maxRecDepth 20000 in
theorem ggX12_elder_X12_orNever : GoodIn wsX12_elder wsX12_orNever := goodIn_r _ [130] (by decide +kernel) (by decide +kernel)
set_option maxRecDepth 20000 in
theorem gX12_elder_X12_orNever : GoodIn wsX12_elder (va_wsS RX12 104 yX12_orNever wsX12_orNever) := goodIn_app (goodIn_of _ (by decide +kernel)) ggX12_elder_X12_orNever
def fX12_elder_61  (a1 : Int32) (a2 : Int32) (x3 : Int32) (g : c_G) : Option (c_G × Int32) :=
  some (g, (fX12_orNever x3))
set_option maxRecDepth 100000 in
set_option maxHeartbeats 4000000 in
theorem jX12_elder_61 {p : Program} {l : Launch} {e : Env} {s : State} {m : MethodId} {below : List Frame} {meth : Method} {c : Code} {D : va_G} {tc : Nat → ClassId} {ad : Nat → Nat} {A : Nat → Prop} {E : (Nat → Nat) × (Nat → Nat) × Nat} {a1 : Int32} {a2 : Int32} {g' : c_G} {r : Int32} (C : c_C p s m meth c D tc A E RX12 wsX12_elder cX12_elder 4 (some .int) ([.ref (ad 0), .int a1, .int a2] : List Value).toArray) (hD : c_D A ad TM)  : ∀ (x3 : Int32) (g : c_G), fX12_elder_61 a1 a2 x3 g = some (g', r) → ∀ (H : Heap) (locs : List Loc), va_P D vwCl (c_ws tc ad TM g) H → va_S A s.heap H locs → ∀ ls : Array Slot, lv_has ls 4 [(3, .int x3)] → W p l e (c_rm 53) s m ([.ref (ad 0), .int a1, .int a2] : List Value).toArray below meth c H locs 0 0 (MQ below (va_Qi (fun (x : Int32) (_ : Unit) => x = r) (fun _ t => va_P D vwCl (c_ws tc ad TM g') t.heap) A) ([.ref (ad 0), .int a1, .int a2] : List Value).toArray s 0 0 A) (F0 m 61 ls []) := by
  obtain ⟨hx, hb, hr, hml, hts, hown, hlk, hK, hE⟩ := id C
  intro x3 g hf H locs hP hS ls hl
  unfold fX12_elder_61 at hf
  refine lv_iload_n hx hb dX12_elder_61 rfl (lv_at hl 0 rfl) ?_
  refine c_goi (va_runS (As := [.int x3]) (rest := []) ⟨hx, hb, hml, hown, hts⟩ (kX12_orNever (T := TM) (g := g) rfl) (va_cwS 1 hts gX12_elder_X12_orNever rfl rfl rfl (by decide +kernel) ⟨Nat.le_of_ble_eq_true rfl, Nat.le_of_ble_eq_true rfl⟩) (c_preS hK hP hE hS) rfl rfl hl.1 rfl (lv_room (Nat.le_of_ble_eq_true rfl)) dX12_elder_62 ⟨Nat.zero_le _, Nat.zero_le _⟩) hS (fun H locs hP hS => ?_)
  refine lv_goto (tgt := 69) hx hb dX12_elder_65 (by decide) ?_
  exact c_iret hx hb hr hlk hP hS rfl (c_inj hf) dX12_elder_69
def fX12_elder_37  (a1 : Int32) (a2 : Int32) (x1 : Int32) (x2 : Int32) (y0 : Int32) (g : c_G) : Option (c_G × Int32) :=
  if x2 = (4 : Int32) then (c_b2 (fX12_named g x1) fun g37005 r37006 => some (g37005, r37006)) else (if x2 = (1 : Int32) then (fX12_elder_61 a1 a2 y0 g) else (if x2 = (2 : Int32) then (fX12_elder_61 a1 a2 y0 g) else (some (g, y0))))
set_option maxRecDepth 100000 in
set_option maxHeartbeats 4000000 in
theorem jX12_elder_37 {p : Program} {l : Launch} {e : Env} {s : State} {m : MethodId} {below : List Frame} {meth : Method} {c : Code} {D : va_G} {tc : Nat → ClassId} {ad : Nat → Nat} {A : Nat → Prop} {E : (Nat → Nat) × (Nat → Nat) × Nat} {a1 : Int32} {a2 : Int32} {g' : c_G} {r : Int32} (C : c_C p s m meth c D tc A E RX12 wsX12_elder cX12_elder 4 (some .int) ([.ref (ad 0), .int a1, .int a2] : List Value).toArray) (hD : c_D A ad TM)  : ∀ (x1 : Int32) (x2 : Int32) (y0 : Int32) (g : c_G), fX12_elder_37 a1 a2 x1 x2 y0 g = some (g', r) → ∀ (H : Heap) (locs : List Loc), va_P D vwCl (c_ws tc ad TM g) H → va_S A s.heap H locs → ∀ ls : Array Slot, lv_has ls 4 [(0, .ref (ad 0)), (1, .int x1), (2, .int x2)] → W p l e (c_rm 53) s m ([.ref (ad 0), .int a1, .int a2] : List Value).toArray below meth c H locs 0 0 (MQ below (va_Qi (fun (x : Int32) (_ : Unit) => x = r) (fun _ t => va_P D vwCl (c_ws tc ad TM g') t.heap) A) ([.ref (ad 0), .int a1, .int a2] : List Value).toArray s 0 0 A) (F0 m 37 ls [.int y0]) := by
  obtain ⟨hx, hb, hr, hml, hts, hown, hlk, hK, hE⟩ := id C
  intro x1 x2 y0 g hf H locs hP hS ls hl
  unfold fX12_elder_37 at hf
  refine lv_istore_n (lv' := [(3, .int y0), (0, .ref (ad 0)), (1, .int x1), (2, .int x2)]) hx hb dX12_elder_37 rfl hl (by decide) rfl (fun ls hl => ?_)
  refine lv_iload_n hx hb dX12_elder_38 rfl (lv_at hl 3 rfl) ?_
  refine lv_iconst (v := (4 : Int32)) hx hb dX12_elder_39 (by decide) ?_
  refine lv_icmp_ne (tgt := 51) hx hb dX12_elder_40 (by decide) (fun c37001 => ?_) (fun c37001 => ?_)
  · have hf := c_ie c37001 hf
    refine lv_iload_n hx hb dX12_elder_51 rfl (lv_at hl 3 rfl) ?_
    refine lv_iconst (v := (1 : Int32)) hx hb dX12_elder_52 (by decide) ?_
    refine lv_icmp_eq (tgt := 61) hx hb dX12_elder_53 (by decide) (fun c37002 => ?_) (fun c37002 => ?_)
    · have hf := c_it c37002 hf
      exact jX12_elder_61 C hD y0 g hf _ _ hP hS _ (lv_sub hl [0] rfl)
    · have hf := c_ie c37002 hf
      refine lv_iload_n hx hb dX12_elder_56 rfl (lv_at hl 3 rfl) ?_
      refine lv_iconst (v := (2 : Int32)) hx hb dX12_elder_57 (by decide) ?_
      refine lv_icmp_ne (tgt := 68) hx hb dX12_elder_58 (by decide) (fun c37003 => ?_) (fun c37003 => ?_)
      · have hf := c_ie c37003 hf
        refine lv_iload_n hx hb dX12_elder_68 rfl (lv_at hl 0 rfl) ?_
        exact c_iret hx hb hr hlk hP hS rfl (c_inj hf) dX12_elder_69
      · have hf := c_it c37003 hf
        exact jX12_elder_61 C hD y0 g hf _ _ hP hS _ (lv_sub hl [0] rfl)
  · have hf := c_it c37001 hf
    refine lv_aload_n hx hb dX12_elder_43 rfl (lv_at hl 1 rfl) ?_
    refine lv_iload_n hx hb dX12_elder_44 rfl (lv_at hl 2 rfl) ?_
    obtain ⟨g37005, r37006, hc37004, hf⟩ := c_b2E hf
    refine c_goi (va_runV (As := [.int x1]) (rest := []) ⟨hx, hb, hml, hown, hts⟩ (kX12_named hD hc37004) (cwV 1 hts gX12_elder_X12_named rfl rfl rfl (by decide +kernel) ⟨Nat.le_of_ble_eq_true rfl, Nat.le_of_ble_eq_true rfl⟩) (c_preV hK hP hE hS tM0 rfl) rfl rfl hl.1 rfl (lv_room (Nat.le_of_ble_eq_true rfl)) dX12_elder_45 ⟨Nat.zero_le _, Nat.zero_le _⟩) hS (fun H locs hP hS => ?_)
    refine lv_goto (tgt := 69) hx hb dX12_elder_48 (by decide) ?_
    exact c_iret hx hb hr hlk hP hS rfl (c_inj hf) dX12_elder_69
def fX12_elder (g : c_G) (a1 : Int32) (a2 : Int32) : Option (c_G × Int32) :=
  if (fX12_isElder a1) = 0 then (some (g, (-1 : Int32))) else (if (fX12_isIn a2 ((0 : Int32)) ((4 : Int32))) = 0 then (some (g, (-1 : Int32))) else (if a2 = (4 : Int32) then (fX12_elder_37 a1 a2 a1 a2 ((0 : Int32)) g) else ((fX12_of g a1 a2).bind fun r4 => fX12_elder_37 a1 a2 a1 a2 r4 g)))
set_option maxRecDepth 100000 in
set_option maxHeartbeats 4000000 in
theorem kX12_elder {l : Launch} {D : va_G} {tc : Nat → ClassId} {ad : Nat → Nat} {A : Nat → Prop} {E : (Nat → Nat) × (Nat → Nat) × Nat} (hD : c_D A ad TM) {a1 : Int32} {a2 : Int32} {g g' : c_G} {r : Int32} (hf : fX12_elder g a1 a2 = some (g', r)) : c_Mi l yX12_elder wsX12_elder (c_rm 53) D tc ad A E TM ([.ref (ad 0), .int a1, .int a2] : List Value) g g' r := by
  refine c_ofW (bytes := cX12_elder) (maxL := 4) (ret := (some .int)) (by decide) rfl (Nat.le_of_ble_eq_true rfl) ?_
  intro p e s m below meth c ls C hP hS hl
  unfold fX12_elder at hf
  obtain ⟨hx, hb, hr, hml, hts, hown, hlk, hK, hE⟩ := id C
  have hl : lv_has ls 4 [(0, .ref (ad 0)), (1, .int a1), (2, .int a2)] := hl
  refine lv_iload_n hx hb dX12_elder_0 rfl (lv_at hl 1 rfl) ?_
  refine c_goi (va_runS (As := [.int a1]) (rest := []) ⟨hx, hb, hml, hown, hts⟩ (kX12_isElder (T := TM) (g := g) rfl) (va_cwS 1 hts gX12_elder_X12_isElder rfl rfl rfl (by decide +kernel) ⟨Nat.le_of_ble_eq_true rfl, Nat.le_of_ble_eq_true rfl⟩) (c_preS hK hP hE hS) rfl rfl hl.1 rfl (lv_room (Nat.le_of_ble_eq_true rfl)) dX12_elder_1 ⟨Nat.zero_le _, Nat.zero_le _⟩) hS (fun H locs hP hS => ?_)
  refine lv_if_eq (tgt := 16) hx hb dX12_elder_4 (by decide) (fun c1 => ?_) (fun c1 => ?_)
  · have hf := c_it c1 hf
    refine lv_iconst (v := (-1 : Int32)) hx hb dX12_elder_16 (by decide) ?_
    exact c_iret hx hb hr hlk hP hS rfl (c_inj hf) dX12_elder_17
  · have hf := c_ie c1 hf
    refine lv_iload_n hx hb dX12_elder_7 rfl (lv_at hl 2 rfl) ?_
    refine lv_iconst (v := (0 : Int32)) hx hb dX12_elder_8 (by decide) ?_
    refine lv_iconst (v := (4 : Int32)) hx hb dX12_elder_9 (by decide) ?_
    refine c_goi (va_runS (As := [.int a2, .int (0 : Int32), .int (4 : Int32)]) (rest := []) ⟨hx, hb, hml, hown, hts⟩ (kX12_isIn (T := TM) (g := g) rfl) (va_cwS 3 hts gX12_elder_X12_isIn rfl rfl rfl (by decide +kernel) ⟨Nat.le_of_ble_eq_true rfl, Nat.le_of_ble_eq_true rfl⟩) (c_preS hK hP hE hS) rfl rfl hl.1 rfl (lv_room (Nat.le_of_ble_eq_true rfl)) dX12_elder_10 ⟨Nat.zero_le _, Nat.zero_le _⟩) hS (fun H locs hP hS => ?_)
    refine lv_if_ne (tgt := 18) hx hb dX12_elder_13 (by decide) (fun c2 => ?_) (fun c2 => ?_)
    · have hf := c_ie c2 hf
      refine lv_iload_n hx hb dX12_elder_18 rfl (lv_at hl 2 rfl) ?_
      refine lv_iconst (v := (4 : Int32)) hx hb dX12_elder_19 (by decide) ?_
      refine lv_icmp_ne (tgt := 27) hx hb dX12_elder_20 (by decide) (fun c3 => ?_) (fun c3 => ?_)
      · have hf := c_ie c3 hf
        refine lv_aload_n hx hb dX12_elder_27 rfl (lv_at hl 0 rfl) ?_
        refine lv_aload_n hx hb dX12_elder_28 rfl (lv_at hl 0 rfl) ?_
        refine c_get hx hb hts i_X12_elder_X12 hown hK hP 0 tM0 rfl 0 (by decide) (hts _ (List.mem_of_getElem? (i := 1) rfl)) (fun _ h9 => h9) rfl (v := .ref (ad 1)) rfl dX12_elder_29 ?_
        refine lv_iload_n hx hb dX12_elder_32 rfl (lv_at hl 1 rfl) ?_
        refine lv_iload_n hx hb dX12_elder_33 rfl (lv_at hl 2 rfl) ?_
        obtain ⟨r4, hc5, hf⟩ := c_bd hf
        refine c_goi (va_runV (As := [.ref (ad 1), .int a1, .int a2]) (rest := []) ⟨hx, hb, hml, hown, hts⟩ (kX12_of hD hc5) (cwV 3 hts gX12_elder_X12_of rfl rfl rfl (by decide +kernel) ⟨Nat.le_of_ble_eq_true rfl, Nat.le_of_ble_eq_true rfl⟩) (c_preV hK hP hE hS tM0 rfl) rfl rfl hl.1 rfl (lv_room (Nat.le_of_ble_eq_true rfl)) dX12_elder_34 ⟨Nat.zero_le _, Nat.zero_le _⟩) hS (fun H locs hP hS => ?_)
        exact jX12_elder_37 C hD a1 a2 r4 g hf _ _ hP hS _ (lv_sub hl [0, 1, 2] rfl)
      · have hf := c_it c3 hf
        refine lv_iconst (v := (0 : Int32)) hx hb dX12_elder_23 (by decide) ?_
        refine lv_goto (tgt := 37) hx hb dX12_elder_24 (by decide) ?_
        exact jX12_elder_37 C hD a1 a2 ((0 : Int32)) g hf _ _ hP hS _ (lv_sub hl [0, 1, 2] rfl)
    · have hf := c_it c2 hf
      refine lv_iconst (v := (-1 : Int32)) hx hb dX12_elder_16 (by decide) ?_
      exact c_iret hx hb hr hlk hP hS rfl (c_inj hf) dX12_elder_17
theorem dX12_fits_0 : decode cX12_fits 0 = .ok (.aload_n 0, 1) := by decide +kernel
theorem dX12_fits_1 : decode cX12_fits 1 = .ok (.iload_n 1, 1) := by decide +kernel
theorem dX12_fits_2 : decode cX12_fits 2 = .ok (.invokevirtual 101, 3) := by decide +kernel
theorem dX12_fits_5 : decode cX12_fits 5 = .ok (.ifCond .eq 27, 3) := by decide +kernel
theorem dX12_fits_8 : decode cX12_fits 8 = .ok (.iload_n 2, 1) := by decide +kernel
theorem dX12_fits_9 : decode cX12_fits 9 = .ok (.invokestatic 125, 3) := by decide +kernel
theorem dX12_fits_12 : decode cX12_fits 12 = .ok (.ifCond .eq 20, 3) := by decide +kernel
theorem dX12_fits_15 : decode cX12_fits 15 = .ok (.iload_n 3, 1) := by decide +kernel
theorem dX12_fits_16 : decode cX12_fits 16 = .ok (.invokestatic 112, 3) := by decide +kernel
theorem dX12_fits_19 : decode cX12_fits 19 = .ok (.ifCond .eq 13, 3) := by decide +kernel
theorem dX12_fits_22 : decode cX12_fits 22 = .ok (.aload_n 0, 1) := by decide +kernel
theorem dX12_fits_23 : decode cX12_fits 23 = .ok (.iload_n 1, 1) := by decide +kernel
theorem dX12_fits_24 : decode cX12_fits 24 = .ok (.iload_n 2, 1) := by decide +kernel
theorem dX12_fits_25 : decode cX12_fits 25 = .ok (.iload_n 3, 1) := by decide +kernel
theorem dX12_fits_26 : decode cX12_fits 26 = .ok (.invokevirtual 128, 3) := by decide +kernel
theorem dX12_fits_29 : decode cX12_fits 29 = .ok (.goto 6, 3) := by decide +kernel
theorem dX12_fits_32 : decode cX12_fits 32 = .ok (.sipush (-10001), 3) := by decide +kernel
theorem dX12_fits_35 : decode cX12_fits 35 = .ok (.ireturn, 1) := by decide +kernel
set_option maxRecDepth 20000 in
theorem ggX12_fits_X12_isChild : GoodIn wsX12_fits wsX12_isChild := goodIn_r _ [5, 6, 7, 8, 4, 9, 85, 86, 87, 88, 89, 90, 91, 92, 93, 94, 95, 96, 97, 98, 99, 100, 101, 102, 103, 104, 105, 106, 107, 108, 109, 110, 111, 112, 113, 114, 115, 116] (by decide +kernel) (by decide +kernel)
set_option maxRecDepth 20000 in
theorem gX12_fits_X12_isChild : GoodIn wsX12_fits (wsV RX12 101 RX12 yX12_isChild wsX12_isChild) := goodIn_app (goodIn_of _ (by decide +kernel)) ggX12_fits_X12_isChild
set_option maxRecDepth 20000 in
theorem ggX12_fits_X12_isWord : GoodIn wsX12_fits wsX12_isWord := goodIn_r _ [12, 7, 8, 4, 9] (by decide +kernel) (by decide +kernel)
set_option maxRecDepth 20000 in
theorem gX12_fits_X12_isWord : GoodIn wsX12_fits (va_wsS RX12 125 yX12_isWord wsX12_isWord) := goodIn_app (goodIn_of _ (by decide +kernel)) ggX12_fits_X12_isWord
set_option maxRecDepth 20000 in
theorem ggX12_fits_X12_isElder : GoodIn wsX12_fits wsX12_isElder := goodIn_r _ [15, 7, 8, 4, 9] (by decide +kernel) (by decide +kernel)
set_option maxRecDepth 20000 in
theorem gX12_fits_X12_isElder : GoodIn wsX12_fits (va_wsS RX12 112 yX12_isElder wsX12_isElder) := goodIn_app (goodIn_of _ (by decide +kernel)) ggX12_fits_X12_isElder
set_option maxRecDepth 20000 in
theorem ggX12_fits_X12_fit : GoodIn wsX12_fits wsX12_fit := goodIn_r _ [19, 20, 6, 21, 22, 23, 4, 24, 25, 26, 27, 28, 29, 30, 31, 32, 33, 34, 35, 36, 37, 38, 39, 40, 41, 42, 43, 44, 45, 46, 47, 48, 49, 50, 51, 52, 53, 54, 55, 56, 57, 58, 59, 60, 61, 62, 63, 64, 65, 66, 67, 68, 69, 70, 71, 72, 73, 74, 75, 76, 77, 78, 79, 80, 81, 82, 83, 84, 85, 86, 87, 88, 89, 90, 91, 92, 93, 94, 95, 96, 97, 98, 99, 100, 101, 102, 103, 104, 105, 106, 107, 108, 109, 110, 111, 112, 113, 114, 115, 116] (by decide +kernel) (by decide +kernel)
set_option maxRecDepth 20000 in
theorem gX12_fits_X12_fit : GoodIn wsX12_fits (wsV RX12 128 RX12 yX12_fit wsX12_fit) := goodIn_app (goodIn_of _ (by decide +kernel)) ggX12_fits_X12_fit
def fX12_fits (g : c_G) (a1 : Int32) (a2 : Int32) (a3 : Int32) : Option (c_G × Int32) :=
  (fX12_isChild g a1).bind fun r1 => if r1 = 0 then (some (g, (-10001 : Int32))) else (if (fX12_isWord a2) = 0 then (some (g, (-10001 : Int32))) else (if (fX12_isElder a3) = 0 then (some (g, (-10001 : Int32))) else (c_b2 (fX12_fit g a1 a2 a3) fun g7 r8 => some (g7, r8))))
set_option maxRecDepth 100000 in
set_option maxHeartbeats 4000000 in
theorem kX12_fits {l : Launch} {D : va_G} {tc : Nat → ClassId} {ad : Nat → Nat} {A : Nat → Prop} {E : (Nat → Nat) × (Nat → Nat) × Nat} (hD : c_D A ad TM) {a1 : Int32} {a2 : Int32} {a3 : Int32} {g g' : c_G} {r : Int32} (hf : fX12_fits g a1 a2 a3 = some (g', r)) : c_Mi l yX12_fits wsX12_fits (c_rm 48) D tc ad A E TM ([.ref (ad 0), .int a1, .int a2, .int a3] : List Value) g g' r := by
  refine c_ofW (bytes := cX12_fits) (maxL := 4) (ret := (some .int)) (by decide) rfl (Nat.le_of_ble_eq_true rfl) ?_
  intro p e s m below meth c ls C hP hS hl
  unfold fX12_fits at hf
  obtain ⟨hx, hb, hr, hml, hts, hown, hlk, hK, hE⟩ := id C
  have hl : lv_has ls 4 [(0, .ref (ad 0)), (1, .int a1), (2, .int a2), (3, .int a3)] := hl
  refine lv_aload_n hx hb dX12_fits_0 rfl (lv_at hl 0 rfl) ?_
  refine lv_iload_n hx hb dX12_fits_1 rfl (lv_at hl 1 rfl) ?_
  obtain ⟨r1, hc2, hf⟩ := c_bd hf
  refine c_goi (va_runV (As := [.int a1]) (rest := []) ⟨hx, hb, hml, hown, hts⟩ (kX12_isChild hD hc2) (cwV 1 hts gX12_fits_X12_isChild rfl rfl rfl (by decide +kernel) ⟨Nat.le_of_ble_eq_true rfl, Nat.le_of_ble_eq_true rfl⟩) (c_preV hK hP hE hS tM0 rfl) rfl rfl hl.1 rfl (lv_room (Nat.le_of_ble_eq_true rfl)) dX12_fits_2 ⟨Nat.zero_le _, Nat.zero_le _⟩) hS (fun H locs hP hS => ?_)
  refine lv_if_eq (tgt := 32) hx hb dX12_fits_5 (by decide) (fun c3 => ?_) (fun c3 => ?_)
  · have hf := c_it c3 hf
    refine lv_sipush (v := (-10001 : Int32)) hx hb dX12_fits_32 (by decide) ?_
    exact c_iret hx hb hr hlk hP hS rfl (c_inj hf) dX12_fits_35
  · have hf := c_ie c3 hf
    refine lv_iload_n hx hb dX12_fits_8 rfl (lv_at hl 2 rfl) ?_
    refine c_goi (va_runS (As := [.int a2]) (rest := []) ⟨hx, hb, hml, hown, hts⟩ (kX12_isWord (T := TM) (g := g) rfl) (va_cwS 1 hts gX12_fits_X12_isWord rfl rfl rfl (by decide +kernel) ⟨Nat.le_of_ble_eq_true rfl, Nat.le_of_ble_eq_true rfl⟩) (c_preS hK hP hE hS) rfl rfl hl.1 rfl (lv_room (Nat.le_of_ble_eq_true rfl)) dX12_fits_9 ⟨Nat.zero_le _, Nat.zero_le _⟩) hS (fun H locs hP hS => ?_)
    refine lv_if_eq (tgt := 32) hx hb dX12_fits_12 (by decide) (fun c4 => ?_) (fun c4 => ?_)
    · have hf := c_it c4 hf
      refine lv_sipush (v := (-10001 : Int32)) hx hb dX12_fits_32 (by decide) ?_
      exact c_iret hx hb hr hlk hP hS rfl (c_inj hf) dX12_fits_35
    · have hf := c_ie c4 hf
      refine lv_iload_n hx hb dX12_fits_15 rfl (lv_at hl 3 rfl) ?_
      refine c_goi (va_runS (As := [.int a3]) (rest := []) ⟨hx, hb, hml, hown, hts⟩ (kX12_isElder (T := TM) (g := g) rfl) (va_cwS 1 hts gX12_fits_X12_isElder rfl rfl rfl (by decide +kernel) ⟨Nat.le_of_ble_eq_true rfl, Nat.le_of_ble_eq_true rfl⟩) (c_preS hK hP hE hS) rfl rfl hl.1 rfl (lv_room (Nat.le_of_ble_eq_true rfl)) dX12_fits_16 ⟨Nat.zero_le _, Nat.zero_le _⟩) hS (fun H locs hP hS => ?_)
      refine lv_if_eq (tgt := 32) hx hb dX12_fits_19 (by decide) (fun c5 => ?_) (fun c5 => ?_)
      · have hf := c_it c5 hf
        refine lv_sipush (v := (-10001 : Int32)) hx hb dX12_fits_32 (by decide) ?_
        exact c_iret hx hb hr hlk hP hS rfl (c_inj hf) dX12_fits_35
      · have hf := c_ie c5 hf
        refine lv_aload_n hx hb dX12_fits_22 rfl (lv_at hl 0 rfl) ?_
        refine lv_iload_n hx hb dX12_fits_23 rfl (lv_at hl 1 rfl) ?_
        refine lv_iload_n hx hb dX12_fits_24 rfl (lv_at hl 2 rfl) ?_
        refine lv_iload_n hx hb dX12_fits_25 rfl (lv_at hl 3 rfl) ?_
        obtain ⟨g7, r8, hc6, hf⟩ := c_b2E hf
        refine c_goi (va_runV (As := [.int a1, .int a2, .int a3]) (rest := []) ⟨hx, hb, hml, hown, hts⟩ (kX12_fit hD hc6) (cwV 3 hts gX12_fits_X12_fit rfl rfl rfl (by decide +kernel) ⟨Nat.le_of_ble_eq_true rfl, Nat.le_of_ble_eq_true rfl⟩) (c_preV hK hP hE hS tM0 rfl) rfl rfl hl.1 rfl (lv_room (Nat.le_of_ble_eq_true rfl)) dX12_fits_26 ⟨Nat.zero_le _, Nat.zero_le _⟩) hS (fun H locs hP hS => ?_)
        refine lv_goto (tgt := 35) hx hb dX12_fits_29 (by decide) ?_
        exact c_iret hx hb hr hlk hP hS rfl (c_inj hf) dX12_fits_35
theorem dX12_know_0 : decode cX12_know 0 = .ok (.aload_n 0, 1) := by decide +kernel
theorem dX12_know_1 : decode cX12_know 1 = .ok (.iload_n 1, 1) := by decide +kernel
theorem dX12_know_2 : decode cX12_know 2 = .ok (.invokevirtual 101, 3) := by decide +kernel
theorem dX12_know_5 : decode cX12_know 5 = .ok (.ifCond .ne 5, 3) := by decide +kernel
theorem dX12_know_8 : decode cX12_know 8 = .ok (.iconst (-1), 1) := by decide +kernel
theorem dX12_know_9 : decode cX12_know 9 = .ok (.ireturn, 1) := by decide +kernel
theorem dX12_know_10 : decode cX12_know 10 = .ok (.iload_n 2, 1) := by decide +kernel
theorem dX12_know_11 : decode cX12_know 11 = .ok (.invokestatic 93, 3) := by decide +kernel
theorem dX12_know_14 : decode cX12_know 14 = .ok (.ifCond .eq 13, 3) := by decide +kernel
theorem dX12_know_17 : decode cX12_know 17 = .ok (.aload_n 0, 1) := by decide +kernel
theorem dX12_know_18 : decode cX12_know 18 = .ok (.iload_n 1, 1) := by decide +kernel
theorem dX12_know_19 : decode cX12_know 19 = .ok (.iconst 2, 1) := by decide +kernel
theorem dX12_know_20 : decode cX12_know 20 = .ok (.iload_n 2, 1) := by decide +kernel
theorem dX12_know_21 : decode cX12_know 21 = .ok (.invokevirtual 97, 3) := by decide +kernel
theorem dX12_know_24 : decode cX12_know 24 = .ok (.goto 5, 3) := by decide +kernel
theorem dX12_know_27 : decode cX12_know 27 = .ok (.bipush (-2), 2) := by decide +kernel
theorem dX12_know_29 : decode cX12_know 29 = .ok (.ireturn, 1) := by decide +kernel
set_option maxRecDepth 20000 in
theorem ggX12_know_X12_isChild : GoodIn wsX12_know wsX12_isChild := goodIn_r _ [5, 6, 7, 8, 4, 9, 21, 22, 23, 24, 25, 26, 27, 28, 29, 30, 31, 32, 33, 34, 35, 36, 37, 38, 39, 40, 41, 42, 43, 44, 45, 46, 47, 48, 49, 50, 51, 52] (by decide +kernel) (by decide +kernel)
set_option maxRecDepth 20000 in
theorem gX12_know_X12_isChild : GoodIn wsX12_know (wsV RX12 101 RX12 yX12_isChild wsX12_isChild) := goodIn_app (goodIn_of _ (by decide +kernel)) ggX12_know_X12_isChild
set_option maxRecDepth 20000 in
theorem ggX12_know_X12_isSet : GoodIn wsX12_know wsX12_isSet := goodIn_r _ [12, 7, 8, 4, 9] (by decide +kernel) (by decide +kernel)
set_option maxRecDepth 20000 in
theorem gX12_know_X12_isSet : GoodIn wsX12_know (va_wsS RX12 93 yX12_isSet wsX12_isSet) := goodIn_app (goodIn_of _ (by decide +kernel)) ggX12_know_X12_isSet
set_option maxRecDepth 20000 in
theorem ggX12_know_X12_change : GoodIn wsX12_know wsX12_change := goodIn_r _ [16, 6, 17, 18, 19, 4, 20, 21, 22, 23, 24, 25, 26, 27, 28, 29, 30, 31, 32, 33, 34, 35, 36, 37, 38, 39, 40, 41, 42, 43, 44, 45, 46, 47, 48, 49, 50, 51, 52] (by decide +kernel) (by decide +kernel)
set_option maxRecDepth 20000 in
theorem gX12_know_X12_change : GoodIn wsX12_know (wsV RX12 97 RX12 yX12_change wsX12_change) := goodIn_app (goodIn_of _ (by decide +kernel)) ggX12_know_X12_change
def fX12_know (g : c_G) (a1 : Int32) (a2 : Int32) : Option (c_G × Int32) :=
  (fX12_isChild g a1).bind fun r1 => if r1 = 0 then (some (g, (-1 : Int32))) else (if (fX12_isSet a2) = 0 then (some (g, (-2 : Int32))) else (c_b2 (fX12_change g a1 ((2 : Int32)) a2) fun g6 r7 => some (g6, r7)))
set_option maxRecDepth 100000 in
set_option maxHeartbeats 4000000 in
theorem kX12_know {l : Launch} {D : va_G} {tc : Nat → ClassId} {ad : Nat → Nat} {A : Nat → Prop} {E : (Nat → Nat) × (Nat → Nat) × Nat} (hD : c_D A ad TM) {a1 : Int32} {a2 : Int32} {g g' : c_G} {r : Int32} (hf : fX12_know g a1 a2 = some (g', r)) : c_Mi l yX12_know wsX12_know (c_rm 2) D tc ad A E TM ([.ref (ad 0), .int a1, .int a2] : List Value) g g' r := by
  refine c_ofW (bytes := cX12_know) (maxL := 3) (ret := (some .int)) (by decide) rfl (Nat.le_of_ble_eq_true rfl) ?_
  intro p e s m below meth c ls C hP hS hl
  unfold fX12_know at hf
  obtain ⟨hx, hb, hr, hml, hts, hown, hlk, hK, hE⟩ := id C
  have hl : lv_has ls 3 [(0, .ref (ad 0)), (1, .int a1), (2, .int a2)] := hl
  refine lv_aload_n hx hb dX12_know_0 rfl (lv_at hl 0 rfl) ?_
  refine lv_iload_n hx hb dX12_know_1 rfl (lv_at hl 1 rfl) ?_
  obtain ⟨r1, hc2, hf⟩ := c_bd hf
  refine c_goi (va_runV (As := [.int a1]) (rest := []) ⟨hx, hb, hml, hown, hts⟩ (kX12_isChild hD hc2) (cwV 1 hts gX12_know_X12_isChild rfl rfl rfl (by decide +kernel) ⟨Nat.le_of_ble_eq_true rfl, Nat.le_of_ble_eq_true rfl⟩) (c_preV hK hP hE hS tM0 rfl) rfl rfl hl.1 rfl (lv_room (Nat.le_of_ble_eq_true rfl)) dX12_know_2 ⟨Nat.zero_le _, Nat.zero_le _⟩) hS (fun H locs hP hS => ?_)
  refine lv_if_ne (tgt := 10) hx hb dX12_know_5 (by decide) (fun c3 => ?_) (fun c3 => ?_)
  · have hf := c_ie c3 hf
    refine lv_iload_n hx hb dX12_know_10 rfl (lv_at hl 2 rfl) ?_
    refine c_goi (va_runS (As := [.int a2]) (rest := []) ⟨hx, hb, hml, hown, hts⟩ (kX12_isSet (T := TM) (g := g) rfl) (va_cwS 1 hts gX12_know_X12_isSet rfl rfl rfl (by decide +kernel) ⟨Nat.le_of_ble_eq_true rfl, Nat.le_of_ble_eq_true rfl⟩) (c_preS hK hP hE hS) rfl rfl hl.1 rfl (lv_room (Nat.le_of_ble_eq_true rfl)) dX12_know_11 ⟨Nat.zero_le _, Nat.zero_le _⟩) hS (fun H locs hP hS => ?_)
    refine lv_if_eq (tgt := 27) hx hb dX12_know_14 (by decide) (fun c4 => ?_) (fun c4 => ?_)
    · have hf := c_it c4 hf
      refine lv_bipush (v := (-2 : Int32)) hx hb dX12_know_27 (by decide) ?_
      exact c_iret hx hb hr hlk hP hS rfl (c_inj hf) dX12_know_29
    · have hf := c_ie c4 hf
      refine lv_aload_n hx hb dX12_know_17 rfl (lv_at hl 0 rfl) ?_
      refine lv_iload_n hx hb dX12_know_18 rfl (lv_at hl 1 rfl) ?_
      refine lv_iconst (v := (2 : Int32)) hx hb dX12_know_19 (by decide) ?_
      refine lv_iload_n hx hb dX12_know_20 rfl (lv_at hl 2 rfl) ?_
      obtain ⟨g6, r7, hc5, hf⟩ := c_b2E hf
      refine c_goi (va_runV (As := [.int a1, .int (2 : Int32), .int a2]) (rest := []) ⟨hx, hb, hml, hown, hts⟩ (kX12_change hD hc5) (cwV 3 hts gX12_know_X12_change rfl rfl rfl (by decide +kernel) ⟨Nat.le_of_ble_eq_true rfl, Nat.le_of_ble_eq_true rfl⟩) (c_preV hK hP hE hS tM0 rfl) rfl rfl hl.1 rfl (lv_room (Nat.le_of_ble_eq_true rfl)) dX12_know_21 ⟨Nat.zero_le _, Nat.zero_le _⟩) hS (fun H locs hP hS => ?_)
      refine lv_goto (tgt := 29) hx hb dX12_know_24 (by decide) ?_
      exact c_iret hx hb hr hlk hP hS rfl (c_inj hf) dX12_know_29
  · have hf := c_it c3 hf
    refine lv_iconst (v := (-1 : Int32)) hx hb dX12_know_8 (by decide) ?_
    exact c_iret hx hb hr hlk hP hS rfl (c_inj hf) dX12_know_9
theorem dX12_basket_0 : decode cX12_basket 0 = .ok (.aload_n 0, 1) := by decide +kernel
theorem dX12_basket_1 : decode cX12_basket 1 = .ok (.iload_n 1, 1) := by decide +kernel
theorem dX12_basket_2 : decode cX12_basket 2 = .ok (.invokevirtual 101, 3) := by decide +kernel
theorem dX12_basket_5 : decode cX12_basket 5 = .ok (.ifCond .eq 25, 3) := by decide +kernel
theorem dX12_basket_8 : decode cX12_basket 8 = .ok (.iload_n 2, 1) := by decide +kernel
theorem dX12_basket_9 : decode cX12_basket 9 = .ok (.iconst (-1), 1) := by decide +kernel
theorem dX12_basket_10 : decode cX12_basket 10 = .ok (.iconst 5, 1) := by decide +kernel
theorem dX12_basket_11 : decode cX12_basket 11 = .ok (.invokestatic 85, 3) := by decide +kernel
theorem dX12_basket_14 : decode cX12_basket 14 = .ok (.ifCond .eq 16, 3) := by decide +kernel
theorem dX12_basket_17 : decode cX12_basket 17 = .ok (.aload_n 0, 1) := by decide +kernel
theorem dX12_basket_18 : decode cX12_basket 18 = .ok (.iload_n 1, 1) := by decide +kernel
theorem dX12_basket_19 : decode cX12_basket 19 = .ok (.iconst 4, 1) := by decide +kernel
theorem dX12_basket_20 : decode cX12_basket 20 = .ok (.iload_n 2, 1) := by decide +kernel
theorem dX12_basket_21 : decode cX12_basket 21 = .ok (.invokevirtual 97, 3) := by decide +kernel
theorem dX12_basket_24 : decode cX12_basket 24 = .ok (.invokestatic 104, 3) := by decide +kernel
theorem dX12_basket_27 : decode cX12_basket 27 = .ok (.goto 4, 3) := by decide +kernel
theorem dX12_basket_30 : decode cX12_basket 30 = .ok (.iconst (-1), 1) := by decide +kernel
theorem dX12_basket_31 : decode cX12_basket 31 = .ok (.ireturn, 1) := by decide +kernel
set_option maxRecDepth 20000 in
theorem ggX12_basket_X12_isChild : GoodIn wsX12_basket wsX12_isChild := goodIn_r _ [5, 6, 7, 8, 4, 9, 21, 22, 23, 24, 25, 26, 27, 28, 29, 30, 31, 32, 33, 34, 35, 36, 37, 38, 39, 40, 41, 42, 43, 44, 45, 46, 47, 48, 49, 50, 51, 52] (by decide +kernel) (by decide +kernel)
set_option maxRecDepth 20000 in
theorem gX12_basket_X12_isChild : GoodIn wsX12_basket (wsV RX12 101 RX12 yX12_isChild wsX12_isChild) := goodIn_app (goodIn_of _ (by decide +kernel)) ggX12_basket_X12_isChild
set_option maxRecDepth 20000 in
theorem ggX12_basket_X12_isIn : GoodIn wsX12_basket wsX12_isIn := goodIn_r _ [9] (by decide +kernel) (by decide +kernel)
set_option maxRecDepth 20000 in
theorem gX12_basket_X12_isIn : GoodIn wsX12_basket (va_wsS RX12 85 yX12_isIn wsX12_isIn) := goodIn_app (goodIn_of _ (by decide +kernel)) ggX12_basket_X12_isIn
set_option maxRecDepth 20000 in
theorem ggX12_basket_X12_change : GoodIn wsX12_basket wsX12_change := goodIn_r _ [13, 6, 14, 15, 16, 4, 17, 21, 22, 23, 24, 25, 26, 27, 28, 29, 30, 31, 32, 33, 34, 35, 36, 37, 38, 39, 40, 41, 42, 43, 44, 45, 46, 47, 48, 49, 50, 51, 52] (by decide +kernel) (by decide +kernel)
set_option maxRecDepth 20000 in
theorem gX12_basket_X12_change : GoodIn wsX12_basket (wsV RX12 97 RX12 yX12_change wsX12_change) := goodIn_app (goodIn_of _ (by decide +kernel)) ggX12_basket_X12_change
set_option maxRecDepth 20000 in
theorem ggX12_basket_X12_orNever : GoodIn wsX12_basket wsX12_orNever := goodIn_r _ [20] (by decide +kernel) (by decide +kernel)
set_option maxRecDepth 20000 in
theorem gX12_basket_X12_orNever : GoodIn wsX12_basket (va_wsS RX12 104 yX12_orNever wsX12_orNever) := goodIn_app (goodIn_of _ (by decide +kernel)) ggX12_basket_X12_orNever
def fX12_basket (g : c_G) (a1 : Int32) (a2 : Int32) : Option (c_G × Int32) :=
  (fX12_isChild g a1).bind fun r1 => if r1 = 0 then (some (g, (-1 : Int32))) else (if (fX12_isIn a2 ((-1 : Int32)) ((5 : Int32))) = 0 then (some (g, (-1 : Int32))) else (c_b2 (fX12_change g a1 ((4 : Int32)) a2) fun g6 r7 => some (g6, (fX12_orNever r7))))
set_option maxRecDepth 100000 in
set_option maxHeartbeats 4000000 in
theorem kX12_basket {l : Launch} {D : va_G} {tc : Nat → ClassId} {ad : Nat → Nat} {A : Nat → Prop} {E : (Nat → Nat) × (Nat → Nat) × Nat} (hD : c_D A ad TM) {a1 : Int32} {a2 : Int32} {g g' : c_G} {r : Int32} (hf : fX12_basket g a1 a2 = some (g', r)) : c_Mi l yX12_basket wsX12_basket (c_rm 2) D tc ad A E TM ([.ref (ad 0), .int a1, .int a2] : List Value) g g' r := by
  refine c_ofW (bytes := cX12_basket) (maxL := 3) (ret := (some .int)) (by decide) rfl (Nat.le_of_ble_eq_true rfl) ?_
  intro p e s m below meth c ls C hP hS hl
  unfold fX12_basket at hf
  obtain ⟨hx, hb, hr, hml, hts, hown, hlk, hK, hE⟩ := id C
  have hl : lv_has ls 3 [(0, .ref (ad 0)), (1, .int a1), (2, .int a2)] := hl
  refine lv_aload_n hx hb dX12_basket_0 rfl (lv_at hl 0 rfl) ?_
  refine lv_iload_n hx hb dX12_basket_1 rfl (lv_at hl 1 rfl) ?_
  obtain ⟨r1, hc2, hf⟩ := c_bd hf
  refine c_goi (va_runV (As := [.int a1]) (rest := []) ⟨hx, hb, hml, hown, hts⟩ (kX12_isChild hD hc2) (cwV 1 hts gX12_basket_X12_isChild rfl rfl rfl (by decide +kernel) ⟨Nat.le_of_ble_eq_true rfl, Nat.le_of_ble_eq_true rfl⟩) (c_preV hK hP hE hS tM0 rfl) rfl rfl hl.1 rfl (lv_room (Nat.le_of_ble_eq_true rfl)) dX12_basket_2 ⟨Nat.zero_le _, Nat.zero_le _⟩) hS (fun H locs hP hS => ?_)
  refine lv_if_eq (tgt := 30) hx hb dX12_basket_5 (by decide) (fun c3 => ?_) (fun c3 => ?_)
  · have hf := c_it c3 hf
    refine lv_iconst (v := (-1 : Int32)) hx hb dX12_basket_30 (by decide) ?_
    exact c_iret hx hb hr hlk hP hS rfl (c_inj hf) dX12_basket_31
  · have hf := c_ie c3 hf
    refine lv_iload_n hx hb dX12_basket_8 rfl (lv_at hl 2 rfl) ?_
    refine lv_iconst (v := (-1 : Int32)) hx hb dX12_basket_9 (by decide) ?_
    refine lv_iconst (v := (5 : Int32)) hx hb dX12_basket_10 (by decide) ?_
    refine c_goi (va_runS (As := [.int a2, .int (-1 : Int32), .int (5 : Int32)]) (rest := []) ⟨hx, hb, hml, hown, hts⟩ (kX12_isIn (T := TM) (g := g) rfl) (va_cwS 3 hts gX12_basket_X12_isIn rfl rfl rfl (by decide +kernel) ⟨Nat.le_of_ble_eq_true rfl, Nat.le_of_ble_eq_true rfl⟩) (c_preS hK hP hE hS) rfl rfl hl.1 rfl (lv_room (Nat.le_of_ble_eq_true rfl)) dX12_basket_11 ⟨Nat.zero_le _, Nat.zero_le _⟩) hS (fun H locs hP hS => ?_)
    refine lv_if_eq (tgt := 30) hx hb dX12_basket_14 (by decide) (fun c4 => ?_) (fun c4 => ?_)
    · have hf := c_it c4 hf
      refine lv_iconst (v := (-1 : Int32)) hx hb dX12_basket_30 (by decide) ?_
      exact c_iret hx hb hr hlk hP hS rfl (c_inj hf) dX12_basket_31
    · have hf := c_ie c4 hf
      refine lv_aload_n hx hb dX12_basket_17 rfl (lv_at hl 0 rfl) ?_
      refine lv_iload_n hx hb dX12_basket_18 rfl (lv_at hl 1 rfl) ?_
      refine lv_iconst (v := (4 : Int32)) hx hb dX12_basket_19 (by decide) ?_
      refine lv_iload_n hx hb dX12_basket_20 rfl (lv_at hl 2 rfl) ?_
      obtain ⟨g6, r7, hc5, hf⟩ := c_b2E hf
      refine c_goi (va_runV (As := [.int a1, .int (4 : Int32), .int a2]) (rest := []) ⟨hx, hb, hml, hown, hts⟩ (kX12_change hD hc5) (cwV 3 hts gX12_basket_X12_change rfl rfl rfl (by decide +kernel) ⟨Nat.le_of_ble_eq_true rfl, Nat.le_of_ble_eq_true rfl⟩) (c_preV hK hP hE hS tM0 rfl) rfl rfl hl.1 rfl (lv_room (Nat.le_of_ble_eq_true rfl)) dX12_basket_21 ⟨Nat.zero_le _, Nat.zero_le _⟩) hS (fun H locs hP hS => ?_)
      refine c_goi (va_runS (As := [.int r7]) (rest := []) ⟨hx, hb, hml, hown, hts⟩ (kX12_orNever (T := TM) (g := g6) rfl) (va_cwS 1 hts gX12_basket_X12_orNever rfl rfl rfl (by decide +kernel) ⟨Nat.le_of_ble_eq_true rfl, Nat.le_of_ble_eq_true rfl⟩) (c_preS hK hP hE hS) rfl rfl hl.1 rfl (lv_room (Nat.le_of_ble_eq_true rfl)) dX12_basket_24 ⟨Nat.zero_le _, Nat.zero_le _⟩) hS (fun H locs hP hS => ?_)
      refine lv_goto (tgt := 31) hx hb dX12_basket_27 (by decide) ?_
      exact c_iret hx hb hr hlk hP hS rfl (c_inj hf) dX12_basket_31
theorem dX12_take_0 : decode cX12_take 0 = .ok (.aload_n 0, 1) := by decide +kernel
theorem dX12_take_1 : decode cX12_take 1 = .ok (.iload_n 1, 1) := by decide +kernel
theorem dX12_take_2 : decode cX12_take 2 = .ok (.invokevirtual 101, 3) := by decide +kernel
theorem dX12_take_5 : decode cX12_take 5 = .ok (.ifCond .eq 22, 3) := by decide +kernel
theorem dX12_take_8 : decode cX12_take 8 = .ok (.iload_n 2, 1) := by decide +kernel
theorem dX12_take_9 : decode cX12_take 9 = .ok (.invokestatic 112, 3) := by decide +kernel
theorem dX12_take_12 : decode cX12_take 12 = .ok (.ifCond .eq 15, 3) := by decide +kernel
theorem dX12_take_15 : decode cX12_take 15 = .ok (.aload_n 0, 1) := by decide +kernel
theorem dX12_take_16 : decode cX12_take 16 = .ok (.iload_n 1, 1) := by decide +kernel
theorem dX12_take_17 : decode cX12_take 17 = .ok (.iload_n 2, 1) := by decide +kernel
theorem dX12_take_18 : decode cX12_take 18 = .ok (.invokevirtual 130, 3) := by decide +kernel
theorem dX12_take_21 : decode cX12_take 21 = .ok (.invokestatic 104, 3) := by decide +kernel
theorem dX12_take_24 : decode cX12_take 24 = .ok (.goto 4, 3) := by decide +kernel
theorem dX12_take_27 : decode cX12_take 27 = .ok (.iconst (-1), 1) := by decide +kernel
theorem dX12_take_28 : decode cX12_take 28 = .ok (.ireturn, 1) := by decide +kernel
set_option maxRecDepth 20000 in
theorem ggX12_take_X12_isChild : GoodIn wsX12_take wsX12_isChild := goodIn_r _ [5, 6, 7, 8, 4, 9, 110, 111, 112, 113, 114, 115, 116, 117, 118, 119, 120, 121, 122, 123, 124, 125, 126, 127, 128, 129, 130, 131, 132, 133, 134, 135, 136, 137, 138, 139, 140, 141] (by decide +kernel) (by decide +kernel)
set_option maxRecDepth 20000 in
theorem gX12_take_X12_isChild : GoodIn wsX12_take (wsV RX12 101 RX12 yX12_isChild wsX12_isChild) := goodIn_app (goodIn_of _ (by decide +kernel)) ggX12_take_X12_isChild
set_option maxRecDepth 20000 in
theorem ggX12_take_X12_isElder : GoodIn wsX12_take wsX12_isElder := goodIn_r _ [12, 7, 8, 4, 9] (by decide +kernel) (by decide +kernel)
set_option maxRecDepth 20000 in
theorem gX12_take_X12_isElder : GoodIn wsX12_take (va_wsS RX12 112 yX12_isElder wsX12_isElder) := goodIn_app (goodIn_of _ (by decide +kernel)) ggX12_take_X12_isElder
set_option maxRecDepth 20000 in
theorem ggX12_take_X12_goesTo : GoodIn wsX12_take wsX12_goesTo := goodIn_r _ [16, 6, 17, 18, 19, 4, 20, 21, 22, 23, 24, 25, 26, 27, 28, 29, 30, 31, 32, 33, 34, 35, 36, 37, 38, 39, 40, 41, 42, 43, 44, 45, 46, 47, 48, 49, 50, 51, 52, 53, 54, 55, 56, 57, 58, 59, 60, 61, 62, 63, 64, 65, 66, 67, 68, 69, 70, 71, 72, 73, 74, 75, 76, 77, 78, 79, 80, 81, 82, 83, 84, 85, 86, 87, 88, 89, 90, 91, 92, 93, 94, 95, 96, 97, 98, 99, 100, 101, 102, 103, 104, 105, 106, 110, 111, 112, 113, 114, 115, 116, 117, 118, 119, 120, 121, 122, 123, 124, 125, 126, 127, 128, 129, 130, 131, 132, 133, 134, 135, 136, 137, 138, 139, 140, 141] (by decide +kernel) (by decide +kernel)
set_option maxRecDepth 20000 in
theorem gX12_take_X12_goesTo : GoodIn wsX12_take (wsV RX12 130 RX12 yX12_goesTo wsX12_goesTo) := goodIn_app (goodIn_of _ (by decide +kernel)) ggX12_take_X12_goesTo
set_option maxRecDepth 20000 in
theorem ggX12_take_X12_orNever : GoodIn wsX12_take wsX12_orNever := goodIn_r _ [109] (by decide +kernel) (by decide +kernel)
set_option maxRecDepth 20000 in
theorem gX12_take_X12_orNever : GoodIn wsX12_take (va_wsS RX12 104 yX12_orNever wsX12_orNever) := goodIn_app (goodIn_of _ (by decide +kernel)) ggX12_take_X12_orNever
def fX12_take (g : c_G) (a1 : Int32) (a2 : Int32) : Option (c_G × Int32) :=
  (fX12_isChild g a1).bind fun r1 => if r1 = 0 then (some (g, (-1 : Int32))) else (if (fX12_isElder a2) = 0 then (some (g, (-1 : Int32))) else (c_b2 (fX12_goesTo g a1 a2) fun g6 r7 => some (g6, (fX12_orNever r7))))
set_option maxRecDepth 100000 in
set_option maxHeartbeats 4000000 in
theorem kX12_take {l : Launch} {D : va_G} {tc : Nat → ClassId} {ad : Nat → Nat} {A : Nat → Prop} {E : (Nat → Nat) × (Nat → Nat) × Nat} (hD : c_D A ad TM) {a1 : Int32} {a2 : Int32} {g g' : c_G} {r : Int32} (hf : fX12_take g a1 a2 = some (g', r)) : c_Mi l yX12_take wsX12_take (c_rm 51) D tc ad A E TM ([.ref (ad 0), .int a1, .int a2] : List Value) g g' r := by
  refine c_ofW (bytes := cX12_take) (maxL := 3) (ret := (some .int)) (by decide) rfl (Nat.le_of_ble_eq_true rfl) ?_
  intro p e s m below meth c ls C hP hS hl
  unfold fX12_take at hf
  obtain ⟨hx, hb, hr, hml, hts, hown, hlk, hK, hE⟩ := id C
  have hl : lv_has ls 3 [(0, .ref (ad 0)), (1, .int a1), (2, .int a2)] := hl
  refine lv_aload_n hx hb dX12_take_0 rfl (lv_at hl 0 rfl) ?_
  refine lv_iload_n hx hb dX12_take_1 rfl (lv_at hl 1 rfl) ?_
  obtain ⟨r1, hc2, hf⟩ := c_bd hf
  refine c_goi (va_runV (As := [.int a1]) (rest := []) ⟨hx, hb, hml, hown, hts⟩ (kX12_isChild hD hc2) (cwV 1 hts gX12_take_X12_isChild rfl rfl rfl (by decide +kernel) ⟨Nat.le_of_ble_eq_true rfl, Nat.le_of_ble_eq_true rfl⟩) (c_preV hK hP hE hS tM0 rfl) rfl rfl hl.1 rfl (lv_room (Nat.le_of_ble_eq_true rfl)) dX12_take_2 ⟨Nat.zero_le _, Nat.zero_le _⟩) hS (fun H locs hP hS => ?_)
  refine lv_if_eq (tgt := 27) hx hb dX12_take_5 (by decide) (fun c3 => ?_) (fun c3 => ?_)
  · have hf := c_it c3 hf
    refine lv_iconst (v := (-1 : Int32)) hx hb dX12_take_27 (by decide) ?_
    exact c_iret hx hb hr hlk hP hS rfl (c_inj hf) dX12_take_28
  · have hf := c_ie c3 hf
    refine lv_iload_n hx hb dX12_take_8 rfl (lv_at hl 2 rfl) ?_
    refine c_goi (va_runS (As := [.int a2]) (rest := []) ⟨hx, hb, hml, hown, hts⟩ (kX12_isElder (T := TM) (g := g) rfl) (va_cwS 1 hts gX12_take_X12_isElder rfl rfl rfl (by decide +kernel) ⟨Nat.le_of_ble_eq_true rfl, Nat.le_of_ble_eq_true rfl⟩) (c_preS hK hP hE hS) rfl rfl hl.1 rfl (lv_room (Nat.le_of_ble_eq_true rfl)) dX12_take_9 ⟨Nat.zero_le _, Nat.zero_le _⟩) hS (fun H locs hP hS => ?_)
    refine lv_if_eq (tgt := 27) hx hb dX12_take_12 (by decide) (fun c4 => ?_) (fun c4 => ?_)
    · have hf := c_it c4 hf
      refine lv_iconst (v := (-1 : Int32)) hx hb dX12_take_27 (by decide) ?_
      exact c_iret hx hb hr hlk hP hS rfl (c_inj hf) dX12_take_28
    · have hf := c_ie c4 hf
      refine lv_aload_n hx hb dX12_take_15 rfl (lv_at hl 0 rfl) ?_
      refine lv_iload_n hx hb dX12_take_16 rfl (lv_at hl 1 rfl) ?_
      refine lv_iload_n hx hb dX12_take_17 rfl (lv_at hl 2 rfl) ?_
      obtain ⟨g6, r7, hc5, hf⟩ := c_b2E hf
      refine c_goi (va_runV (As := [.int a1, .int a2]) (rest := []) ⟨hx, hb, hml, hown, hts⟩ (kX12_goesTo hD hc5) (cwV 2 hts gX12_take_X12_goesTo rfl rfl rfl (by decide +kernel) ⟨Nat.le_of_ble_eq_true rfl, Nat.le_of_ble_eq_true rfl⟩) (c_preV hK hP hE hS tM0 rfl) rfl rfl hl.1 rfl (lv_room (Nat.le_of_ble_eq_true rfl)) dX12_take_18 ⟨Nat.zero_le _, Nat.zero_le _⟩) hS (fun H locs hP hS => ?_)
      refine c_goi (va_runS (As := [.int r7]) (rest := []) ⟨hx, hb, hml, hown, hts⟩ (kX12_orNever (T := TM) (g := g6) rfl) (va_cwS 1 hts gX12_take_X12_orNever rfl rfl rfl (by decide +kernel) ⟨Nat.le_of_ble_eq_true rfl, Nat.le_of_ble_eq_true rfl⟩) (c_preS hK hP hE hS) rfl rfl hl.1 rfl (lv_room (Nat.le_of_ble_eq_true rfl)) dX12_take_21 ⟨Nat.zero_le _, Nat.zero_le _⟩) hS (fun H locs hP hS => ?_)
      refine lv_goto (tgt := 28) hx hb dX12_take_24 (by decide) ?_
      exact c_iret hx hb hr hlk hP hS rfl (c_inj hf) dX12_take_28
theorem i_X12_set_X12 : ∀ w ∈ u_ws RX12 TX12 32, w ∈ wsX12_set := c_inP [9, 10, 11, 12, 13, 14, 15, 16, 17, 18, 19, 20, 21, 22, 23, 24, 25, 26, 27, 28, 29, 30, 31, 32, 33, 34, 35, 36, 37, 38, 39, 40] (by decide +kernel)
theorem dX12_set_0 : decode cX12_set 0 = .ok (.iload_n 1, 1) := by decide +kernel
theorem dX12_set_1 : decode cX12_set 1 = .ok (.invokestatic 112, 3) := by decide +kernel
theorem dX12_set_4 : decode cX12_set 4 = .ok (.ifCond .eq 12, 3) := by decide +kernel
theorem dX12_set_7 : decode cX12_set 7 = .ok (.iload_n 2, 1) := by decide +kernel
theorem dX12_set_8 : decode cX12_set 8 = .ok (.iconst 0, 1) := by decide +kernel
theorem dX12_set_9 : decode cX12_set 9 = .ok (.iconst 1, 1) := by decide +kernel
theorem dX12_set_10 : decode cX12_set 10 = .ok (.invokestatic 85, 3) := by decide +kernel
theorem dX12_set_13 : decode cX12_set 13 = .ok (.ifCond .ne 5, 3) := by decide +kernel
theorem dX12_set_16 : decode cX12_set 16 = .ok (.iconst (-1), 1) := by decide +kernel
theorem dX12_set_17 : decode cX12_set 17 = .ok (.ireturn, 1) := by decide +kernel
theorem dX12_set_18 : decode cX12_set 18 = .ok (.iload_n 3, 1) := by decide +kernel
theorem dX12_set_19 : decode cX12_set 19 = .ok (.iconst 0, 1) := by decide +kernel
theorem dX12_set_20 : decode cX12_set 20 = .ok (.iload_n 2, 1) := by decide +kernel
theorem dX12_set_21 : decode cX12_set 21 = .ok (.ifCond .ne 8, 3) := by decide +kernel
theorem dX12_set_24 : decode cX12_set 24 = .ok (.bipush 9, 2) := by decide +kernel
theorem dX12_set_26 : decode cX12_set 26 = .ok (.goto 4, 3) := by decide +kernel
theorem dX12_set_29 : decode cX12_set 29 = .ok (.iconst 1, 1) := by decide +kernel
theorem dX12_set_30 : decode cX12_set 30 = .ok (.invokestatic 85, 3) := by decide +kernel
theorem dX12_set_33 : decode cX12_set 33 = .ok (.ifCond .ne 6, 3) := by decide +kernel
theorem dX12_set_36 : decode cX12_set 36 = .ok (.bipush (-2), 2) := by decide +kernel
theorem dX12_set_38 : decode cX12_set 38 = .ok (.ireturn, 1) := by decide +kernel
theorem dX12_set_39 : decode cX12_set 39 = .ok (.iconst 4, 1) := by decide +kernel
theorem dX12_set_40 : decode cX12_set 40 = .ok (.iload_n 1, 1) := by decide +kernel
theorem dX12_set_41 : decode cX12_set 41 = .ok (.imul, 1) := by decide +kernel
theorem dX12_set_42 : decode cX12_set 42 = .ok (.iload_n 2, 1) := by decide +kernel
theorem dX12_set_43 : decode cX12_set 43 = .ok (.ifCond .ne 7, 3) := by decide +kernel
theorem dX12_set_46 : decode cX12_set 46 = .ok (.iconst 0, 1) := by decide +kernel
theorem dX12_set_47 : decode cX12_set 47 = .ok (.goto 4, 3) := by decide +kernel
theorem dX12_set_50 : decode cX12_set 50 = .ok (.iconst 3, 1) := by decide +kernel
theorem dX12_set_51 : decode cX12_set 51 = .ok (.iadd, 1) := by decide +kernel
theorem dX12_set_52 : decode cX12_set 52 = .ok (.istore 4, 2) := by decide +kernel
theorem dX12_set_54 : decode cX12_set 54 = .ok (.aload_n 0, 1) := by decide +kernel
theorem dX12_set_55 : decode cX12_set 55 = .ok (.getfield 15, 3) := by decide +kernel
theorem dX12_set_58 : decode cX12_set 58 = .ok (.iload 4, 2) := by decide +kernel
theorem dX12_set_60 : decode cX12_set 60 = .ok (.iaload, 1) := by decide +kernel
theorem dX12_set_61 : decode cX12_set 61 = .ok (.istore 5, 2) := by decide +kernel
theorem dX12_set_63 : decode cX12_set 63 = .ok (.aload_n 0, 1) := by decide +kernel
theorem dX12_set_64 : decode cX12_set 64 = .ok (.getfield 15, 3) := by decide +kernel
theorem dX12_set_67 : decode cX12_set 67 = .ok (.iload 4, 2) := by decide +kernel
theorem dX12_set_69 : decode cX12_set 69 = .ok (.iload_n 3, 1) := by decide +kernel
theorem dX12_set_70 : decode cX12_set 70 = .ok (.iastore, 1) := by decide +kernel
theorem dX12_set_71 : decode cX12_set 71 = .ok (.iload 5, 2) := by decide +kernel
theorem dX12_set_73 : decode cX12_set 73 = .ok (.ireturn, 1) := by decide +kernel
set_option maxRecDepth 20000 in
theorem ggX12_set_X12_isElder : GoodIn wsX12_set wsX12_isElder := goodIn_r _ [5, 6, 7, 4, 8] (by decide +kernel) (by decide +kernel)
set_option maxRecDepth 20000 in
theorem gX12_set_X12_isElder : GoodIn wsX12_set (va_wsS RX12 112 yX12_isElder wsX12_isElder) := goodIn_app (goodIn_of _ (by decide +kernel)) ggX12_set_X12_isElder
set_option maxRecDepth 20000 in
theorem ggX12_set_X12_isIn : GoodIn wsX12_set wsX12_isIn := goodIn_r _ [8] (by decide +kernel) (by decide +kernel)
set_option maxRecDepth 20000 in
theorem gX12_set_X12_isIn : GoodIn wsX12_set (va_wsS RX12 85 yX12_isIn wsX12_isIn) := goodIn_app (goodIn_of _ (by decide +kernel)) ggX12_set_X12_isIn
def fX12_set_51  (a1 : Int32) (a2 : Int32) (a3 : Int32) (x3 : Int32) (y0 : Int32) (y1 : Int32) (g : c_G) : Option (c_G × Int32) :=
  c_let ((y0 + y1)) fun v51001 => if c_in (v51001) (136) = true then c_let (c_si g 1 (v51001).toNatClampNeg x3) fun g51003 => some (g51003, (g.1 1 (v51001).toNatClampNeg)) else none
set_option maxRecDepth 100000 in
set_option maxHeartbeats 4000000 in
theorem jX12_set_51 {p : Program} {l : Launch} {e : Env} {s : State} {m : MethodId} {below : List Frame} {meth : Method} {c : Code} {D : va_G} {tc : Nat → ClassId} {ad : Nat → Nat} {A : Nat → Prop} {E : (Nat → Nat) × (Nat → Nat) × Nat} {a1 : Int32} {a2 : Int32} {a3 : Int32} {g' : c_G} {r : Int32} (C : c_C p s m meth c D tc A E RX12 wsX12_set cX12_set 6 (some .int) ([.ref (ad 0), .int a1, .int a2, .int a3] : List Value).toArray) (hD : c_D A ad TM)  : ∀ (x3 : Int32) (y0 : Int32) (y1 : Int32) (g : c_G), fX12_set_51 a1 a2 a3 x3 y0 y1 g = some (g', r) → ∀ (H : Heap) (locs : List Loc), va_P D vwCl (c_ws tc ad TM g) H → va_S A s.heap H locs → ∀ ls : Array Slot, lv_has ls 6 [(0, .ref (ad 0)), (3, .int x3)] → W p l e (c_rm 2) s m ([.ref (ad 0), .int a1, .int a2, .int a3] : List Value).toArray below meth c H locs 0 0 (MQ below (va_Qi (fun (x : Int32) (_ : Unit) => x = r) (fun _ t => va_P D vwCl (c_ws tc ad TM g') t.heap) A) ([.ref (ad 0), .int a1, .int a2, .int a3] : List Value).toArray s 0 0 A) (F0 m 51 ls [.int y1, .int y0]) := by
  obtain ⟨hx, hb, hr, hml, hts, hown, hlk, hK, hE⟩ := id C
  intro x3 y0 y1 g hf H locs hP hS ls hl
  unfold fX12_set_51 at hf
  refine lv_iadd hx hb dX12_set_51 ?_
  obtain ⟨v51001, ev51001, hf⟩ := c_letE hf
  refine c_topi ev51001 ?_
  refine lv_istore (lv' := [(4, .int v51001), (0, .ref (ad 0)), (3, .int x3)]) hx hb dX12_set_52 hl (by decide) rfl (fun ls hl => ?_)
  refine lv_aload_n hx hb dX12_set_54 rfl (lv_at hl 1 rfl) ?_
  refine c_get hx hb hts i_X12_set_X12 hown hK hP 0 tM0 rfl 0 (by decide) (hts _ (List.mem_of_getElem? (i := 1) rfl)) (fun _ h9 => h9) rfl (v := .ref (ad 1)) rfl dX12_set_55 ?_
  refine lv_iload hx hb dX12_set_58 (lv_at hl 0 rfl) ?_
  obtain ⟨hi51002, hf⟩ := c_gd hf
  refine c_iald (j := (v51001).toNatClampNeg) hx hb hK hP 1 tM1 rfl (c_inV hi51002) dX12_set_60 ?_
  refine lv_istore (lv' := [(5, .int (g.1 1 (v51001).toNatClampNeg)), (4, .int v51001), (0, .ref (ad 0)), (3, .int x3)]) hx hb dX12_set_61 hl (by decide) rfl (fun ls hl => ?_)
  refine lv_aload_n hx hb dX12_set_63 rfl (lv_at hl 2 rfl) ?_
  refine c_get hx hb hts i_X12_set_X12 hown hK hP 0 tM0 rfl 0 (by decide) (hts _ (List.mem_of_getElem? (i := 1) rfl)) (fun _ h9 => h9) rfl (v := .ref (ad 1)) rfl dX12_set_64 ?_
  refine lv_iload hx hb dX12_set_67 (lv_at hl 1 rfl) ?_
  refine lv_iload_n hx hb dX12_set_69 rfl (lv_at hl 3 rfl) ?_
  obtain ⟨g51003, eg51003, hf⟩ := c_letE hf
  refine c_iast (j := (v51001).toNatClampNeg) hx hb hK hP hD hS 1 tM1 rfl (c_inV hi51002) eg51003 dX12_set_70 (fun H locs hP hS => ?_)
  refine lv_iload hx hb dX12_set_71 (lv_at hl 0 rfl) ?_
  exact c_iret hx hb hr hlk hP hS rfl (c_inj hf) dX12_set_73
def fX12_set_30  (a1 : Int32) (a2 : Int32) (a3 : Int32) (x1 : Int32) (x2 : Int32) (x3 : Int32) (y0 : Int32) (y1 : Int32) (y2 : Int32) (g : c_G) : Option (c_G × Int32) :=
  if (fX12_isIn y0 y1 y2) = 0 then (some (g, (-2 : Int32))) else (if x2 = 0 then (fX12_set_51 a1 a2 a3 x3 (((4 : Int32) * x1)) ((0 : Int32)) g) else (fX12_set_51 a1 a2 a3 x3 (((4 : Int32) * x1)) ((3 : Int32)) g))
set_option maxRecDepth 100000 in
set_option maxHeartbeats 4000000 in
theorem jX12_set_30 {p : Program} {l : Launch} {e : Env} {s : State} {m : MethodId} {below : List Frame} {meth : Method} {c : Code} {D : va_G} {tc : Nat → ClassId} {ad : Nat → Nat} {A : Nat → Prop} {E : (Nat → Nat) × (Nat → Nat) × Nat} {a1 : Int32} {a2 : Int32} {a3 : Int32} {g' : c_G} {r : Int32} (C : c_C p s m meth c D tc A E RX12 wsX12_set cX12_set 6 (some .int) ([.ref (ad 0), .int a1, .int a2, .int a3] : List Value).toArray) (hD : c_D A ad TM)  : ∀ (x1 : Int32) (x2 : Int32) (x3 : Int32) (y0 : Int32) (y1 : Int32) (y2 : Int32) (g : c_G), fX12_set_30 a1 a2 a3 x1 x2 x3 y0 y1 y2 g = some (g', r) → ∀ (H : Heap) (locs : List Loc), va_P D vwCl (c_ws tc ad TM g) H → va_S A s.heap H locs → ∀ ls : Array Slot, lv_has ls 6 [(0, .ref (ad 0)), (1, .int x1), (2, .int x2), (3, .int x3)] → W p l e (c_rm 2) s m ([.ref (ad 0), .int a1, .int a2, .int a3] : List Value).toArray below meth c H locs 0 0 (MQ below (va_Qi (fun (x : Int32) (_ : Unit) => x = r) (fun _ t => va_P D vwCl (c_ws tc ad TM g') t.heap) A) ([.ref (ad 0), .int a1, .int a2, .int a3] : List Value).toArray s 0 0 A) (F0 m 30 ls [.int y2, .int y1, .int y0]) := by
  obtain ⟨hx, hb, hr, hml, hts, hown, hlk, hK, hE⟩ := id C
  intro x1 x2 x3 y0 y1 y2 g hf H locs hP hS ls hl
  unfold fX12_set_30 at hf
  refine c_goi (va_runS (As := [.int y0, .int y1, .int y2]) (rest := []) ⟨hx, hb, hml, hown, hts⟩ (kX12_isIn (T := TM) (g := g) rfl) (va_cwS 3 hts gX12_set_X12_isIn rfl rfl rfl (by decide +kernel) ⟨Nat.le_of_ble_eq_true rfl, Nat.le_of_ble_eq_true rfl⟩) (c_preS hK hP hE hS) rfl rfl hl.1 rfl (lv_room (Nat.le_of_ble_eq_true rfl)) dX12_set_30 ⟨Nat.zero_le _, Nat.zero_le _⟩) hS (fun H locs hP hS => ?_)
  refine lv_if_ne (tgt := 39) hx hb dX12_set_33 (by decide) (fun c30001 => ?_) (fun c30001 => ?_)
  · have hf := c_ie c30001 hf
    refine lv_iconst (v := (4 : Int32)) hx hb dX12_set_39 (by decide) ?_
    refine lv_iload_n hx hb dX12_set_40 rfl (lv_at hl 1 rfl) ?_
    refine lv_imul hx hb dX12_set_41 ?_
    refine lv_iload_n hx hb dX12_set_42 rfl (lv_at hl 2 rfl) ?_
    refine lv_if_ne (tgt := 50) hx hb dX12_set_43 (by decide) (fun c30002 => ?_) (fun c30002 => ?_)
    · have hf := c_ie c30002 hf
      refine lv_iconst (v := (3 : Int32)) hx hb dX12_set_50 (by decide) ?_
      exact jX12_set_51 C hD x3 (((4 : Int32) * x1)) ((3 : Int32)) g hf _ _ hP hS _ (lv_sub hl [0, 3] rfl)
    · have hf := c_it c30002 hf
      refine lv_iconst (v := (0 : Int32)) hx hb dX12_set_46 (by decide) ?_
      refine lv_goto (tgt := 51) hx hb dX12_set_47 (by decide) ?_
      exact jX12_set_51 C hD x3 (((4 : Int32) * x1)) ((0 : Int32)) g hf _ _ hP hS _ (lv_sub hl [0, 3] rfl)
  · have hf := c_it c30001 hf
    refine lv_bipush (v := (-2 : Int32)) hx hb dX12_set_36 (by decide) ?_
    exact c_iret hx hb hr hlk hP hS rfl (c_inj hf) dX12_set_38
def fX12_set (g : c_G) (a1 : Int32) (a2 : Int32) (a3 : Int32) : Option (c_G × Int32) :=
  if (fX12_isElder a1) = 0 then (some (g, (-1 : Int32))) else (if (fX12_isIn a2 ((0 : Int32)) ((1 : Int32))) = 0 then (some (g, (-1 : Int32))) else (if a2 = 0 then (fX12_set_30 a1 a2 a3 a1 a2 a3 a3 ((0 : Int32)) ((9 : Int32)) g) else (fX12_set_30 a1 a2 a3 a1 a2 a3 a3 ((0 : Int32)) ((1 : Int32)) g)))
set_option maxRecDepth 100000 in
set_option maxHeartbeats 4000000 in
theorem kX12_set {l : Launch} {D : va_G} {tc : Nat → ClassId} {ad : Nat → Nat} {A : Nat → Prop} {E : (Nat → Nat) × (Nat → Nat) × Nat} (hD : c_D A ad TM) {a1 : Int32} {a2 : Int32} {a3 : Int32} {g g' : c_G} {r : Int32} (hf : fX12_set g a1 a2 a3 = some (g', r)) : c_Mi l yX12_set wsX12_set (c_rm 2) D tc ad A E TM ([.ref (ad 0), .int a1, .int a2, .int a3] : List Value) g g' r := by
  refine c_ofW (bytes := cX12_set) (maxL := 6) (ret := (some .int)) (by decide) rfl (Nat.le_of_ble_eq_true rfl) ?_
  intro p e s m below meth c ls C hP hS hl
  unfold fX12_set at hf
  obtain ⟨hx, hb, hr, hml, hts, hown, hlk, hK, hE⟩ := id C
  have hl : lv_has ls 6 [(0, .ref (ad 0)), (1, .int a1), (2, .int a2), (3, .int a3)] := hl
  refine lv_iload_n hx hb dX12_set_0 rfl (lv_at hl 1 rfl) ?_
  refine c_goi (va_runS (As := [.int a1]) (rest := []) ⟨hx, hb, hml, hown, hts⟩ (kX12_isElder (T := TM) (g := g) rfl) (va_cwS 1 hts gX12_set_X12_isElder rfl rfl rfl (by decide +kernel) ⟨Nat.le_of_ble_eq_true rfl, Nat.le_of_ble_eq_true rfl⟩) (c_preS hK hP hE hS) rfl rfl hl.1 rfl (lv_room (Nat.le_of_ble_eq_true rfl)) dX12_set_1 ⟨Nat.zero_le _, Nat.zero_le _⟩) hS (fun H locs hP hS => ?_)
  refine lv_if_eq (tgt := 16) hx hb dX12_set_4 (by decide) (fun c1 => ?_) (fun c1 => ?_)
  · have hf := c_it c1 hf
    refine lv_iconst (v := (-1 : Int32)) hx hb dX12_set_16 (by decide) ?_
    exact c_iret hx hb hr hlk hP hS rfl (c_inj hf) dX12_set_17
  · have hf := c_ie c1 hf
    refine lv_iload_n hx hb dX12_set_7 rfl (lv_at hl 2 rfl) ?_
    refine lv_iconst (v := (0 : Int32)) hx hb dX12_set_8 (by decide) ?_
    refine lv_iconst (v := (1 : Int32)) hx hb dX12_set_9 (by decide) ?_
    refine c_goi (va_runS (As := [.int a2, .int (0 : Int32), .int (1 : Int32)]) (rest := []) ⟨hx, hb, hml, hown, hts⟩ (kX12_isIn (T := TM) (g := g) rfl) (va_cwS 3 hts gX12_set_X12_isIn rfl rfl rfl (by decide +kernel) ⟨Nat.le_of_ble_eq_true rfl, Nat.le_of_ble_eq_true rfl⟩) (c_preS hK hP hE hS) rfl rfl hl.1 rfl (lv_room (Nat.le_of_ble_eq_true rfl)) dX12_set_10 ⟨Nat.zero_le _, Nat.zero_le _⟩) hS (fun H locs hP hS => ?_)
    refine lv_if_ne (tgt := 18) hx hb dX12_set_13 (by decide) (fun c2 => ?_) (fun c2 => ?_)
    · have hf := c_ie c2 hf
      refine lv_iload_n hx hb dX12_set_18 rfl (lv_at hl 3 rfl) ?_
      refine lv_iconst (v := (0 : Int32)) hx hb dX12_set_19 (by decide) ?_
      refine lv_iload_n hx hb dX12_set_20 rfl (lv_at hl 2 rfl) ?_
      refine lv_if_ne (tgt := 29) hx hb dX12_set_21 (by decide) (fun c3 => ?_) (fun c3 => ?_)
      · have hf := c_ie c3 hf
        refine lv_iconst (v := (1 : Int32)) hx hb dX12_set_29 (by decide) ?_
        exact jX12_set_30 C hD a1 a2 a3 a3 ((0 : Int32)) ((1 : Int32)) g hf _ _ hP hS _ (lv_sub hl [0, 1, 2, 3] rfl)
      · have hf := c_it c3 hf
        refine lv_bipush (v := (9 : Int32)) hx hb dX12_set_24 (by decide) ?_
        refine lv_goto (tgt := 30) hx hb dX12_set_26 (by decide) ?_
        exact jX12_set_30 C hD a1 a2 a3 a3 ((0 : Int32)) ((9 : Int32)) g hf _ _ hP hS _ (lv_sub hl [0, 1, 2, 3] rfl)
    · have hf := c_it c2 hf
      refine lv_iconst (v := (-1 : Int32)) hx hb dX12_set_16 (by decide) ?_
      exact c_iret hx hb hr hlk hP hS rfl (c_inj hf) dX12_set_17
theorem i_X12_forgets_X12 : ∀ w ∈ u_ws RX12 TX12 32, w ∈ wsX12_forgets := c_inP [2, 3, 4, 5, 6, 7, 8, 9, 10, 11, 12, 13, 14, 15, 16, 17, 18, 19, 20, 21, 22, 23, 24, 25, 26, 27, 28, 29, 30, 31, 32, 33] (by decide +kernel)
theorem dX12_forgets_0 : decode cX12_forgets 0 = .ok (.aload_n 0, 1) := by decide +kernel
theorem dX12_forgets_1 : decode cX12_forgets 1 = .ok (.getfield 15, 3) := by decide +kernel
theorem dX12_forgets_4 : decode cX12_forgets 4 = .ok (.iconst 4, 1) := by decide +kernel
theorem dX12_forgets_5 : decode cX12_forgets 5 = .ok (.iload_n 1, 1) := by decide +kernel
theorem dX12_forgets_6 : decode cX12_forgets 6 = .ok (.imul, 1) := by decide +kernel
theorem dX12_forgets_7 : decode cX12_forgets 7 = .ok (.iconst 1, 1) := by decide +kernel
theorem dX12_forgets_8 : decode cX12_forgets 8 = .ok (.iadd, 1) := by decide +kernel
theorem dX12_forgets_9 : decode cX12_forgets 9 = .ok (.iconst (-1), 1) := by decide +kernel
theorem dX12_forgets_10 : decode cX12_forgets 10 = .ok (.iastore, 1) := by decide +kernel
theorem dX12_forgets_11 : decode cX12_forgets 11 = .ok (.aload_n 0, 1) := by decide +kernel
theorem dX12_forgets_12 : decode cX12_forgets 12 = .ok (.getfield 15, 3) := by decide +kernel
theorem dX12_forgets_15 : decode cX12_forgets 15 = .ok (.iconst 4, 1) := by decide +kernel
theorem dX12_forgets_16 : decode cX12_forgets 16 = .ok (.iload_n 1, 1) := by decide +kernel
theorem dX12_forgets_17 : decode cX12_forgets 17 = .ok (.imul, 1) := by decide +kernel
theorem dX12_forgets_18 : decode cX12_forgets 18 = .ok (.iconst 2, 1) := by decide +kernel
theorem dX12_forgets_19 : decode cX12_forgets 19 = .ok (.iadd, 1) := by decide +kernel
theorem dX12_forgets_20 : decode cX12_forgets 20 = .ok (.iconst (-1), 1) := by decide +kernel
theorem dX12_forgets_21 : decode cX12_forgets 21 = .ok (.iastore, 1) := by decide +kernel
theorem dX12_forgets_22 : decode cX12_forgets 22 = .ok (.return_, 1) := by decide +kernel
def fX12_forgets (g : c_G) (a1 : Int32) : Option (c_G) :=
  if c_in ((((4 : Int32) * a1) + (1 : Int32))) (136) = true then c_let (c_si g 1 ((((4 : Int32) * a1) + (1 : Int32))).toNatClampNeg (-1 : Int32)) fun g2 => if c_in ((((4 : Int32) * a1) + (2 : Int32))) (136) = true then c_let (c_si g2 1 ((((4 : Int32) * a1) + (2 : Int32))).toNatClampNeg (-1 : Int32)) fun g4 => some g4 else none else none
set_option maxRecDepth 100000 in
set_option maxHeartbeats 4000000 in
theorem kX12_forgets {l : Launch} {D : va_G} {tc : Nat → ClassId} {ad : Nat → Nat} {A : Nat → Prop} {E : (Nat → Nat) × (Nat → Nat) × Nat} (hD : c_D A ad TM) {a1 : Int32} {g g' : c_G} (hf : fX12_forgets g a1 = some g') : c_Mv l yX12_forgets wsX12_forgets (c_rm 0) D tc ad A E TM ([.ref (ad 0), .int a1] : List Value) g g' := by
  refine c_ofW (bytes := cX12_forgets) (maxL := 2) (ret := none) (by decide) rfl (Nat.le_of_ble_eq_true rfl) ?_
  intro p e s m below meth c ls C hP hS hl
  unfold fX12_forgets at hf
  obtain ⟨hx, hb, hr, hml, hts, hown, hlk, hK, hE⟩ := id C
  have hl : lv_has ls 2 [(0, .ref (ad 0)), (1, .int a1)] := hl
  refine lv_aload_n hx hb dX12_forgets_0 rfl (lv_at hl 0 rfl) ?_
  refine c_get hx hb hts i_X12_forgets_X12 hown hK hP 0 tM0 rfl 0 (by decide) (hts _ (List.mem_of_getElem? (i := 1) rfl)) (fun _ h9 => h9) rfl (v := .ref (ad 1)) rfl dX12_forgets_1 ?_
  refine lv_iconst (v := (4 : Int32)) hx hb dX12_forgets_4 (by decide) ?_
  refine lv_iload_n hx hb dX12_forgets_5 rfl (lv_at hl 1 rfl) ?_
  refine lv_imul hx hb dX12_forgets_6 ?_
  refine lv_iconst (v := (1 : Int32)) hx hb dX12_forgets_7 (by decide) ?_
  refine lv_iadd hx hb dX12_forgets_8 ?_
  refine lv_iconst (v := (-1 : Int32)) hx hb dX12_forgets_9 (by decide) ?_
  obtain ⟨hi1, hf⟩ := c_gd hf
  obtain ⟨g2, eg2, hf⟩ := c_letE hf
  refine c_iast (j := ((((4 : Int32) * a1) + (1 : Int32))).toNatClampNeg) hx hb hK hP hD hS 1 tM1 rfl (c_inV hi1) eg2 dX12_forgets_10 (fun H locs hP hS => ?_)
  refine lv_aload_n hx hb dX12_forgets_11 rfl (lv_at hl 0 rfl) ?_
  refine c_get hx hb hts i_X12_forgets_X12 hown hK hP 0 tM0 rfl 0 (by decide) (hts _ (List.mem_of_getElem? (i := 1) rfl)) (fun _ h9 => h9) rfl (v := .ref (ad 1)) rfl dX12_forgets_12 ?_
  refine lv_iconst (v := (4 : Int32)) hx hb dX12_forgets_15 (by decide) ?_
  refine lv_iload_n hx hb dX12_forgets_16 rfl (lv_at hl 1 rfl) ?_
  refine lv_imul hx hb dX12_forgets_17 ?_
  refine lv_iconst (v := (2 : Int32)) hx hb dX12_forgets_18 (by decide) ?_
  refine lv_iadd hx hb dX12_forgets_19 ?_
  refine lv_iconst (v := (-1 : Int32)) hx hb dX12_forgets_20 (by decide) ?_
  obtain ⟨hi3, hf⟩ := c_gd hf
  obtain ⟨g4, eg4, hf⟩ := c_letE hf
  refine c_iast (j := ((((4 : Int32) * a1) + (2 : Int32))).toNatClampNeg) hx hb hK hP hD hS 1 tM1 rfl (c_inV hi3) eg4 dX12_forgets_21 (fun H locs hP hS => ?_)
  exact c_vret hx hb hr hlk hP hS (Option.some.inj hf) dX12_forgets_22
theorem i_X12_forget_X12 : ∀ w ∈ u_ws RX12 TX12 32, w ∈ wsX12_forget := c_inP [20, 21, 22, 23, 24, 25, 26, 27, 28, 29, 30, 31, 32, 33, 34, 35, 36, 37, 38, 39, 40, 41, 42, 43, 44, 45, 46, 47, 48, 49, 50, 51] (by decide +kernel)
theorem dX12_forget_0 : decode cX12_forget 0 = .ok (.iload_n 1, 1) := by decide +kernel
theorem dX12_forget_1 : decode cX12_forget 1 = .ok (.invokestatic 112, 3) := by decide +kernel
theorem dX12_forget_4 : decode cX12_forget 4 = .ok (.ifCond .ne 5, 3) := by decide +kernel
theorem dX12_forget_7 : decode cX12_forget 7 = .ok (.iconst (-1), 1) := by decide +kernel
theorem dX12_forget_8 : decode cX12_forget 8 = .ok (.ireturn, 1) := by decide +kernel
theorem dX12_forget_9 : decode cX12_forget 9 = .ok (.aload_n 0, 1) := by decide +kernel
theorem dX12_forget_10 : decode cX12_forget 10 = .ok (.aload_n 0, 1) := by decide +kernel
theorem dX12_forget_11 : decode cX12_forget 11 = .ok (.getfield 15, 3) := by decide +kernel
theorem dX12_forget_14 : decode cX12_forget 14 = .ok (.iload_n 1, 1) := by decide +kernel
theorem dX12_forget_15 : decode cX12_forget 15 = .ok (.iconst 1, 1) := by decide +kernel
theorem dX12_forget_16 : decode cX12_forget 16 = .ok (.invokevirtual 118, 3) := by decide +kernel
theorem dX12_forget_19 : decode cX12_forget 19 = .ok (.istore_n 2, 1) := by decide +kernel
theorem dX12_forget_20 : decode cX12_forget 20 = .ok (.aload_n 0, 1) := by decide +kernel
theorem dX12_forget_21 : decode cX12_forget 21 = .ok (.iload_n 1, 1) := by decide +kernel
theorem dX12_forget_22 : decode cX12_forget 22 = .ok (.invokevirtual 133, 3) := by decide +kernel
theorem dX12_forget_25 : decode cX12_forget 25 = .ok (.iload_n 2, 1) := by decide +kernel
theorem dX12_forget_26 : decode cX12_forget 26 = .ok (.invokestatic 104, 3) := by decide +kernel
theorem dX12_forget_29 : decode cX12_forget 29 = .ok (.ireturn, 1) := by decide +kernel
set_option maxRecDepth 20000 in
theorem ggX12_forget_X12_isElder : GoodIn wsX12_forget wsX12_isElder := goodIn_r _ [5, 6, 7, 4, 8] (by decide +kernel) (by decide +kernel)
set_option maxRecDepth 20000 in
theorem gX12_forget_X12_isElder : GoodIn wsX12_forget (va_wsS RX12 112 yX12_isElder wsX12_isElder) := goodIn_app (goodIn_of _ (by decide +kernel)) ggX12_forget_X12_isElder
set_option maxRecDepth 20000 in
theorem ggX12_forget_X12_of : GoodIn wsX12_forget wsX12_of := goodIn_r _ [12] (by decide +kernel) (by decide +kernel)
set_option maxRecDepth 20000 in
theorem gX12_forget_X12_of : GoodIn wsX12_forget (wsV RX12 118 RX12 yX12_of wsX12_of) := goodIn_app (goodIn_of _ (by decide +kernel)) ggX12_forget_X12_of
set_option maxRecDepth 20000 in
theorem ggX12_forget_X12_forgets : GoodIn wsX12_forget wsX12_forgets := goodIn_r _ [16, 1, 20, 21, 22, 23, 24, 25, 26, 27, 28, 29, 30, 31, 32, 33, 34, 35, 36, 37, 38, 39, 40, 41, 42, 43, 44, 45, 46, 47, 48, 49, 50, 51] (by decide +kernel) (by decide +kernel)
set_option maxRecDepth 20000 in
theorem gX12_forget_X12_forgets : GoodIn wsX12_forget (wsV RX12 133 RX12 yX12_forgets wsX12_forgets) := goodIn_app (goodIn_of _ (by decide +kernel)) ggX12_forget_X12_forgets
set_option maxRecDepth 20000 in
theorem ggX12_forget_X12_orNever : GoodIn wsX12_forget wsX12_orNever := goodIn_r _ [19] (by decide +kernel) (by decide +kernel)
set_option maxRecDepth 20000 in
theorem gX12_forget_X12_orNever : GoodIn wsX12_forget (va_wsS RX12 104 yX12_orNever wsX12_orNever) := goodIn_app (goodIn_of _ (by decide +kernel)) ggX12_forget_X12_orNever
def fX12_forget (g : c_G) (a1 : Int32) : Option (c_G × Int32) :=
  if (fX12_isElder a1) = 0 then (some (g, (-1 : Int32))) else ((fX12_of g a1 ((1 : Int32))).bind fun r2 => (fX12_forgets g a1).bind fun g5 => some (g5, (fX12_orNever r2)))
set_option maxRecDepth 100000 in
set_option maxHeartbeats 4000000 in
theorem kX12_forget {l : Launch} {D : va_G} {tc : Nat → ClassId} {ad : Nat → Nat} {A : Nat → Prop} {E : (Nat → Nat) × (Nat → Nat) × Nat} (hD : c_D A ad TM) {a1 : Int32} {g g' : c_G} {r : Int32} (hf : fX12_forget g a1 = some (g', r)) : c_Mi l yX12_forget wsX12_forget (c_rm 2) D tc ad A E TM ([.ref (ad 0), .int a1] : List Value) g g' r := by
  refine c_ofW (bytes := cX12_forget) (maxL := 3) (ret := (some .int)) (by decide) rfl (Nat.le_of_ble_eq_true rfl) ?_
  intro p e s m below meth c ls C hP hS hl
  unfold fX12_forget at hf
  obtain ⟨hx, hb, hr, hml, hts, hown, hlk, hK, hE⟩ := id C
  have hl : lv_has ls 3 [(0, .ref (ad 0)), (1, .int a1)] := hl
  refine lv_iload_n hx hb dX12_forget_0 rfl (lv_at hl 1 rfl) ?_
  refine c_goi (va_runS (As := [.int a1]) (rest := []) ⟨hx, hb, hml, hown, hts⟩ (kX12_isElder (T := TM) (g := g) rfl) (va_cwS 1 hts gX12_forget_X12_isElder rfl rfl rfl (by decide +kernel) ⟨Nat.le_of_ble_eq_true rfl, Nat.le_of_ble_eq_true rfl⟩) (c_preS hK hP hE hS) rfl rfl hl.1 rfl (lv_room (Nat.le_of_ble_eq_true rfl)) dX12_forget_1 ⟨Nat.zero_le _, Nat.zero_le _⟩) hS (fun H locs hP hS => ?_)
  refine lv_if_ne (tgt := 9) hx hb dX12_forget_4 (by decide) (fun c1 => ?_) (fun c1 => ?_)
  · have hf := c_ie c1 hf
    refine lv_aload_n hx hb dX12_forget_9 rfl (lv_at hl 0 rfl) ?_
    refine lv_aload_n hx hb dX12_forget_10 rfl (lv_at hl 0 rfl) ?_
    refine c_get hx hb hts i_X12_forget_X12 hown hK hP 0 tM0 rfl 0 (by decide) (hts _ (List.mem_of_getElem? (i := 1) rfl)) (fun _ h9 => h9) rfl (v := .ref (ad 1)) rfl dX12_forget_11 ?_
    refine lv_iload_n hx hb dX12_forget_14 rfl (lv_at hl 1 rfl) ?_
    refine lv_iconst (v := (1 : Int32)) hx hb dX12_forget_15 (by decide) ?_
    obtain ⟨r2, hc3, hf⟩ := c_bd hf
    refine c_goi (va_runV (As := [.ref (ad 1), .int a1, .int (1 : Int32)]) (rest := []) ⟨hx, hb, hml, hown, hts⟩ (kX12_of hD hc3) (cwV 3 hts gX12_forget_X12_of rfl rfl rfl (by decide +kernel) ⟨Nat.le_of_ble_eq_true rfl, Nat.le_of_ble_eq_true rfl⟩) (c_preV hK hP hE hS tM0 rfl) rfl rfl hl.1 rfl (lv_room (Nat.le_of_ble_eq_true rfl)) dX12_forget_16 ⟨Nat.zero_le _, Nat.zero_le _⟩) hS (fun H locs hP hS => ?_)
    refine lv_istore_n (lv' := [(2, .int r2), (0, .ref (ad 0)), (1, .int a1)]) hx hb dX12_forget_19 rfl hl (by decide) rfl (fun ls hl => ?_)
    refine lv_aload_n hx hb dX12_forget_20 rfl (lv_at hl 1 rfl) ?_
    refine lv_iload_n hx hb dX12_forget_21 rfl (lv_at hl 2 rfl) ?_
    obtain ⟨g5, hc4, hf⟩ := c_bd hf
    refine c_gov (va_runV (As := [.int a1]) (rest := []) ⟨hx, hb, hml, hown, hts⟩ (kX12_forgets hD hc4) (cwV 1 hts gX12_forget_X12_forgets rfl rfl rfl (by decide +kernel) ⟨Nat.le_of_ble_eq_true rfl, Nat.le_of_ble_eq_true rfl⟩) (c_preV hK hP hE hS tM0 rfl) rfl rfl hl.1 rfl (lv_room (Nat.le_of_ble_eq_true rfl)) dX12_forget_22 ⟨Nat.zero_le _, Nat.zero_le _⟩) hS (fun H locs hP hS => ?_)
    refine lv_iload_n hx hb dX12_forget_25 rfl (lv_at hl 0 rfl) ?_
    refine c_goi (va_runS (As := [.int r2]) (rest := []) ⟨hx, hb, hml, hown, hts⟩ (kX12_orNever (T := TM) (g := g5) rfl) (va_cwS 1 hts gX12_forget_X12_orNever rfl rfl rfl (by decide +kernel) ⟨Nat.le_of_ble_eq_true rfl, Nat.le_of_ble_eq_true rfl⟩) (c_preS hK hP hE hS) rfl rfl hl.1 rfl (lv_room (Nat.le_of_ble_eq_true rfl)) dX12_forget_26 ⟨Nat.zero_le _, Nat.zero_le _⟩) hS (fun H locs hP hS => ?_)
    exact c_iret hx hb hr hlk hP hS rfl (c_inj hf) dX12_forget_29
  · have hf := c_it c1 hf
    refine lv_iconst (v := (-1 : Int32)) hx hb dX12_forget_7 (by decide) ?_
    exact c_iret hx hb hr hlk hP hS rfl (c_inj hf) dX12_forget_8
theorem i_X12_bar_X12 : ∀ w ∈ u_ws RX12 TX12 32, w ∈ wsX12_bar := c_inP [9, 10, 11, 12, 13, 14, 15, 16, 17, 18, 19, 20, 21, 22, 23, 24, 25, 26, 27, 28, 29, 30, 31, 32, 33, 34, 35, 36, 37, 38, 39, 40] (by decide +kernel)
theorem dX12_bar_0 : decode cX12_bar 0 = .ok (.iload_n 1, 1) := by decide +kernel
theorem dX12_bar_1 : decode cX12_bar 1 = .ok (.invokestatic 93, 3) := by decide +kernel
theorem dX12_bar_4 : decode cX12_bar 4 = .ok (.ifCond .ne 6, 3) := by decide +kernel
theorem dX12_bar_7 : decode cX12_bar 7 = .ok (.bipush (-2), 2) := by decide +kernel
theorem dX12_bar_9 : decode cX12_bar 9 = .ok (.ireturn, 1) := by decide +kernel
theorem dX12_bar_10 : decode cX12_bar 10 = .ok (.aload_n 0, 1) := by decide +kernel
theorem dX12_bar_11 : decode cX12_bar 11 = .ok (.getfield 15, 3) := by decide +kernel
theorem dX12_bar_14 : decode cX12_bar 14 = .ok (.bipush 79, 2) := by decide +kernel
theorem dX12_bar_16 : decode cX12_bar 16 = .ok (.iaload, 1) := by decide +kernel
theorem dX12_bar_17 : decode cX12_bar 17 = .ok (.istore_n 2, 1) := by decide +kernel
theorem dX12_bar_18 : decode cX12_bar 18 = .ok (.aload_n 0, 1) := by decide +kernel
theorem dX12_bar_19 : decode cX12_bar 19 = .ok (.getfield 15, 3) := by decide +kernel
theorem dX12_bar_22 : decode cX12_bar 22 = .ok (.bipush 79, 2) := by decide +kernel
theorem dX12_bar_24 : decode cX12_bar 24 = .ok (.iload_n 1, 1) := by decide +kernel
theorem dX12_bar_25 : decode cX12_bar 25 = .ok (.iastore, 1) := by decide +kernel
theorem dX12_bar_26 : decode cX12_bar 26 = .ok (.iload_n 2, 1) := by decide +kernel
theorem dX12_bar_27 : decode cX12_bar 27 = .ok (.ireturn, 1) := by decide +kernel
set_option maxRecDepth 20000 in
theorem ggX12_bar_X12_isSet : GoodIn wsX12_bar wsX12_isSet := goodIn_r _ [5, 6, 7, 4, 8] (by decide +kernel) (by decide +kernel)
set_option maxRecDepth 20000 in
theorem gX12_bar_X12_isSet : GoodIn wsX12_bar (va_wsS RX12 93 yX12_isSet wsX12_isSet) := goodIn_app (goodIn_of _ (by decide +kernel)) ggX12_bar_X12_isSet
def fX12_bar (g : c_G) (a1 : Int32) : Option (c_G × Int32) :=
  if (fX12_isSet a1) = 0 then (some (g, (-2 : Int32))) else (c_let (c_si g 1 79 a1) fun g2 => some (g2, (g.1 1 79)))
set_option maxRecDepth 100000 in
set_option maxHeartbeats 4000000 in
theorem kX12_bar {l : Launch} {D : va_G} {tc : Nat → ClassId} {ad : Nat → Nat} {A : Nat → Prop} {E : (Nat → Nat) × (Nat → Nat) × Nat} (hD : c_D A ad TM) {a1 : Int32} {g g' : c_G} {r : Int32} (hf : fX12_bar g a1 = some (g', r)) : c_Mi l yX12_bar wsX12_bar (c_rm 2) D tc ad A E TM ([.ref (ad 0), .int a1] : List Value) g g' r := by
  refine c_ofW (bytes := cX12_bar) (maxL := 3) (ret := (some .int)) (by decide) rfl (Nat.le_of_ble_eq_true rfl) ?_
  intro p e s m below meth c ls C hP hS hl
  unfold fX12_bar at hf
  obtain ⟨hx, hb, hr, hml, hts, hown, hlk, hK, hE⟩ := id C
  have hl : lv_has ls 3 [(0, .ref (ad 0)), (1, .int a1)] := hl
  refine lv_iload_n hx hb dX12_bar_0 rfl (lv_at hl 1 rfl) ?_
  refine c_goi (va_runS (As := [.int a1]) (rest := []) ⟨hx, hb, hml, hown, hts⟩ (kX12_isSet (T := TM) (g := g) rfl) (va_cwS 1 hts gX12_bar_X12_isSet rfl rfl rfl (by decide +kernel) ⟨Nat.le_of_ble_eq_true rfl, Nat.le_of_ble_eq_true rfl⟩) (c_preS hK hP hE hS) rfl rfl hl.1 rfl (lv_room (Nat.le_of_ble_eq_true rfl)) dX12_bar_1 ⟨Nat.zero_le _, Nat.zero_le _⟩) hS (fun H locs hP hS => ?_)
  refine lv_if_ne (tgt := 10) hx hb dX12_bar_4 (by decide) (fun c1 => ?_) (fun c1 => ?_)
  · have hf := c_ie c1 hf
    refine lv_aload_n hx hb dX12_bar_10 rfl (lv_at hl 0 rfl) ?_
    refine c_get hx hb hts i_X12_bar_X12 hown hK hP 0 tM0 rfl 0 (by decide) (hts _ (List.mem_of_getElem? (i := 1) rfl)) (fun _ h9 => h9) rfl (v := .ref (ad 1)) rfl dX12_bar_11 ?_
    refine lv_bipush (v := (79 : Int32)) hx hb dX12_bar_14 (by decide) ?_
    refine c_iald (j := 79) hx hb hK hP 1 tM1 (by decide) (c_inV (by decide)) dX12_bar_16 ?_
    refine lv_istore_n (lv' := [(2, .int (g.1 1 79)), (0, .ref (ad 0)), (1, .int a1)]) hx hb dX12_bar_17 rfl hl (by decide) rfl (fun ls hl => ?_)
    refine lv_aload_n hx hb dX12_bar_18 rfl (lv_at hl 1 rfl) ?_
    refine c_get hx hb hts i_X12_bar_X12 hown hK hP 0 tM0 rfl 0 (by decide) (hts _ (List.mem_of_getElem? (i := 1) rfl)) (fun _ h9 => h9) rfl (v := .ref (ad 1)) rfl dX12_bar_19 ?_
    refine lv_bipush (v := (79 : Int32)) hx hb dX12_bar_22 (by decide) ?_
    refine lv_iload_n hx hb dX12_bar_24 rfl (lv_at hl 2 rfl) ?_
    obtain ⟨g2, eg2, hf⟩ := c_letE hf
    refine c_iast (j := 79) hx hb hK hP hD hS 1 tM1 (by decide) (c_inV (by decide)) eg2 dX12_bar_25 (fun H locs hP hS => ?_)
    refine lv_iload_n hx hb dX12_bar_26 rfl (lv_at hl 0 rfl) ?_
    exact c_iret hx hb hr hlk hP hS rfl (c_inj hf) dX12_bar_27
  · have hf := c_it c1 hf
    refine lv_bipush (v := (-2 : Int32)) hx hb dX12_bar_7 (by decide) ?_
    exact c_iret hx hb hr hlk hP hS rfl (c_inj hf) dX12_bar_9
theorem dX12_row_0 : decode cX12_row 0 = .ok (.aload_n 0, 1) := by decide +kernel
theorem dX12_row_1 : decode cX12_row 1 = .ok (.iload_n 1, 1) := by decide +kernel
theorem dX12_row_2 : decode cX12_row 2 = .ok (.invokevirtual 101, 3) := by decide +kernel
theorem dX12_row_5 : decode cX12_row 5 = .ok (.ifCond .eq 12, 3) := by decide +kernel
theorem dX12_row_8 : decode cX12_row 8 = .ok (.iload_n 2, 1) := by decide +kernel
theorem dX12_row_9 : decode cX12_row 9 = .ok (.iconst 0, 1) := by decide +kernel
theorem dX12_row_10 : decode cX12_row 10 = .ok (.iconst 3, 1) := by decide +kernel
theorem dX12_row_11 : decode cX12_row 11 = .ok (.invokestatic 85, 3) := by decide +kernel
theorem dX12_row_14 : decode cX12_row 14 = .ok (.ifCond .ne 5, 3) := by decide +kernel
theorem dX12_row_17 : decode cX12_row 17 = .ok (.iconst (-1), 1) := by decide +kernel
theorem dX12_row_18 : decode cX12_row 18 = .ok (.ireturn, 1) := by decide +kernel
theorem dX12_row_19 : decode cX12_row 19 = .ok (.iload_n 3, 1) := by decide +kernel
theorem dX12_row_20 : decode cX12_row 20 = .ok (.iconst 0, 1) := by decide +kernel
theorem dX12_row_21 : decode cX12_row 21 = .ok (.bipush 9, 2) := by decide +kernel
theorem dX12_row_23 : decode cX12_row 23 = .ok (.invokestatic 85, 3) := by decide +kernel
theorem dX12_row_26 : decode cX12_row 26 = .ok (.ifCond .ne 6, 3) := by decide +kernel
theorem dX12_row_29 : decode cX12_row 29 = .ok (.bipush (-2), 2) := by decide +kernel
theorem dX12_row_31 : decode cX12_row 31 = .ok (.ireturn, 1) := by decide +kernel
theorem dX12_row_32 : decode cX12_row 32 = .ok (.aload_n 0, 1) := by decide +kernel
theorem dX12_row_33 : decode cX12_row 33 = .ok (.iload_n 1, 1) := by decide +kernel
theorem dX12_row_34 : decode cX12_row 34 = .ok (.iconst 0, 1) := by decide +kernel
theorem dX12_row_35 : decode cX12_row 35 = .ok (.invokevirtual 89, 3) := by decide +kernel
theorem dX12_row_38 : decode cX12_row 38 = .ok (.bipush 6, 2) := by decide +kernel
theorem dX12_row_40 : decode cX12_row 40 = .ok (.if_icmp .ne 15, 3) := by decide +kernel
theorem dX12_row_43 : decode cX12_row 43 = .ok (.aload_n 0, 1) := by decide +kernel
theorem dX12_row_44 : decode cX12_row 44 = .ok (.iload_n 1, 1) := by decide +kernel
theorem dX12_row_45 : decode cX12_row 45 = .ok (.iconst 5, 1) := by decide +kernel
theorem dX12_row_46 : decode cX12_row 46 = .ok (.iload_n 2, 1) := by decide +kernel
theorem dX12_row_47 : decode cX12_row 47 = .ok (.iadd, 1) := by decide +kernel
theorem dX12_row_48 : decode cX12_row 48 = .ok (.iload_n 3, 1) := by decide +kernel
theorem dX12_row_49 : decode cX12_row 49 = .ok (.invokevirtual 97, 3) := by decide +kernel
theorem dX12_row_52 : decode cX12_row 52 = .ok (.goto 5, 3) := by decide +kernel
theorem dX12_row_55 : decode cX12_row 55 = .ok (.bipush (-3), 2) := by decide +kernel
theorem dX12_row_57 : decode cX12_row 57 = .ok (.ireturn, 1) := by decide +kernel
set_option maxRecDepth 20000 in
theorem ggX12_row_X12_isChild : GoodIn wsX12_row wsX12_isChild := goodIn_r _ [5, 6, 7, 8, 4, 9, 18, 19, 20, 21, 22, 23, 24, 25, 26, 27, 28, 29, 30, 31, 32, 33, 34, 35, 36, 37, 38, 39, 40, 41, 42, 43, 44, 45, 46, 47, 48, 49] (by decide +kernel) (by decide +kernel)
set_option maxRecDepth 20000 in
theorem gX12_row_X12_isChild : GoodIn wsX12_row (wsV RX12 101 RX12 yX12_isChild wsX12_isChild) := goodIn_app (goodIn_of _ (by decide +kernel)) ggX12_row_X12_isChild
set_option maxRecDepth 20000 in
theorem ggX12_row_X12_isIn : GoodIn wsX12_row wsX12_isIn := goodIn_r _ [9] (by decide +kernel) (by decide +kernel)
set_option maxRecDepth 20000 in
theorem gX12_row_X12_isIn : GoodIn wsX12_row (va_wsS RX12 85 yX12_isIn wsX12_isIn) := goodIn_app (goodIn_of _ (by decide +kernel)) ggX12_row_X12_isIn
set_option maxRecDepth 20000 in
theorem ggX12_row_X12_one : GoodIn wsX12_row wsX12_one := goodIn_r _ [13, 6, 18, 19, 20, 21, 22, 23, 24, 25, 26, 27, 28, 29, 30, 31, 32, 33, 34, 35, 36, 37, 38, 39, 40, 41, 42, 43, 44, 45, 46, 47, 48, 49] (by decide +kernel) (by decide +kernel)
set_option maxRecDepth 20000 in
theorem gX12_row_X12_one : GoodIn wsX12_row (wsV RX12 89 RX12 yX12_one wsX12_one) := goodIn_app (goodIn_of _ (by decide +kernel)) ggX12_row_X12_one
set_option maxRecDepth 20000 in
theorem ggX12_row_X12_change : GoodIn wsX12_row wsX12_change := goodIn_r _ [17, 6, 10, 11, 12, 4, 13, 18, 19, 20, 21, 22, 23, 24, 25, 26, 27, 28, 29, 30, 31, 32, 33, 34, 35, 36, 37, 38, 39, 40, 41, 42, 43, 44, 45, 46, 47, 48, 49] (by decide +kernel) (by decide +kernel)
set_option maxRecDepth 20000 in
theorem gX12_row_X12_change : GoodIn wsX12_row (wsV RX12 97 RX12 yX12_change wsX12_change) := goodIn_app (goodIn_of _ (by decide +kernel)) ggX12_row_X12_change
def fX12_row (g : c_G) (a1 : Int32) (a2 : Int32) (a3 : Int32) : Option (c_G × Int32) :=
  (fX12_isChild g a1).bind fun r1 => if r1 = 0 then (some (g, (-1 : Int32))) else (if (fX12_isIn a2 ((0 : Int32)) ((3 : Int32))) = 0 then (some (g, (-1 : Int32))) else (if (fX12_isIn a3 ((0 : Int32)) ((9 : Int32))) = 0 then (some (g, (-2 : Int32))) else ((fX12_one g a1 ((0 : Int32))).bind fun r6 => if r6 = (6 : Int32) then (c_b2 (fX12_change g a1 (((5 : Int32) + a2)) a3) fun g10 r11 => some (g10, r11)) else (some (g, (-3 : Int32))))))
set_option maxRecDepth 100000 in
set_option maxHeartbeats 4000000 in
theorem kX12_row {l : Launch} {D : va_G} {tc : Nat → ClassId} {ad : Nat → Nat} {A : Nat → Prop} {E : (Nat → Nat) × (Nat → Nat) × Nat} (hD : c_D A ad TM) {a1 : Int32} {a2 : Int32} {a3 : Int32} {g g' : c_G} {r : Int32} (hf : fX12_row g a1 a2 a3 = some (g', r)) : c_Mi l yX12_row wsX12_row (c_rm 2) D tc ad A E TM ([.ref (ad 0), .int a1, .int a2, .int a3] : List Value) g g' r := by
  refine c_ofW (bytes := cX12_row) (maxL := 4) (ret := (some .int)) (by decide) rfl (Nat.le_of_ble_eq_true rfl) ?_
  intro p e s m below meth c ls C hP hS hl
  unfold fX12_row at hf
  obtain ⟨hx, hb, hr, hml, hts, hown, hlk, hK, hE⟩ := id C
  have hl : lv_has ls 4 [(0, .ref (ad 0)), (1, .int a1), (2, .int a2), (3, .int a3)] := hl
  refine lv_aload_n hx hb dX12_row_0 rfl (lv_at hl 0 rfl) ?_
  refine lv_iload_n hx hb dX12_row_1 rfl (lv_at hl 1 rfl) ?_
  obtain ⟨r1, hc2, hf⟩ := c_bd hf
  refine c_goi (va_runV (As := [.int a1]) (rest := []) ⟨hx, hb, hml, hown, hts⟩ (kX12_isChild hD hc2) (cwV 1 hts gX12_row_X12_isChild rfl rfl rfl (by decide +kernel) ⟨Nat.le_of_ble_eq_true rfl, Nat.le_of_ble_eq_true rfl⟩) (c_preV hK hP hE hS tM0 rfl) rfl rfl hl.1 rfl (lv_room (Nat.le_of_ble_eq_true rfl)) dX12_row_2 ⟨Nat.zero_le _, Nat.zero_le _⟩) hS (fun H locs hP hS => ?_)
  refine lv_if_eq (tgt := 17) hx hb dX12_row_5 (by decide) (fun c3 => ?_) (fun c3 => ?_)
  · have hf := c_it c3 hf
    refine lv_iconst (v := (-1 : Int32)) hx hb dX12_row_17 (by decide) ?_
    exact c_iret hx hb hr hlk hP hS rfl (c_inj hf) dX12_row_18
  · have hf := c_ie c3 hf
    refine lv_iload_n hx hb dX12_row_8 rfl (lv_at hl 2 rfl) ?_
    refine lv_iconst (v := (0 : Int32)) hx hb dX12_row_9 (by decide) ?_
    refine lv_iconst (v := (3 : Int32)) hx hb dX12_row_10 (by decide) ?_
    refine c_goi (va_runS (As := [.int a2, .int (0 : Int32), .int (3 : Int32)]) (rest := []) ⟨hx, hb, hml, hown, hts⟩ (kX12_isIn (T := TM) (g := g) rfl) (va_cwS 3 hts gX12_row_X12_isIn rfl rfl rfl (by decide +kernel) ⟨Nat.le_of_ble_eq_true rfl, Nat.le_of_ble_eq_true rfl⟩) (c_preS hK hP hE hS) rfl rfl hl.1 rfl (lv_room (Nat.le_of_ble_eq_true rfl)) dX12_row_11 ⟨Nat.zero_le _, Nat.zero_le _⟩) hS (fun H locs hP hS => ?_)
    refine lv_if_ne (tgt := 19) hx hb dX12_row_14 (by decide) (fun c4 => ?_) (fun c4 => ?_)
    · have hf := c_ie c4 hf
      refine lv_iload_n hx hb dX12_row_19 rfl (lv_at hl 3 rfl) ?_
      refine lv_iconst (v := (0 : Int32)) hx hb dX12_row_20 (by decide) ?_
      refine lv_bipush (v := (9 : Int32)) hx hb dX12_row_21 (by decide) ?_
      refine c_goi (va_runS (As := [.int a3, .int (0 : Int32), .int (9 : Int32)]) (rest := []) ⟨hx, hb, hml, hown, hts⟩ (kX12_isIn (T := TM) (g := g) rfl) (va_cwS 3 hts gX12_row_X12_isIn rfl rfl rfl (by decide +kernel) ⟨Nat.le_of_ble_eq_true rfl, Nat.le_of_ble_eq_true rfl⟩) (c_preS hK hP hE hS) rfl rfl hl.1 rfl (lv_room (Nat.le_of_ble_eq_true rfl)) dX12_row_23 ⟨Nat.zero_le _, Nat.zero_le _⟩) hS (fun H locs hP hS => ?_)
      refine lv_if_ne (tgt := 32) hx hb dX12_row_26 (by decide) (fun c5 => ?_) (fun c5 => ?_)
      · have hf := c_ie c5 hf
        refine lv_aload_n hx hb dX12_row_32 rfl (lv_at hl 0 rfl) ?_
        refine lv_iload_n hx hb dX12_row_33 rfl (lv_at hl 1 rfl) ?_
        refine lv_iconst (v := (0 : Int32)) hx hb dX12_row_34 (by decide) ?_
        obtain ⟨r6, hc7, hf⟩ := c_bd hf
        refine c_goi (va_runV (As := [.int a1, .int (0 : Int32)]) (rest := []) ⟨hx, hb, hml, hown, hts⟩ (kX12_one hD hc7) (cwV 2 hts gX12_row_X12_one rfl rfl rfl (by decide +kernel) ⟨Nat.le_of_ble_eq_true rfl, Nat.le_of_ble_eq_true rfl⟩) (c_preV hK hP hE hS tM0 rfl) rfl rfl hl.1 rfl (lv_room (Nat.le_of_ble_eq_true rfl)) dX12_row_35 ⟨Nat.zero_le _, Nat.zero_le _⟩) hS (fun H locs hP hS => ?_)
        refine lv_bipush (v := (6 : Int32)) hx hb dX12_row_38 (by decide) ?_
        refine lv_icmp_ne (tgt := 55) hx hb dX12_row_40 (by decide) (fun c8 => ?_) (fun c8 => ?_)
        · have hf := c_ie c8 hf
          refine lv_bipush (v := (-3 : Int32)) hx hb dX12_row_55 (by decide) ?_
          exact c_iret hx hb hr hlk hP hS rfl (c_inj hf) dX12_row_57
        · have hf := c_it c8 hf
          refine lv_aload_n hx hb dX12_row_43 rfl (lv_at hl 0 rfl) ?_
          refine lv_iload_n hx hb dX12_row_44 rfl (lv_at hl 1 rfl) ?_
          refine lv_iconst (v := (5 : Int32)) hx hb dX12_row_45 (by decide) ?_
          refine lv_iload_n hx hb dX12_row_46 rfl (lv_at hl 2 rfl) ?_
          refine lv_iadd hx hb dX12_row_47 ?_
          refine lv_iload_n hx hb dX12_row_48 rfl (lv_at hl 3 rfl) ?_
          obtain ⟨g10, r11, hc9, hf⟩ := c_b2E hf
          refine c_goi (va_runV (As := [.int a1, .int ((5 : Int32) + a2), .int a3]) (rest := []) ⟨hx, hb, hml, hown, hts⟩ (kX12_change hD hc9) (cwV 3 hts gX12_row_X12_change rfl rfl rfl (by decide +kernel) ⟨Nat.le_of_ble_eq_true rfl, Nat.le_of_ble_eq_true rfl⟩) (c_preV hK hP hE hS tM0 rfl) rfl rfl hl.1 rfl (lv_room (Nat.le_of_ble_eq_true rfl)) dX12_row_49 ⟨Nat.zero_le _, Nat.zero_le _⟩) hS (fun H locs hP hS => ?_)
          refine lv_goto (tgt := 57) hx hb dX12_row_52 (by decide) ?_
          exact c_iret hx hb hr hlk hP hS rfl (c_inj hf) dX12_row_57
      · have hf := c_it c5 hf
        refine lv_bipush (v := (-2 : Int32)) hx hb dX12_row_29 (by decide) ?_
        exact c_iret hx hb hr hlk hP hS rfl (c_inj hf) dX12_row_31
    · have hf := c_it c4 hf
      refine lv_iconst (v := (-1 : Int32)) hx hb dX12_row_17 (by decide) ?_
      exact c_iret hx hb hr hlk hP hS rfl (c_inj hf) dX12_row_18
theorem i_X12_feed_X12 : ∀ w ∈ u_ws RX12 TX12 32, w ∈ wsX12_feed := c_inP [7, 8, 9, 10, 11, 12, 13, 14, 15, 16, 17, 18, 19, 20, 21, 22, 23, 24, 25, 26, 27, 28, 29, 30, 31, 32, 33, 34, 35, 36, 37, 38] (by decide +kernel)
theorem dX12_feed_0 : decode cX12_feed 0 = .ok (.iload_n 1, 1) := by decide +kernel
theorem dX12_feed_1 : decode cX12_feed 1 = .ok (.iconst 0, 1) := by decide +kernel
theorem dX12_feed_2 : decode cX12_feed 2 = .ok (.bipush 127, 2) := by decide +kernel
theorem dX12_feed_4 : decode cX12_feed 4 = .ok (.invokestatic 85, 3) := by decide +kernel
theorem dX12_feed_7 : decode cX12_feed 7 = .ok (.ifCond .ne 6, 3) := by decide +kernel
theorem dX12_feed_10 : decode cX12_feed 10 = .ok (.bipush (-2), 2) := by decide +kernel
theorem dX12_feed_12 : decode cX12_feed 12 = .ok (.ireturn, 1) := by decide +kernel
theorem dX12_feed_13 : decode cX12_feed 13 = .ok (.aload_n 0, 1) := by decide +kernel
theorem dX12_feed_14 : decode cX12_feed 14 = .ok (.getfield 137, 3) := by decide +kernel
theorem dX12_feed_17 : decode cX12_feed 17 = .ok (.bipush 100, 2) := by decide +kernel
theorem dX12_feed_19 : decode cX12_feed 19 = .ok (.if_icmp .ne 6, 3) := by decide +kernel
theorem dX12_feed_22 : decode cX12_feed 22 = .ok (.bipush (-4), 2) := by decide +kernel
theorem dX12_feed_24 : decode cX12_feed 24 = .ok (.ireturn, 1) := by decide +kernel
theorem dX12_feed_25 : decode cX12_feed 25 = .ok (.aload_n 0, 1) := by decide +kernel
theorem dX12_feed_26 : decode cX12_feed 26 = .ok (.getfield 25, 3) := by decide +kernel
theorem dX12_feed_29 : decode cX12_feed 29 = .ok (.aload_n 0, 1) := by decide +kernel
theorem dX12_feed_30 : decode cX12_feed 30 = .ok (.getfield 137, 3) := by decide +kernel
theorem dX12_feed_33 : decode cX12_feed 33 = .ok (.iload_n 1, 1) := by decide +kernel
theorem dX12_feed_34 : decode cX12_feed 34 = .ok (.iastore, 1) := by decide +kernel
theorem dX12_feed_35 : decode cX12_feed 35 = .ok (.aload_n 0, 1) := by decide +kernel
theorem dX12_feed_36 : decode cX12_feed 36 = .ok (.dup, 1) := by decide +kernel
theorem dX12_feed_37 : decode cX12_feed 37 = .ok (.getfield 137, 3) := by decide +kernel
theorem dX12_feed_40 : decode cX12_feed 40 = .ok (.iconst 1, 1) := by decide +kernel
theorem dX12_feed_41 : decode cX12_feed 41 = .ok (.iadd, 1) := by decide +kernel
theorem dX12_feed_42 : decode cX12_feed 42 = .ok (.putfield 137, 3) := by decide +kernel
theorem dX12_feed_45 : decode cX12_feed 45 = .ok (.aload_n 0, 1) := by decide +kernel
theorem dX12_feed_46 : decode cX12_feed 46 = .ok (.getfield 137, 3) := by decide +kernel
theorem dX12_feed_49 : decode cX12_feed 49 = .ok (.ireturn, 1) := by decide +kernel
set_option maxRecDepth 20000 in
theorem ggX12_feed_X12_isIn : GoodIn wsX12_feed wsX12_isIn := goodIn_r _ [6] (by decide +kernel) (by decide +kernel)
set_option maxRecDepth 20000 in
theorem gX12_feed_X12_isIn : GoodIn wsX12_feed (va_wsS RX12 85 yX12_isIn wsX12_isIn) := goodIn_app (goodIn_of _ (by decide +kernel)) ggX12_feed_X12_isIn
def fX12_feed (g : c_G) (a1 : Int32) : Option (c_G × Int32) :=
  if (fX12_isIn a1 ((0 : Int32)) ((127 : Int32))) = 0 then (some (g, (-2 : Int32))) else (if (g.1 0 5) = (100 : Int32) then (some (g, (-4 : Int32))) else (if c_in ((g.1 0 5)) (100) = true then c_let (c_si g 4 ((g.1 0 5)).toNatClampNeg a1) fun g4 => c_let (((g4.1 0 5) + (1 : Int32))) fun v5 => c_let (c_si g4 0 5 v5) fun g6 => some (g6, (g6.1 0 5)) else none))
set_option maxRecDepth 100000 in
set_option maxHeartbeats 4000000 in
theorem kX12_feed {l : Launch} {D : va_G} {tc : Nat → ClassId} {ad : Nat → Nat} {A : Nat → Prop} {E : (Nat → Nat) × (Nat → Nat) × Nat} (hD : c_D A ad TM) {a1 : Int32} {g g' : c_G} {r : Int32} (hf : fX12_feed g a1 = some (g', r)) : c_Mi l yX12_feed wsX12_feed (c_rm 1) D tc ad A E TM ([.ref (ad 0), .int a1] : List Value) g g' r := by
  refine c_ofW (bytes := cX12_feed) (maxL := 2) (ret := (some .int)) (by decide) rfl (Nat.le_of_ble_eq_true rfl) ?_
  intro p e s m below meth c ls C hP hS hl
  unfold fX12_feed at hf
  obtain ⟨hx, hb, hr, hml, hts, hown, hlk, hK, hE⟩ := id C
  have hl : lv_has ls 2 [(0, .ref (ad 0)), (1, .int a1)] := hl
  refine lv_iload_n hx hb dX12_feed_0 rfl (lv_at hl 1 rfl) ?_
  refine lv_iconst (v := (0 : Int32)) hx hb dX12_feed_1 (by decide) ?_
  refine lv_bipush (v := (127 : Int32)) hx hb dX12_feed_2 (by decide) ?_
  refine c_goi (va_runS (As := [.int a1, .int (0 : Int32), .int (127 : Int32)]) (rest := []) ⟨hx, hb, hml, hown, hts⟩ (kX12_isIn (T := TM) (g := g) rfl) (va_cwS 3 hts gX12_feed_X12_isIn rfl rfl rfl (by decide +kernel) ⟨Nat.le_of_ble_eq_true rfl, Nat.le_of_ble_eq_true rfl⟩) (c_preS hK hP hE hS) rfl rfl hl.1 rfl (lv_room (Nat.le_of_ble_eq_true rfl)) dX12_feed_4 ⟨Nat.zero_le _, Nat.zero_le _⟩) hS (fun H locs hP hS => ?_)
  refine lv_if_ne (tgt := 13) hx hb dX12_feed_7 (by decide) (fun c1 => ?_) (fun c1 => ?_)
  · have hf := c_ie c1 hf
    refine lv_aload_n hx hb dX12_feed_13 rfl (lv_at hl 0 rfl) ?_
    refine c_get hx hb hts i_X12_feed_X12 hown hK hP 0 tM0 rfl 5 (by decide) (hts _ (List.mem_of_getElem? (i := 1) rfl)) (fun _ h9 => h9) rfl (v := .int (g.1 0 5)) rfl dX12_feed_14 ?_
    refine lv_bipush (v := (100 : Int32)) hx hb dX12_feed_17 (by decide) ?_
    refine lv_icmp_ne (tgt := 25) hx hb dX12_feed_19 (by decide) (fun c2 => ?_) (fun c2 => ?_)
    · have hf := c_ie c2 hf
      refine lv_aload_n hx hb dX12_feed_25 rfl (lv_at hl 0 rfl) ?_
      refine c_get hx hb hts i_X12_feed_X12 hown hK hP 0 tM0 rfl 4 (by decide) (hts _ (List.mem_of_getElem? (i := 2) rfl)) (fun _ h9 => h9) rfl (v := .ref (ad 4)) rfl dX12_feed_26 ?_
      refine lv_aload_n hx hb dX12_feed_29 rfl (lv_at hl 0 rfl) ?_
      refine c_get hx hb hts i_X12_feed_X12 hown hK hP 0 tM0 rfl 5 (by decide) (hts _ (List.mem_of_getElem? (i := 1) rfl)) (fun _ h9 => h9) rfl (v := .int (g.1 0 5)) rfl dX12_feed_30 ?_
      refine lv_iload_n hx hb dX12_feed_33 rfl (lv_at hl 1 rfl) ?_
      obtain ⟨hi3, hf⟩ := c_gd hf
      obtain ⟨g4, eg4, hf⟩ := c_letE hf
      refine c_iast (j := ((g.1 0 5)).toNatClampNeg) hx hb hK hP hD hS 4 tM4 rfl (c_inV hi3) eg4 dX12_feed_34 (fun H locs hP hS => ?_)
      refine lv_aload_n hx hb dX12_feed_35 rfl (lv_at hl 0 rfl) ?_
      refine lv_dup hx hb dX12_feed_36 rfl ?_
      refine c_get hx hb hts i_X12_feed_X12 hown hK hP 0 tM0 rfl 5 (by decide) (hts _ (List.mem_of_getElem? (i := 1) rfl)) (fun _ h9 => h9) rfl (v := .int (g4.1 0 5)) rfl dX12_feed_37 ?_
      refine lv_iconst (v := (1 : Int32)) hx hb dX12_feed_40 (by decide) ?_
      refine lv_iadd hx hb dX12_feed_41 ?_
      obtain ⟨v5, ev5, hf⟩ := c_letE hf
      refine c_topi ev5 ?_
      obtain ⟨g6, eg6, hf⟩ := c_letE hf
      refine c_put hx hb hts i_X12_feed_X12 tyX12 tyX12_ok nmX12 hown hK hP hD hS 0 tM0 rfl 5 (by decide) (hts _ (List.mem_of_getElem? (i := 1) rfl)) (fun _ h9 => h9) rfl (ty := .int) (by decide +kernel) rfl rfl rfl eg6 dX12_feed_42 (fun H locs hP hS => ?_)
      refine lv_aload_n hx hb dX12_feed_45 rfl (lv_at hl 0 rfl) ?_
      refine c_get hx hb hts i_X12_feed_X12 hown hK hP 0 tM0 rfl 5 (by decide) (hts _ (List.mem_of_getElem? (i := 1) rfl)) (fun _ h9 => h9) rfl (v := .int (g6.1 0 5)) rfl dX12_feed_46 ?_
      exact c_iret hx hb hr hlk hP hS rfl (c_inj hf) dX12_feed_49
    · have hf := c_it c2 hf
      refine lv_bipush (v := (-4 : Int32)) hx hb dX12_feed_22 (by decide) ?_
      exact c_iret hx hb hr hlk hP hS rfl (c_inj hf) dX12_feed_24
  · have hf := c_it c1 hf
    refine lv_bipush (v := (-2 : Int32)) hx hb dX12_feed_10 (by decide) ?_
    exact c_iret hx hb hr hlk hP hS rfl (c_inj hf) dX12_feed_12
theorem i_X12_valley_X12 : ∀ w ∈ u_ws RX12 TX12 32, w ∈ wsX12_valley := c_inP [59, 60, 61, 62, 63, 64, 65, 66, 67, 68, 69, 70, 71, 72, 73, 74, 75, 76, 77, 78, 79, 80, 81, 82, 83, 84, 85, 86, 87, 88, 89, 90] (by decide +kernel)
theorem dX12_valley_0 : decode cX12_valley 0 = .ok (.aload_n 0, 1) := by decide +kernel
theorem dX12_valley_1 : decode cX12_valley 1 = .ok (.getfield 191, 3) := by decide +kernel
theorem dX12_valley_4 : decode cX12_valley 4 = .ok (.bipush 6, 2) := by decide +kernel
theorem dX12_valley_6 : decode cX12_valley 6 = .ok (.if_icmp .ne 6, 3) := by decide +kernel
theorem dX12_valley_9 : decode cX12_valley 9 = .ok (.bipush (-4), 2) := by decide +kernel
theorem dX12_valley_11 : decode cX12_valley 11 = .ok (.ireturn, 1) := by decide +kernel
theorem dX12_valley_12 : decode cX12_valley 12 = .ok (.aload_n 0, 1) := by decide +kernel
theorem dX12_valley_13 : decode cX12_valley 13 = .ok (.aload_n 0, 1) := by decide +kernel
theorem dX12_valley_14 : decode cX12_valley 14 = .ok (.getfield 137, 3) := by decide +kernel
theorem dX12_valley_17 : decode cX12_valley 17 = .ok (.putfield 147, 3) := by decide +kernel
theorem dX12_valley_20 : decode cX12_valley 20 = .ok (.iconst 0, 1) := by decide +kernel
theorem dX12_valley_21 : decode cX12_valley 21 = .ok (.istore_n 1, 1) := by decide +kernel
theorem dX12_valley_22 : decode cX12_valley 22 = .ok (.iload_n 1, 1) := by decide +kernel
theorem dX12_valley_23 : decode cX12_valley 23 = .ok (.aload_n 0, 1) := by decide +kernel
theorem dX12_valley_24 : decode cX12_valley 24 = .ok (.getfield 147, 3) := by decide +kernel
theorem dX12_valley_27 : decode cX12_valley 27 = .ok (.if_icmp .ge 21, 3) := by decide +kernel
theorem dX12_valley_30 : decode cX12_valley 30 = .ok (.aload_n 0, 1) := by decide +kernel
theorem dX12_valley_31 : decode cX12_valley 31 = .ok (.getfield 34, 3) := by decide +kernel
theorem dX12_valley_34 : decode cX12_valley 34 = .ok (.iload_n 1, 1) := by decide +kernel
theorem dX12_valley_35 : decode cX12_valley 35 = .ok (.aload_n 0, 1) := by decide +kernel
theorem dX12_valley_36 : decode cX12_valley 36 = .ok (.getfield 25, 3) := by decide +kernel
theorem dX12_valley_39 : decode cX12_valley 39 = .ok (.iload_n 1, 1) := by decide +kernel
theorem dX12_valley_40 : decode cX12_valley 40 = .ok (.iaload, 1) := by decide +kernel
theorem dX12_valley_41 : decode cX12_valley 41 = .ok (.iastore, 1) := by decide +kernel
theorem dX12_valley_42 : decode cX12_valley 42 = .ok (.iinc 1 1, 3) := by decide +kernel
theorem dX12_valley_45 : decode cX12_valley 45 = .ok (.goto (-23), 3) := by decide +kernel
theorem dX12_valley_48 : decode cX12_valley 48 = .ok (.aload_n 0, 1) := by decide +kernel
theorem dX12_valley_49 : decode cX12_valley 49 = .ok (.iconst 0, 1) := by decide +kernel
theorem dX12_valley_50 : decode cX12_valley 50 = .ok (.putfield 137, 3) := by decide +kernel
theorem dX12_valley_53 : decode cX12_valley 53 = .ok (.aload_n 0, 1) := by decide +kernel
theorem dX12_valley_54 : decode cX12_valley 54 = .ok (.invokevirtual 188, 3) := by decide +kernel
theorem dX12_valley_57 : decode cX12_valley 57 = .ok (.ifCond .ne 11, 3) := by decide +kernel
theorem dX12_valley_60 : decode cX12_valley 60 = .ok (.bipush (-10), 2) := by decide +kernel
theorem dX12_valley_62 : decode cX12_valley 62 = .ok (.aload_n 0, 1) := by decide +kernel
theorem dX12_valley_63 : decode cX12_valley 63 = .ok (.getfield 144, 3) := by decide +kernel
theorem dX12_valley_66 : decode cX12_valley 66 = .ok (.isub, 1) := by decide +kernel
theorem dX12_valley_67 : decode cX12_valley 67 = .ok (.ireturn, 1) := by decide +kernel
theorem dX12_valley_68 : decode cX12_valley 68 = .ok (.iconst 0, 1) := by decide +kernel
theorem dX12_valley_69 : decode cX12_valley 69 = .ok (.istore_n 1, 1) := by decide +kernel
theorem dX12_valley_70 : decode cX12_valley 70 = .ok (.iload_n 1, 1) := by decide +kernel
theorem dX12_valley_71 : decode cX12_valley 71 = .ok (.aload_n 0, 1) := by decide +kernel
theorem dX12_valley_72 : decode cX12_valley 72 = .ok (.getfield 147, 3) := by decide +kernel
theorem dX12_valley_75 : decode cX12_valley 75 = .ok (.if_icmp .ge 29, 3) := by decide +kernel
theorem dX12_valley_78 : decode cX12_valley 78 = .ok (.aload_n 0, 1) := by decide +kernel
theorem dX12_valley_79 : decode cX12_valley 79 = .ok (.getfield 28, 3) := by decide +kernel
theorem dX12_valley_82 : decode cX12_valley 82 = .ok (.bipush 100, 2) := by decide +kernel
theorem dX12_valley_84 : decode cX12_valley 84 = .ok (.aload_n 0, 1) := by decide +kernel
theorem dX12_valley_85 : decode cX12_valley 85 = .ok (.getfield 191, 3) := by decide +kernel
theorem dX12_valley_88 : decode cX12_valley 88 = .ok (.imul, 1) := by decide +kernel
theorem dX12_valley_89 : decode cX12_valley 89 = .ok (.iload_n 1, 1) := by decide +kernel
theorem dX12_valley_90 : decode cX12_valley 90 = .ok (.iadd, 1) := by decide +kernel
theorem dX12_valley_91 : decode cX12_valley 91 = .ok (.aload_n 0, 1) := by decide +kernel
theorem dX12_valley_92 : decode cX12_valley 92 = .ok (.getfield 34, 3) := by decide +kernel
theorem dX12_valley_95 : decode cX12_valley 95 = .ok (.iload_n 1, 1) := by decide +kernel
theorem dX12_valley_96 : decode cX12_valley 96 = .ok (.iaload, 1) := by decide +kernel
theorem dX12_valley_97 : decode cX12_valley 97 = .ok (.iastore, 1) := by decide +kernel
theorem dX12_valley_98 : decode cX12_valley 98 = .ok (.iinc 1 1, 3) := by decide +kernel
theorem dX12_valley_101 : decode cX12_valley 101 = .ok (.goto (-31), 3) := by decide +kernel
theorem dX12_valley_104 : decode cX12_valley 104 = .ok (.aload_n 0, 1) := by decide +kernel
theorem dX12_valley_105 : decode cX12_valley 105 = .ok (.getfield 31, 3) := by decide +kernel
theorem dX12_valley_108 : decode cX12_valley 108 = .ok (.aload_n 0, 1) := by decide +kernel
theorem dX12_valley_109 : decode cX12_valley 109 = .ok (.getfield 191, 3) := by decide +kernel
theorem dX12_valley_112 : decode cX12_valley 112 = .ok (.aload_n 0, 1) := by decide +kernel
theorem dX12_valley_113 : decode cX12_valley 113 = .ok (.getfield 147, 3) := by decide +kernel
theorem dX12_valley_116 : decode cX12_valley 116 = .ok (.iastore, 1) := by decide +kernel
theorem dX12_valley_117 : decode cX12_valley 117 = .ok (.aload_n 0, 1) := by decide +kernel
theorem dX12_valley_118 : decode cX12_valley 118 = .ok (.dup, 1) := by decide +kernel
theorem dX12_valley_119 : decode cX12_valley 119 = .ok (.getfield 191, 3) := by decide +kernel
theorem dX12_valley_122 : decode cX12_valley 122 = .ok (.iconst 1, 1) := by decide +kernel
theorem dX12_valley_123 : decode cX12_valley 123 = .ok (.iadd, 1) := by decide +kernel
theorem dX12_valley_124 : decode cX12_valley 124 = .ok (.putfield 191, 3) := by decide +kernel
theorem dX12_valley_127 : decode cX12_valley 127 = .ok (.aload_n 0, 1) := by decide +kernel
theorem dX12_valley_128 : decode cX12_valley 128 = .ok (.getfield 15, 3) := by decide +kernel
theorem dX12_valley_131 : decode cX12_valley 131 = .ok (.bipush 81, 2) := by decide +kernel
theorem dX12_valley_133 : decode cX12_valley 133 = .ok (.aload_n 0, 1) := by decide +kernel
theorem dX12_valley_134 : decode cX12_valley 134 = .ok (.getfield 191, 3) := by decide +kernel
theorem dX12_valley_137 : decode cX12_valley 137 = .ok (.iastore, 1) := by decide +kernel
theorem dX12_valley_138 : decode cX12_valley 138 = .ok (.aload_n 0, 1) := by decide +kernel
theorem dX12_valley_139 : decode cX12_valley 139 = .ok (.getfield 191, 3) := by decide +kernel
theorem dX12_valley_142 : decode cX12_valley 142 = .ok (.iconst 1, 1) := by decide +kernel
theorem dX12_valley_143 : decode cX12_valley 143 = .ok (.isub, 1) := by decide +kernel
theorem dX12_valley_144 : decode cX12_valley 144 = .ok (.ireturn, 1) := by decide +kernel
set_option maxRecDepth 20000 in
theorem ggX12_valley_X12_readAll : GoodIn wsX12_valley wsX12_readAll := goodIn_r _ [14, 6, 15, 16, 17, 18, 3, 19, 20, 21, 13, 22, 23, 24, 25, 26, 27, 28, 29, 4, 30, 31, 32, 33, 34, 35, 36, 37, 38, 39, 40, 41, 42, 43, 44, 45, 46, 47, 48, 49, 50, 51, 52, 53, 54, 55, 56, 57, 58, 59, 60, 61, 62, 63, 64, 65, 66, 67, 68, 69, 70, 71, 72, 73, 74, 75, 76, 77, 78, 79, 80, 81, 82, 83, 84, 85, 86, 87, 88, 89, 90] (by decide +kernel) (by decide +kernel)
set_option maxRecDepth 20000 in
theorem gX12_valley_X12_readAll : GoodIn wsX12_valley (wsV RX12 188 RX12 yX12_readAll wsX12_readAll) := goodIn_app (goodIn_of _ (by decide +kernel)) ggX12_valley_X12_readAll
def fX12_valley_70   : Nat → Int32 → c_G → Option (c_G × Int32)
  | 0, _, _ => none
  | n + 1, x1, g => if (g.1 0 10) ≤ x1 then (if c_in ((g.1 0 8)) (6) = true then c_let (c_si g 6 ((g.1 0 8)).toNatClampNeg (g.1 0 10)) fun g70003 => c_let (((g70003.1 0 8) + (1 : Int32))) fun v70004 => c_let (c_si g70003 0 8 v70004) fun g70005 => c_let (c_si g70005 1 81 (g70005.1 0 8)) fun g70006 => some (g70006, ((g70006.1 0 8) - (1 : Int32))) else none) else (if c_in (x1) (100) = true then if c_in ((((100 : Int32) * (g.1 0 8)) + x1)) (600) = true then c_let (c_si g 5 ((((100 : Int32) * (g.1 0 8)) + x1)).toNatClampNeg (g.1 7 (x1).toNatClampNeg)) fun g70009 => c_let (x1 + (1 : Int32)) fun v70010 => (fX12_valley_70 n) v70010 g70009 else none else none)
set_option maxRecDepth 100000 in
set_option maxHeartbeats 4000000 in
theorem jX12_valley_70 {p : Program} {l : Launch} {e : Env} {s : State} {m : MethodId} {below : List Frame} {meth : Method} {c : Code} {D : va_G} {tc : Nat → ClassId} {ad : Nat → Nat} {A : Nat → Prop} {E : (Nat → Nat) × (Nat → Nat) × Nat} {g' : c_G} {r : Int32} (C : c_C p s m meth c D tc A E RX12 wsX12_valley cX12_valley 2 (some .int) ([.ref (ad 0)] : List Value).toArray) (hD : c_D A ad TM)  : ∀ (n : Nat) (x1 : Int32) (g : c_G), fX12_valley_70 n x1 g = some (g', r) → ∀ (H : Heap) (locs : List Loc), va_P D vwCl (c_ws tc ad TM g) H → va_S A s.heap H locs → ∀ ls : Array Slot, lv_has ls 2 [(0, .ref (ad 0)), (1, .int x1)] → W p l e (c_rm 46) s m ([.ref (ad 0)] : List Value).toArray below meth c H locs 0 0 (MQ below (va_Qi (fun (x : Int32) (_ : Unit) => x = r) (fun _ t => va_P D vwCl (c_ws tc ad TM g') t.heap) A) ([.ref (ad 0)] : List Value).toArray s 0 0 A) (F0 m 70 ls []) := by
  obtain ⟨hx, hb, hr, hml, hts, hown, hlk, hK, hE⟩ := id C
  intro n
  induction n with
  | zero =>
    intro x1 g hf
    cases hf
  | succ n ih =>
    intro x1 g hf H locs hP hS ls hl
    unfold fX12_valley_70 at hf
    refine lv_iload_n hx hb dX12_valley_70 rfl (lv_at hl 1 rfl) ?_
    refine lv_aload_n hx hb dX12_valley_71 rfl (lv_at hl 0 rfl) ?_
    refine c_get hx hb hts i_X12_valley_X12 hown hK hP 0 tM0 rfl 10 (by decide) (hts _ (List.mem_of_getElem? (i := 3) rfl)) (fun _ h9 => h9) rfl (v := .int (g.1 0 10)) rfl dX12_valley_72 ?_
    refine lv_icmp_ge (tgt := 104) hx hb dX12_valley_75 (by decide) (fun c70001 => ?_) (fun c70001 => ?_)
    · have hf := c_it c70001 hf
      refine lv_aload_n hx hb dX12_valley_104 rfl (lv_at hl 0 rfl) ?_
      refine c_get hx hb hts i_X12_valley_X12 hown hK hP 0 tM0 rfl 7 (by decide) (hts _ (List.mem_of_getElem? (i := 8) rfl)) (fun _ h9 => h9) rfl (v := .ref (ad 6)) rfl dX12_valley_105 ?_
      refine lv_aload_n hx hb dX12_valley_108 rfl (lv_at hl 0 rfl) ?_
      refine c_get hx hb hts i_X12_valley_X12 hown hK hP 0 tM0 rfl 8 (by decide) (hts _ (List.mem_of_getElem? (i := 1) rfl)) (fun _ h9 => h9) rfl (v := .int (g.1 0 8)) rfl dX12_valley_109 ?_
      refine lv_aload_n hx hb dX12_valley_112 rfl (lv_at hl 0 rfl) ?_
      refine c_get hx hb hts i_X12_valley_X12 hown hK hP 0 tM0 rfl 10 (by decide) (hts _ (List.mem_of_getElem? (i := 3) rfl)) (fun _ h9 => h9) rfl (v := .int (g.1 0 10)) rfl dX12_valley_113 ?_
      obtain ⟨hi70002, hf⟩ := c_gd hf
      obtain ⟨g70003, eg70003, hf⟩ := c_letE hf
      refine c_iast (j := ((g.1 0 8)).toNatClampNeg) hx hb hK hP hD hS 6 tM6 rfl (c_inV hi70002) eg70003 dX12_valley_116 (fun H locs hP hS => ?_)
      refine lv_aload_n hx hb dX12_valley_117 rfl (lv_at hl 0 rfl) ?_
      refine lv_dup hx hb dX12_valley_118 rfl ?_
      refine c_get hx hb hts i_X12_valley_X12 hown hK hP 0 tM0 rfl 8 (by decide) (hts _ (List.mem_of_getElem? (i := 1) rfl)) (fun _ h9 => h9) rfl (v := .int (g70003.1 0 8)) rfl dX12_valley_119 ?_
      refine lv_iconst (v := (1 : Int32)) hx hb dX12_valley_122 (by decide) ?_
      refine lv_iadd hx hb dX12_valley_123 ?_
      obtain ⟨v70004, ev70004, hf⟩ := c_letE hf
      refine c_topi ev70004 ?_
      obtain ⟨g70005, eg70005, hf⟩ := c_letE hf
      refine c_put hx hb hts i_X12_valley_X12 tyX12 tyX12_ok nmX12 hown hK hP hD hS 0 tM0 rfl 8 (by decide) (hts _ (List.mem_of_getElem? (i := 1) rfl)) (fun _ h9 => h9) rfl (ty := .int) (by decide +kernel) rfl rfl rfl eg70005 dX12_valley_124 (fun H locs hP hS => ?_)
      refine lv_aload_n hx hb dX12_valley_127 rfl (lv_at hl 0 rfl) ?_
      refine c_get hx hb hts i_X12_valley_X12 hown hK hP 0 tM0 rfl 0 (by decide) (hts _ (List.mem_of_getElem? (i := 9) rfl)) (fun _ h9 => h9) rfl (v := .ref (ad 1)) rfl dX12_valley_128 ?_
      refine lv_bipush (v := (81 : Int32)) hx hb dX12_valley_131 (by decide) ?_
      refine lv_aload_n hx hb dX12_valley_133 rfl (lv_at hl 0 rfl) ?_
      refine c_get hx hb hts i_X12_valley_X12 hown hK hP 0 tM0 rfl 8 (by decide) (hts _ (List.mem_of_getElem? (i := 1) rfl)) (fun _ h9 => h9) rfl (v := .int (g70005.1 0 8)) rfl dX12_valley_134 ?_
      obtain ⟨g70006, eg70006, hf⟩ := c_letE hf
      refine c_iast (j := 81) hx hb hK hP hD hS 1 tM1 (by decide) (c_inV (by decide)) eg70006 dX12_valley_137 (fun H locs hP hS => ?_)
      refine lv_aload_n hx hb dX12_valley_138 rfl (lv_at hl 0 rfl) ?_
      refine c_get hx hb hts i_X12_valley_X12 hown hK hP 0 tM0 rfl 8 (by decide) (hts _ (List.mem_of_getElem? (i := 1) rfl)) (fun _ h9 => h9) rfl (v := .int (g70006.1 0 8)) rfl dX12_valley_139 ?_
      refine lv_iconst (v := (1 : Int32)) hx hb dX12_valley_142 (by decide) ?_
      refine lv_isub hx hb dX12_valley_143 ?_
      exact c_iret hx hb hr hlk hP hS rfl (c_inj hf) dX12_valley_144
    · have hf := c_ie c70001 hf
      refine lv_aload_n hx hb dX12_valley_78 rfl (lv_at hl 0 rfl) ?_
      refine c_get hx hb hts i_X12_valley_X12 hown hK hP 0 tM0 rfl 6 (by decide) (hts _ (List.mem_of_getElem? (i := 7) rfl)) (fun _ h9 => h9) rfl (v := .ref (ad 5)) rfl dX12_valley_79 ?_
      refine lv_bipush (v := (100 : Int32)) hx hb dX12_valley_82 (by decide) ?_
      refine lv_aload_n hx hb dX12_valley_84 rfl (lv_at hl 0 rfl) ?_
      refine c_get hx hb hts i_X12_valley_X12 hown hK hP 0 tM0 rfl 8 (by decide) (hts _ (List.mem_of_getElem? (i := 1) rfl)) (fun _ h9 => h9) rfl (v := .int (g.1 0 8)) rfl dX12_valley_85 ?_
      refine lv_imul hx hb dX12_valley_88 ?_
      refine lv_iload_n hx hb dX12_valley_89 rfl (lv_at hl 1 rfl) ?_
      refine lv_iadd hx hb dX12_valley_90 ?_
      refine lv_aload_n hx hb dX12_valley_91 rfl (lv_at hl 0 rfl) ?_
      refine c_get hx hb hts i_X12_valley_X12 hown hK hP 0 tM0 rfl 9 (by decide) (hts _ (List.mem_of_getElem? (i := 4) rfl)) (fun _ h9 => h9) rfl (v := .ref (ad 7)) rfl dX12_valley_92 ?_
      refine lv_iload_n hx hb dX12_valley_95 rfl (lv_at hl 1 rfl) ?_
      obtain ⟨hi70007, hf⟩ := c_gd hf
      refine c_iald (j := (x1).toNatClampNeg) hx hb hK hP 7 tM7 rfl (c_inV hi70007) dX12_valley_96 ?_
      obtain ⟨hi70008, hf⟩ := c_gd hf
      obtain ⟨g70009, eg70009, hf⟩ := c_letE hf
      refine c_iast (j := ((((100 : Int32) * (g.1 0 8)) + x1)).toNatClampNeg) hx hb hK hP hD hS 5 tM5 rfl (c_inV hi70008) eg70009 dX12_valley_97 (fun H locs hP hS => ?_)
      obtain ⟨v70010, ev70010, hf⟩ := c_letE hf
      refine lv_iinc (v := v70010) (lv' := [(1, .int v70010), (0, .ref (ad 0))]) hx hb dX12_valley_98 hl (k := 1) rfl (by rw [ev70010]; rfl) (by decide) rfl (fun ls hl => ?_)
      refine lv_goto (tgt := 70) hx hb dX12_valley_101 (by decide) ?_
      exact ih v70010 g70009 hf _ _ hP hS _ (lv_sub hl [1, 0] rfl)
def fX12_valley_22   : Nat → Int32 → c_G → Option (c_G × Int32)
  | 0, _, _ => none
  | n + 1, x1, g => if (g.1 0 10) ≤ x1 then (c_let (c_si g 0 5 (0 : Int32)) fun g22002 => c_b2 (fX12_readAll g22002) fun g22004 r22005 => if r22005 = 0 then (some (g22004, ((-10 : Int32) - (g22004.1 0 11)))) else (fX12_valley_70 c_F ((0 : Int32)) g22004)) else (if c_in (x1) (100) = true then c_let (c_si g 7 (x1).toNatClampNeg (g.1 4 (x1).toNatClampNeg)) fun g22008 => c_let (x1 + (1 : Int32)) fun v22009 => (fX12_valley_22 n) v22009 g22008 else none)
set_option maxRecDepth 100000 in
set_option maxHeartbeats 4000000 in
theorem jX12_valley_22 {p : Program} {l : Launch} {e : Env} {s : State} {m : MethodId} {below : List Frame} {meth : Method} {c : Code} {D : va_G} {tc : Nat → ClassId} {ad : Nat → Nat} {A : Nat → Prop} {E : (Nat → Nat) × (Nat → Nat) × Nat} {g' : c_G} {r : Int32} (C : c_C p s m meth c D tc A E RX12 wsX12_valley cX12_valley 2 (some .int) ([.ref (ad 0)] : List Value).toArray) (hD : c_D A ad TM)  : ∀ (n : Nat) (x1 : Int32) (g : c_G), fX12_valley_22 n x1 g = some (g', r) → ∀ (H : Heap) (locs : List Loc), va_P D vwCl (c_ws tc ad TM g) H → va_S A s.heap H locs → ∀ ls : Array Slot, lv_has ls 2 [(0, .ref (ad 0)), (1, .int x1)] → W p l e (c_rm 46) s m ([.ref (ad 0)] : List Value).toArray below meth c H locs 0 0 (MQ below (va_Qi (fun (x : Int32) (_ : Unit) => x = r) (fun _ t => va_P D vwCl (c_ws tc ad TM g') t.heap) A) ([.ref (ad 0)] : List Value).toArray s 0 0 A) (F0 m 22 ls []) := by
  obtain ⟨hx, hb, hr, hml, hts, hown, hlk, hK, hE⟩ := id C
  intro n
  induction n with
  | zero =>
    intro x1 g hf
    cases hf
  | succ n ih =>
    intro x1 g hf H locs hP hS ls hl
    unfold fX12_valley_22 at hf
    refine lv_iload_n hx hb dX12_valley_22 rfl (lv_at hl 1 rfl) ?_
    refine lv_aload_n hx hb dX12_valley_23 rfl (lv_at hl 0 rfl) ?_
    refine c_get hx hb hts i_X12_valley_X12 hown hK hP 0 tM0 rfl 10 (by decide) (hts _ (List.mem_of_getElem? (i := 3) rfl)) (fun _ h9 => h9) rfl (v := .int (g.1 0 10)) rfl dX12_valley_24 ?_
    refine lv_icmp_ge (tgt := 48) hx hb dX12_valley_27 (by decide) (fun c22001 => ?_) (fun c22001 => ?_)
    · have hf := c_it c22001 hf
      refine lv_aload_n hx hb dX12_valley_48 rfl (lv_at hl 0 rfl) ?_
      refine lv_iconst (v := (0 : Int32)) hx hb dX12_valley_49 (by decide) ?_
      obtain ⟨g22002, eg22002, hf⟩ := c_letE hf
      refine c_put hx hb hts i_X12_valley_X12 tyX12 tyX12_ok nmX12 hown hK hP hD hS 0 tM0 rfl 5 (by decide) (hts _ (List.mem_of_getElem? (i := 2) rfl)) (fun _ h9 => h9) rfl (ty := .int) (by decide +kernel) rfl rfl rfl eg22002 dX12_valley_50 (fun H locs hP hS => ?_)
      refine lv_aload_n hx hb dX12_valley_53 rfl (lv_at hl 0 rfl) ?_
      obtain ⟨g22004, r22005, hc22003, hf⟩ := c_b2E hf
      refine c_goi (va_runV (As := []) (rest := []) ⟨hx, hb, hml, hown, hts⟩ (kX12_readAll hD hc22003) (cwV 0 hts gX12_valley_X12_readAll rfl rfl rfl (by decide +kernel) ⟨Nat.le_of_ble_eq_true rfl, Nat.le_of_ble_eq_true rfl⟩) (c_preV hK hP hE hS tM0 rfl) rfl rfl hl.1 rfl (lv_room (Nat.le_of_ble_eq_true rfl)) dX12_valley_54 ⟨Nat.zero_le _, Nat.zero_le _⟩) hS (fun H locs hP hS => ?_)
      refine lv_if_ne (tgt := 68) hx hb dX12_valley_57 (by decide) (fun c22006 => ?_) (fun c22006 => ?_)
      · have hf := c_ie c22006 hf
        refine lv_iconst (v := (0 : Int32)) hx hb dX12_valley_68 (by decide) ?_
        refine lv_istore_n (lv' := [(1, .int (0 : Int32)), (0, .ref (ad 0))]) hx hb dX12_valley_69 rfl hl (by decide) rfl (fun ls hl => ?_)
        exact jX12_valley_70 C hD c_F ((0 : Int32)) g22004 hf _ _ hP hS _ (lv_sub hl [1, 0] rfl)
      · have hf := c_it c22006 hf
        refine lv_bipush (v := (-10 : Int32)) hx hb dX12_valley_60 (by decide) ?_
        refine lv_aload_n hx hb dX12_valley_62 rfl (lv_at hl 0 rfl) ?_
        refine c_get hx hb hts i_X12_valley_X12 hown hK hP 0 tM0 rfl 11 (by decide) (hts _ (List.mem_of_getElem? (i := 6) rfl)) (fun _ h9 => h9) rfl (v := .int (g22004.1 0 11)) rfl dX12_valley_63 ?_
        refine lv_isub hx hb dX12_valley_66 ?_
        exact c_iret hx hb hr hlk hP hS rfl (c_inj hf) dX12_valley_67
    · have hf := c_ie c22001 hf
      refine lv_aload_n hx hb dX12_valley_30 rfl (lv_at hl 0 rfl) ?_
      refine c_get hx hb hts i_X12_valley_X12 hown hK hP 0 tM0 rfl 9 (by decide) (hts _ (List.mem_of_getElem? (i := 4) rfl)) (fun _ h9 => h9) rfl (v := .ref (ad 7)) rfl dX12_valley_31 ?_
      refine lv_iload_n hx hb dX12_valley_34 rfl (lv_at hl 1 rfl) ?_
      refine lv_aload_n hx hb dX12_valley_35 rfl (lv_at hl 0 rfl) ?_
      refine c_get hx hb hts i_X12_valley_X12 hown hK hP 0 tM0 rfl 4 (by decide) (hts _ (List.mem_of_getElem? (i := 5) rfl)) (fun _ h9 => h9) rfl (v := .ref (ad 4)) rfl dX12_valley_36 ?_
      refine lv_iload_n hx hb dX12_valley_39 rfl (lv_at hl 1 rfl) ?_
      obtain ⟨hi22007, hf⟩ := c_gd hf
      refine c_iald (j := (x1).toNatClampNeg) hx hb hK hP 4 tM4 rfl (c_inV hi22007) dX12_valley_40 ?_
      obtain ⟨g22008, eg22008, hf⟩ := c_letE hf
      refine c_iast (j := (x1).toNatClampNeg) hx hb hK hP hD hS 7 tM7 rfl (c_inV hi22007) eg22008 dX12_valley_41 (fun H locs hP hS => ?_)
      obtain ⟨v22009, ev22009, hf⟩ := c_letE hf
      refine lv_iinc (v := v22009) (lv' := [(1, .int v22009), (0, .ref (ad 0))]) hx hb dX12_valley_42 hl (k := 1) rfl (by rw [ev22009]; rfl) (by decide) rfl (fun ls hl => ?_)
      refine lv_goto (tgt := 22) hx hb dX12_valley_45 (by decide) ?_
      exact ih v22009 g22008 hf _ _ hP hS _ (lv_sub hl [1, 0] rfl)
def fX12_valley (g : c_G)  : Option (c_G × Int32) :=
  if (g.1 0 8) = (6 : Int32) then (some (g, (-4 : Int32))) else (c_let (c_si g 0 10 (g.1 0 5)) fun g2 => fX12_valley_22 c_F ((0 : Int32)) g2)
set_option maxRecDepth 100000 in
set_option maxHeartbeats 4000000 in
theorem kX12_valley {l : Launch} {D : va_G} {tc : Nat → ClassId} {ad : Nat → Nat} {A : Nat → Prop} {E : (Nat → Nat) × (Nat → Nat) × Nat} (hD : c_D A ad TM)  {g g' : c_G} {r : Int32} (hf : fX12_valley g  = some (g', r)) : c_Mi l yX12_valley wsX12_valley (c_rm 46) D tc ad A E TM ([.ref (ad 0)] : List Value) g g' r := by
  refine c_ofW (bytes := cX12_valley) (maxL := 2) (ret := (some .int)) (by decide) rfl (Nat.le_of_ble_eq_true rfl) ?_
  intro p e s m below meth c ls C hP hS hl
  unfold fX12_valley at hf
  obtain ⟨hx, hb, hr, hml, hts, hown, hlk, hK, hE⟩ := id C
  have hl : lv_has ls 2 [(0, .ref (ad 0))] := hl
  refine lv_aload_n hx hb dX12_valley_0 rfl (lv_at hl 0 rfl) ?_
  refine c_get hx hb hts i_X12_valley_X12 hown hK hP 0 tM0 rfl 8 (by decide) (hts _ (List.mem_of_getElem? (i := 1) rfl)) (fun _ h9 => h9) rfl (v := .int (g.1 0 8)) rfl dX12_valley_1 ?_
  refine lv_bipush (v := (6 : Int32)) hx hb dX12_valley_4 (by decide) ?_
  refine lv_icmp_ne (tgt := 12) hx hb dX12_valley_6 (by decide) (fun c1 => ?_) (fun c1 => ?_)
  · have hf := c_ie c1 hf
    refine lv_aload_n hx hb dX12_valley_12 rfl (lv_at hl 0 rfl) ?_
    refine lv_aload_n hx hb dX12_valley_13 rfl (lv_at hl 0 rfl) ?_
    refine c_get hx hb hts i_X12_valley_X12 hown hK hP 0 tM0 rfl 5 (by decide) (hts _ (List.mem_of_getElem? (i := 2) rfl)) (fun _ h9 => h9) rfl (v := .int (g.1 0 5)) rfl dX12_valley_14 ?_
    obtain ⟨g2, eg2, hf⟩ := c_letE hf
    refine c_put hx hb hts i_X12_valley_X12 tyX12 tyX12_ok nmX12 hown hK hP hD hS 0 tM0 rfl 10 (by decide) (hts _ (List.mem_of_getElem? (i := 3) rfl)) (fun _ h9 => h9) rfl (ty := .int) (by decide +kernel) rfl rfl rfl eg2 dX12_valley_17 (fun H locs hP hS => ?_)
    refine lv_iconst (v := (0 : Int32)) hx hb dX12_valley_20 (by decide) ?_
    refine lv_istore_n (lv' := [(1, .int (0 : Int32)), (0, .ref (ad 0))]) hx hb dX12_valley_21 rfl hl (by decide) rfl (fun ls hl => ?_)
    exact jX12_valley_22 C hD c_F ((0 : Int32)) g2 hf _ _ hP hS _ (lv_sub hl [1, 0] rfl)
  · have hf := c_it c1 hf
    refine lv_bipush (v := (-4 : Int32)) hx hb dX12_valley_9 (by decide) ?_
    exact c_iret hx hb hr hlk hP hS rfl (c_inj hf) dX12_valley_11
theorem dX12_sundays_0 : decode cX12_sundays 0 = .ok (.iconst 0, 1) := by decide +kernel
theorem dX12_sundays_1 : decode cX12_sundays 1 = .ok (.istore_n 2, 1) := by decide +kernel
theorem dX12_sundays_2 : decode cX12_sundays 2 = .ok (.iload_n 2, 1) := by decide +kernel
theorem dX12_sundays_3 : decode cX12_sundays 3 = .ok (.iload_n 1, 1) := by decide +kernel
theorem dX12_sundays_4 : decode cX12_sundays 4 = .ok (.if_icmp .ge 13, 3) := by decide +kernel
theorem dX12_sundays_7 : decode cX12_sundays 7 = .ok (.aload_n 0, 1) := by decide +kernel
theorem dX12_sundays_8 : decode cX12_sundays 8 = .ok (.invokevirtual 214, 3) := by decide +kernel
theorem dX12_sundays_11 : decode cX12_sundays 11 = .ok (.iinc 2 1, 3) := by decide +kernel
theorem dX12_sundays_14 : decode cX12_sundays 14 = .ok (.goto (-12), 3) := by decide +kernel
theorem dX12_sundays_17 : decode cX12_sundays 17 = .ok (.return_, 1) := by decide +kernel
set_option maxRecDepth 20000 in
theorem ggX12_sundays_X12_sunday : GoodIn wsX12_sundays wsX12_sunday := goodIn_r _ [5, 6, 7, 8, 9, 4, 10, 11, 12, 13, 14, 15, 16, 17, 18, 19, 20, 21, 22, 23, 24, 25, 26, 27, 28, 29, 30, 31, 32, 33, 34, 35, 36, 37, 38, 39, 40, 41, 42, 43, 44, 45, 46, 47, 48, 49, 50, 51, 52, 53, 54, 55, 56, 57, 58, 59, 60, 61, 62, 63, 64, 65, 66, 67, 68, 69, 70, 71, 72, 73, 74, 75, 76, 77, 78, 79, 80, 81, 82, 83, 84, 85, 86, 87, 88, 89, 90, 91, 92, 93, 94, 95, 96, 97, 98, 99, 100, 101, 102, 103, 104, 105, 106, 107, 108, 109, 110, 111, 112, 113, 114, 115, 116, 117, 118, 119, 120, 121, 122, 123, 124, 125, 126, 127, 128, 129, 130, 131, 132, 133, 134, 135, 136, 137, 138, 139, 140] (by decide +kernel) (by decide +kernel)
set_option maxRecDepth 20000 in
theorem gX12_sundays_X12_sunday : GoodIn wsX12_sundays (wsV RX12 214 RX12 yX12_sunday wsX12_sunday) := goodIn_app (goodIn_of _ (by decide +kernel)) ggX12_sundays_X12_sunday
def fX12_sundays_2  (a1 : Int32) : Nat → Int32 → Int32 → c_G → Option (c_G)
  | 0, _, _, _ => none
  | n + 1, x1, x2, g => if x1 ≤ x2 then (some g) else ((fX12_sunday g).bind fun g2003 => c_let (x2 + (1 : Int32)) fun v2004 => (fX12_sundays_2 a1 n) x1 v2004 g2003)
set_option maxRecDepth 100000 in
set_option maxHeartbeats 4000000 in
theorem jX12_sundays_2 {p : Program} {l : Launch} {e : Env} {s : State} {m : MethodId} {below : List Frame} {meth : Method} {c : Code} {D : va_G} {tc : Nat → ClassId} {ad : Nat → Nat} {A : Nat → Prop} {E : (Nat → Nat) × (Nat → Nat) × Nat} {a1 : Int32} {g' : c_G} (C : c_C p s m meth c D tc A E RX12 wsX12_sundays cX12_sundays 3 none ([.ref (ad 0), .int a1] : List Value).toArray) (hD : c_D A ad TM)  : ∀ (n : Nat) (x1 : Int32) (x2 : Int32) (g : c_G), fX12_sundays_2 a1 n x1 x2 g = some g' → ∀ (H : Heap) (locs : List Loc), va_P D vwCl (c_ws tc ad TM g) H → va_S A s.heap H locs → ∀ ls : Array Slot, lv_has ls 3 [(0, .ref (ad 0)), (1, .int x1), (2, .int x2)] → W p l e (c_rm 52) s m ([.ref (ad 0), .int a1] : List Value).toArray below meth c H locs 0 0 (MQ below (va_Qv (fun (_ : Unit) => True) (fun _ t => va_P D vwCl (c_ws tc ad TM g') t.heap) A) ([.ref (ad 0), .int a1] : List Value).toArray s 0 0 A) (F0 m 2 ls []) := by
  obtain ⟨hx, hb, hr, hml, hts, hown, hlk, hK, hE⟩ := id C
  intro n
  induction n with
  | zero =>
    intro x1 x2 g hf
    cases hf
  | succ n ih =>
    intro x1 x2 g hf H locs hP hS ls hl
    unfold fX12_sundays_2 at hf
    refine lv_iload_n hx hb dX12_sundays_2 rfl (lv_at hl 2 rfl) ?_
    refine lv_iload_n hx hb dX12_sundays_3 rfl (lv_at hl 1 rfl) ?_
    refine lv_icmp_ge (tgt := 17) hx hb dX12_sundays_4 (by decide) (fun c2001 => ?_) (fun c2001 => ?_)
    · have hf := c_it c2001 hf
      exact c_vret hx hb hr hlk hP hS (Option.some.inj hf) dX12_sundays_17
    · have hf := c_ie c2001 hf
      refine lv_aload_n hx hb dX12_sundays_7 rfl (lv_at hl 0 rfl) ?_
      obtain ⟨g2003, hc2002, hf⟩ := c_bd hf
      refine c_gov (va_runV (As := []) (rest := []) ⟨hx, hb, hml, hown, hts⟩ (kX12_sunday hD hc2002) (cwV 0 hts gX12_sundays_X12_sunday rfl rfl rfl (by decide +kernel) ⟨Nat.le_of_ble_eq_true rfl, Nat.le_of_ble_eq_true rfl⟩) (c_preV hK hP hE hS tM0 rfl) rfl rfl hl.1 rfl (lv_room (Nat.le_of_ble_eq_true rfl)) dX12_sundays_8 ⟨Nat.zero_le _, Nat.zero_le _⟩) hS (fun H locs hP hS => ?_)
      obtain ⟨v2004, ev2004, hf⟩ := c_letE hf
      refine lv_iinc (v := v2004) (lv' := [(2, .int v2004), (0, .ref (ad 0)), (1, .int x1)]) hx hb dX12_sundays_11 hl (k := 2) rfl (by rw [ev2004]; rfl) (by decide) rfl (fun ls hl => ?_)
      refine lv_goto (tgt := 2) hx hb dX12_sundays_14 (by decide) ?_
      exact ih x1 v2004 g2003 hf _ _ hP hS _ (lv_sub hl [1, 2, 0] rfl)
def fX12_sundays (g : c_G) (a1 : Int32) : Option (c_G) :=
  fX12_sundays_2 a1 c_F a1 ((0 : Int32)) g
set_option maxRecDepth 100000 in
set_option maxHeartbeats 4000000 in
theorem kX12_sundays {l : Launch} {D : va_G} {tc : Nat → ClassId} {ad : Nat → Nat} {A : Nat → Prop} {E : (Nat → Nat) × (Nat → Nat) × Nat} (hD : c_D A ad TM) {a1 : Int32} {g g' : c_G} (hf : fX12_sundays g a1 = some g') : c_Mv l yX12_sundays wsX12_sundays (c_rm 52) D tc ad A E TM ([.ref (ad 0), .int a1] : List Value) g g' := by
  refine c_ofW (bytes := cX12_sundays) (maxL := 3) (ret := none) (by decide) rfl (Nat.le_of_ble_eq_true rfl) ?_
  intro p e s m below meth c ls C hP hS hl
  unfold fX12_sundays at hf
  obtain ⟨hx, hb, hr, hml, hts, hown, hlk, hK, hE⟩ := id C
  have hl : lv_has ls 3 [(0, .ref (ad 0)), (1, .int a1)] := hl
  refine lv_iconst (v := (0 : Int32)) hx hb dX12_sundays_0 (by decide) ?_
  refine lv_istore_n (lv' := [(2, .int (0 : Int32)), (0, .ref (ad 0)), (1, .int a1)]) hx hb dX12_sundays_1 rfl hl (by decide) rfl (fun ls hl => ?_)
  exact jX12_sundays_2 C hD c_F a1 ((0 : Int32)) g hf _ _ hP hS _ (lv_sub hl [1, 2, 0] rfl)
theorem i_X12_howMany_X12 : ∀ w ∈ u_ws RX12 TX12 32, w ∈ wsX12_howMany := c_inP [7, 8, 9, 10, 11, 12, 13, 14, 15, 16, 17, 18, 19, 20, 21, 22, 23, 24, 25, 26, 27, 28, 29, 30, 31, 32, 33, 34, 35, 36, 37, 38] (by decide +kernel)
theorem dX12_howMany_0 : decode cX12_howMany 0 = .ok (.iconst 0, 1) := by decide +kernel
theorem dX12_howMany_1 : decode cX12_howMany 1 = .ok (.istore_n 1, 1) := by decide +kernel
theorem dX12_howMany_2 : decode cX12_howMany 2 = .ok (.iconst 0, 1) := by decide +kernel
theorem dX12_howMany_3 : decode cX12_howMany 3 = .ok (.istore_n 2, 1) := by decide +kernel
theorem dX12_howMany_4 : decode cX12_howMany 4 = .ok (.iload_n 2, 1) := by decide +kernel
theorem dX12_howMany_5 : decode cX12_howMany 5 = .ok (.bipush 6, 2) := by decide +kernel
theorem dX12_howMany_7 : decode cX12_howMany 7 = .ok (.if_icmp .ge 31, 3) := by decide +kernel
theorem dX12_howMany_10 : decode cX12_howMany 10 = .ok (.iload_n 1, 1) := by decide +kernel
theorem dX12_howMany_11 : decode cX12_howMany 11 = .ok (.aload_n 0, 1) := by decide +kernel
theorem dX12_howMany_12 : decode cX12_howMany 12 = .ok (.aload_n 0, 1) := by decide +kernel
theorem dX12_howMany_13 : decode cX12_howMany 13 = .ok (.getfield 15, 3) := by decide +kernel
theorem dX12_howMany_16 : decode cX12_howMany 16 = .ok (.iload_n 2, 1) := by decide +kernel
theorem dX12_howMany_17 : decode cX12_howMany 17 = .ok (.iconst 1, 1) := by decide +kernel
theorem dX12_howMany_18 : decode cX12_howMany 18 = .ok (.invokevirtual 118, 3) := by decide +kernel
theorem dX12_howMany_21 : decode cX12_howMany 21 = .ok (.iconst (-1), 1) := by decide +kernel
theorem dX12_howMany_22 : decode cX12_howMany 22 = .ok (.if_icmp .ne 7, 3) := by decide +kernel
theorem dX12_howMany_25 : decode cX12_howMany 25 = .ok (.iconst 0, 1) := by decide +kernel
theorem dX12_howMany_26 : decode cX12_howMany 26 = .ok (.goto 4, 3) := by decide +kernel
theorem dX12_howMany_29 : decode cX12_howMany 29 = .ok (.iconst 1, 1) := by decide +kernel
theorem dX12_howMany_30 : decode cX12_howMany 30 = .ok (.iadd, 1) := by decide +kernel
theorem dX12_howMany_31 : decode cX12_howMany 31 = .ok (.istore_n 1, 1) := by decide +kernel
theorem dX12_howMany_32 : decode cX12_howMany 32 = .ok (.iinc 2 1, 3) := by decide +kernel
theorem dX12_howMany_35 : decode cX12_howMany 35 = .ok (.goto (-31), 3) := by decide +kernel
theorem dX12_howMany_38 : decode cX12_howMany 38 = .ok (.iload_n 1, 1) := by decide +kernel
theorem dX12_howMany_39 : decode cX12_howMany 39 = .ok (.ireturn, 1) := by decide +kernel
set_option maxRecDepth 20000 in
theorem ggX12_howMany_X12_of : GoodIn wsX12_howMany wsX12_of := goodIn_r _ [6] (by decide +kernel) (by decide +kernel)
set_option maxRecDepth 20000 in
theorem gX12_howMany_X12_of : GoodIn wsX12_howMany (wsV RX12 118 RX12 yX12_of wsX12_of) := goodIn_app (goodIn_of _ (by decide +kernel)) ggX12_howMany_X12_of
def fX12_howMany_30 (rec4 : Int32 → Int32 → c_G → Option (Int32))  (x2 : Int32) (y0 : Int32) (y1 : Int32) (g : c_G) : Option (Int32) :=
  c_let ((y0 + y1)) fun v30001 => c_let (x2 + (1 : Int32)) fun v30002 => rec4 v30001 v30002 g
set_option maxRecDepth 100000 in
set_option maxHeartbeats 4000000 in
theorem jX12_howMany_30 {p : Program} {l : Launch} {e : Env} {s : State} {m : MethodId} {below : List Frame} {meth : Method} {c : Code} {D : va_G} {tc : Nat → ClassId} {ad : Nat → Nat} {A : Nat → Prop} {E : (Nat → Nat) × (Nat → Nat) × Nat} {r : Int32} (C : c_C p s m meth c D tc A E RX12 wsX12_howMany cX12_howMany 3 (some .int) ([.ref (ad 0)] : List Value).toArray) (hD : c_D A ad TM) {rec4 : Int32 → Int32 → c_G → Option (Int32)} (hrec4 : ∀ (x1 : Int32) (x2 : Int32) (g : c_G), rec4 x1 x2 g = some r → ∀ (H : Heap) (locs : List Loc), va_P D vwCl (c_ws tc ad TM g) H → va_S A s.heap H locs → ∀ ls : Array Slot, lv_has ls 3 [(0, .ref (ad 0)), (1, .int x1), (2, .int x2)] → W p l e (c_rm 1) s m ([.ref (ad 0)] : List Value).toArray below meth c H locs 0 0 (MQ below (va_Qi (fun (x : Int32) (_ : Unit) => x = r) (fun _ t => va_P D vwCl (c_ws tc ad TM g) t.heap) A) ([.ref (ad 0)] : List Value).toArray s 0 0 A) (F0 m 4 ls [])) : ∀ (x2 : Int32) (y0 : Int32) (y1 : Int32) (g : c_G), fX12_howMany_30 rec4 x2 y0 y1 g = some r → ∀ (H : Heap) (locs : List Loc), va_P D vwCl (c_ws tc ad TM g) H → va_S A s.heap H locs → ∀ ls : Array Slot, lv_has ls 3 [(0, .ref (ad 0)), (2, .int x2)] → W p l e (c_rm 1) s m ([.ref (ad 0)] : List Value).toArray below meth c H locs 0 0 (MQ below (va_Qi (fun (x : Int32) (_ : Unit) => x = r) (fun _ t => va_P D vwCl (c_ws tc ad TM g) t.heap) A) ([.ref (ad 0)] : List Value).toArray s 0 0 A) (F0 m 30 ls [.int y1, .int y0]) := by
  obtain ⟨hx, hb, hr, hml, hts, hown, hlk, hK, hE⟩ := id C
  intro x2 y0 y1 g hf H locs hP hS ls hl
  unfold fX12_howMany_30 at hf
  refine lv_iadd hx hb dX12_howMany_30 ?_
  obtain ⟨v30001, ev30001, hf⟩ := c_letE hf
  refine c_topi ev30001 ?_
  refine lv_istore_n (lv' := [(1, .int v30001), (0, .ref (ad 0)), (2, .int x2)]) hx hb dX12_howMany_31 rfl hl (by decide) rfl (fun ls hl => ?_)
  obtain ⟨v30002, ev30002, hf⟩ := c_letE hf
  refine lv_iinc (v := v30002) (lv' := [(2, .int v30002), (1, .int v30001), (0, .ref (ad 0))]) hx hb dX12_howMany_32 hl (k := 2) rfl (by rw [ev30002]; rfl) (by decide) rfl (fun ls hl => ?_)
  refine lv_goto (tgt := 4) hx hb dX12_howMany_35 (by decide) ?_
  exact hrec4 v30001 v30002 g hf _ _ hP hS _ (lv_sub hl [2, 1, 0] rfl)
def fX12_howMany_4   : Nat → Int32 → Int32 → c_G → Option (Int32)
  | 0, _, _, _ => none
  | n + 1, x1, x2, g => if (6 : Int32) ≤ x2 then (some x1) else ((fX12_of g x2 ((1 : Int32))).bind fun r4002 => if r4002 = (-1 : Int32) then (fX12_howMany_30 (fX12_howMany_4 n) x2 x1 ((0 : Int32)) g) else (fX12_howMany_30 (fX12_howMany_4 n) x2 x1 ((1 : Int32)) g))
set_option maxRecDepth 100000 in
set_option maxHeartbeats 4000000 in
theorem jX12_howMany_4 {p : Program} {l : Launch} {e : Env} {s : State} {m : MethodId} {below : List Frame} {meth : Method} {c : Code} {D : va_G} {tc : Nat → ClassId} {ad : Nat → Nat} {A : Nat → Prop} {E : (Nat → Nat) × (Nat → Nat) × Nat} {r : Int32} (C : c_C p s m meth c D tc A E RX12 wsX12_howMany cX12_howMany 3 (some .int) ([.ref (ad 0)] : List Value).toArray) (hD : c_D A ad TM)  : ∀ (n : Nat) (x1 : Int32) (x2 : Int32) (g : c_G), fX12_howMany_4 n x1 x2 g = some r → ∀ (H : Heap) (locs : List Loc), va_P D vwCl (c_ws tc ad TM g) H → va_S A s.heap H locs → ∀ ls : Array Slot, lv_has ls 3 [(0, .ref (ad 0)), (1, .int x1), (2, .int x2)] → W p l e (c_rm 1) s m ([.ref (ad 0)] : List Value).toArray below meth c H locs 0 0 (MQ below (va_Qi (fun (x : Int32) (_ : Unit) => x = r) (fun _ t => va_P D vwCl (c_ws tc ad TM g) t.heap) A) ([.ref (ad 0)] : List Value).toArray s 0 0 A) (F0 m 4 ls []) := by
  obtain ⟨hx, hb, hr, hml, hts, hown, hlk, hK, hE⟩ := id C
  intro n
  induction n with
  | zero =>
    intro x1 x2 g hf
    cases hf
  | succ n ih =>
    intro x1 x2 g hf H locs hP hS ls hl
    unfold fX12_howMany_4 at hf
    refine lv_iload_n hx hb dX12_howMany_4 rfl (lv_at hl 2 rfl) ?_
    refine lv_bipush (v := (6 : Int32)) hx hb dX12_howMany_5 (by decide) ?_
    refine lv_icmp_ge (tgt := 38) hx hb dX12_howMany_7 (by decide) (fun c4001 => ?_) (fun c4001 => ?_)
    · have hf := c_it c4001 hf
      refine lv_iload_n hx hb dX12_howMany_38 rfl (lv_at hl 1 rfl) ?_
      exact c_iret hx hb hr hlk hP hS rfl ⟨rfl, Option.some.inj hf⟩ dX12_howMany_39
    · have hf := c_ie c4001 hf
      refine lv_iload_n hx hb dX12_howMany_10 rfl (lv_at hl 1 rfl) ?_
      refine lv_aload_n hx hb dX12_howMany_11 rfl (lv_at hl 0 rfl) ?_
      refine lv_aload_n hx hb dX12_howMany_12 rfl (lv_at hl 0 rfl) ?_
      refine c_get hx hb hts i_X12_howMany_X12 hown hK hP 0 tM0 rfl 0 (by decide) (hts _ (List.mem_of_getElem? (i := 1) rfl)) (fun _ h9 => h9) rfl (v := .ref (ad 1)) rfl dX12_howMany_13 ?_
      refine lv_iload_n hx hb dX12_howMany_16 rfl (lv_at hl 2 rfl) ?_
      refine lv_iconst (v := (1 : Int32)) hx hb dX12_howMany_17 (by decide) ?_
      obtain ⟨r4002, hc4003, hf⟩ := c_bd hf
      refine c_goi (va_runV (As := [.ref (ad 1), .int x2, .int (1 : Int32)]) (rest := [.int x1]) ⟨hx, hb, hml, hown, hts⟩ (kX12_of hD hc4003) (cwV 3 hts gX12_howMany_X12_of rfl rfl rfl (by decide +kernel) ⟨Nat.le_of_ble_eq_true rfl, Nat.le_of_ble_eq_true rfl⟩) (c_preV hK hP hE hS tM0 rfl) rfl rfl hl.1 rfl (lv_room (Nat.le_of_ble_eq_true rfl)) dX12_howMany_18 ⟨Nat.zero_le _, Nat.zero_le _⟩) hS (fun H locs hP hS => ?_)
      refine lv_iconst (v := (-1 : Int32)) hx hb dX12_howMany_21 (by decide) ?_
      refine lv_icmp_ne (tgt := 29) hx hb dX12_howMany_22 (by decide) (fun c4004 => ?_) (fun c4004 => ?_)
      · have hf := c_ie c4004 hf
        refine lv_iconst (v := (1 : Int32)) hx hb dX12_howMany_29 (by decide) ?_
        exact jX12_howMany_30 C hD ih x2 x1 ((1 : Int32)) g hf _ _ hP hS _ (lv_sub hl [0, 2] rfl)
      · have hf := c_it c4004 hf
        refine lv_iconst (v := (0 : Int32)) hx hb dX12_howMany_25 (by decide) ?_
        refine lv_goto (tgt := 30) hx hb dX12_howMany_26 (by decide) ?_
        exact jX12_howMany_30 C hD ih x2 x1 ((0 : Int32)) g hf _ _ hP hS _ (lv_sub hl [0, 2] rfl)
def fX12_howMany (g : c_G)  : Option (Int32) :=
  fX12_howMany_4 c_F ((0 : Int32)) ((0 : Int32)) g
set_option maxRecDepth 100000 in
set_option maxHeartbeats 4000000 in
theorem kX12_howMany {l : Launch} {D : va_G} {tc : Nat → ClassId} {ad : Nat → Nat} {A : Nat → Prop} {E : (Nat → Nat) × (Nat → Nat) × Nat} (hD : c_D A ad TM)  {g : c_G} {r : Int32} (hf : fX12_howMany g  = some r) : c_Mi l yX12_howMany wsX12_howMany (c_rm 1) D tc ad A E TM ([.ref (ad 0)] : List Value) g g r := by
  refine c_ofW (bytes := cX12_howMany) (maxL := 3) (ret := (some .int)) (by decide) rfl (Nat.le_of_ble_eq_true rfl) ?_
  intro p e s m below meth c ls C hP hS hl
  unfold fX12_howMany at hf
  obtain ⟨hx, hb, hr, hml, hts, hown, hlk, hK, hE⟩ := id C
  have hl : lv_has ls 3 [(0, .ref (ad 0))] := hl
  refine lv_iconst (v := (0 : Int32)) hx hb dX12_howMany_0 (by decide) ?_
  refine lv_istore_n (lv' := [(1, .int (0 : Int32)), (0, .ref (ad 0))]) hx hb dX12_howMany_1 rfl hl (by decide) rfl (fun ls hl => ?_)
  refine lv_iconst (v := (0 : Int32)) hx hb dX12_howMany_2 (by decide) ?_
  refine lv_istore_n (lv' := [(2, .int (0 : Int32)), (1, .int (0 : Int32)), (0, .ref (ad 0))]) hx hb dX12_howMany_3 rfl hl (by decide) rfl (fun ls hl => ?_)
  exact jX12_howMany_4 C hD c_F ((0 : Int32)) ((0 : Int32)) g hf _ _ hP hS _ (lv_sub hl [2, 1, 0] rfl)
