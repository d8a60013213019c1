theorem i_X11_of_X7 : ∀ w ∈ u_ws RX7 TX7 17, w ∈ wsX11_of := c_inP [145, 146, 147, 148, 149, 150, 151, 152, 153, 154, 155, 156, 157, 158, 159, 160, 161] (by decide +kernel)
theorem i_X11_of_X11 : ∀ w ∈ u_ws RX11 TX11 19, w ∈ wsX11_of := c_inP [126, 127, 128, 129, 130, 131, 132, 133, 134, 135, 136, 137, 138, 139, 140, 141, 142, 143, 144] (by decide +kernel)
theorem dX11_of_0 : decode cX11_of 0 = .ok (.aload_n 0, 1) := by decide +kernel
theorem dX11_of_1 : decode cX11_of 1 = .ok (.iload_n 1, 1) := by decide +kernel
theorem dX11_of_2 : decode cX11_of 2 = .ok (.invokevirtual 117, 3) := by decide +kernel
theorem dX11_of_5 : decode cX11_of 5 = .ok (.ifCond .ne 5, 3) := by decide +kernel
theorem dX11_of_8 : decode cX11_of 8 = .ok (.iconst (-1), 1) := by decide +kernel
theorem dX11_of_9 : decode cX11_of 9 = .ok (.ireturn, 1) := by decide +kernel
theorem dX11_of_10 : decode cX11_of 10 = .ok (.iload_n 2, 1) := by decide +kernel
theorem dX11_of_11 : decode cX11_of 11 = .ok (.tableswitch 105 0 6 #[41, 51, 61, 71, 81, 91, 98], 41) := by decide +kernel
theorem dX11_of_52 : decode cX11_of 52 = .ok (.aload_n 0, 1) := by decide +kernel
theorem dX11_of_53 : decode cX11_of 53 = .ok (.getfield 86, 3) := by decide +kernel
theorem dX11_of_56 : decode cX11_of 56 = .ok (.getfield 120, 3) := by decide +kernel
theorem dX11_of_59 : decode cX11_of 59 = .ok (.iload_n 1, 1) := by decide +kernel
theorem dX11_of_60 : decode cX11_of 60 = .ok (.iaload, 1) := by decide +kernel
theorem dX11_of_61 : decode cX11_of 61 = .ok (.ireturn, 1) := by decide +kernel
theorem dX11_of_62 : decode cX11_of 62 = .ok (.aload_n 0, 1) := by decide +kernel
theorem dX11_of_63 : decode cX11_of 63 = .ok (.getfield 86, 3) := by decide +kernel
theorem dX11_of_66 : decode cX11_of 66 = .ok (.getfield 123, 3) := by decide +kernel
theorem dX11_of_69 : decode cX11_of 69 = .ok (.iload_n 1, 1) := by decide +kernel
theorem dX11_of_70 : decode cX11_of 70 = .ok (.iaload, 1) := by decide +kernel
theorem dX11_of_71 : decode cX11_of 71 = .ok (.ireturn, 1) := by decide +kernel
theorem dX11_of_72 : decode cX11_of 72 = .ok (.aload_n 0, 1) := by decide +kernel
theorem dX11_of_73 : decode cX11_of 73 = .ok (.getfield 86, 3) := by decide +kernel
theorem dX11_of_76 : decode cX11_of 76 = .ok (.getfield 126, 3) := by decide +kernel
theorem dX11_of_79 : decode cX11_of 79 = .ok (.iload_n 1, 1) := by decide +kernel
theorem dX11_of_80 : decode cX11_of 80 = .ok (.iaload, 1) := by decide +kernel
theorem dX11_of_81 : decode cX11_of 81 = .ok (.ireturn, 1) := by decide +kernel
theorem dX11_of_82 : decode cX11_of 82 = .ok (.aload_n 0, 1) := by decide +kernel
theorem dX11_of_83 : decode cX11_of 83 = .ok (.getfield 86, 3) := by decide +kernel
theorem dX11_of_86 : decode cX11_of 86 = .ok (.getfield 129, 3) := by decide +kernel
theorem dX11_of_89 : decode cX11_of 89 = .ok (.iload_n 1, 1) := by decide +kernel
theorem dX11_of_90 : decode cX11_of 90 = .ok (.iaload, 1) := by decide +kernel
theorem dX11_of_91 : decode cX11_of 91 = .ok (.ireturn, 1) := by decide +kernel
theorem dX11_of_92 : decode cX11_of 92 = .ok (.aload_n 0, 1) := by decide +kernel
theorem dX11_of_93 : decode cX11_of 93 = .ok (.getfield 86, 3) := by decide +kernel
theorem dX11_of_96 : decode cX11_of 96 = .ok (.getfield 132, 3) := by decide +kernel
theorem dX11_of_99 : decode cX11_of 99 = .ok (.iload_n 1, 1) := by decide +kernel
theorem dX11_of_100 : decode cX11_of 100 = .ok (.iaload, 1) := by decide +kernel
theorem dX11_of_101 : decode cX11_of 101 = .ok (.ireturn, 1) := by decide +kernel
theorem dX11_of_102 : decode cX11_of 102 = .ok (.aload_n 0, 1) := by decide +kernel
theorem dX11_of_103 : decode cX11_of 103 = .ok (.iload_n 1, 1) := by decide +kernel
theorem dX11_of_104 : decode cX11_of 104 = .ok (.iconst 0, 1) := by decide +kernel
theorem dX11_of_105 : decode cX11_of 105 = .ok (.invokevirtual 135, 3) := by decide +kernel
theorem dX11_of_108 : decode cX11_of 108 = .ok (.ireturn, 1) := by decide +kernel
theorem dX11_of_109 : decode cX11_of 109 = .ok (.aload_n 0, 1) := by decide +kernel
theorem dX11_of_110 : decode cX11_of 110 = .ok (.iload_n 1, 1) := by decide +kernel
theorem dX11_of_111 : decode cX11_of 111 = .ok (.iconst 1, 1) := by decide +kernel
theorem dX11_of_112 : decode cX11_of 112 = .ok (.invokevirtual 135, 3) := by decide +kernel
theorem dX11_of_115 : decode cX11_of 115 = .ok (.ireturn, 1) := by decide +kernel
theorem dX11_of_116 : decode cX11_of 116 = .ok (.iload_n 2, 1) := by decide +kernel
theorem dX11_of_117 : decode cX11_of 117 = .ok (.bipush 10, 2) := by decide +kernel
theorem dX11_of_119 : decode cX11_of 119 = .ok (.isub, 1) := by decide +kernel
theorem dX11_of_120 : decode cX11_of 120 = .ok (.invokestatic 139, 3) := by decide +kernel
theorem dX11_of_123 : decode cX11_of 123 = .ok (.ifCond .eq 15, 3) := by decide +kernel
theorem dX11_of_126 : decode cX11_of 126 = .ok (.aload_n 0, 1) := by decide +kernel
theorem dX11_of_127 : decode cX11_of 127 = .ok (.iload_n 1, 1) := by decide +kernel
theorem dX11_of_128 : decode cX11_of 128 = .ok (.iload_n 2, 1) := by decide +kernel
theorem dX11_of_129 : decode cX11_of 129 = .ok (.bipush 10, 2) := by decide +kernel
theorem dX11_of_131 : decode cX11_of 131 = .ok (.isub, 1) := by decide +kernel
theorem dX11_of_132 : decode cX11_of 132 = .ok (.invokevirtual 142, 3) := by decide +kernel
theorem dX11_of_135 : decode cX11_of 135 = .ok (.goto 4, 3) := by decide +kernel
theorem dX11_of_138 : decode cX11_of 138 = .ok (.iconst (-1), 1) := by decide +kernel
theorem dX11_of_139 : decode cX11_of 139 = .ok (.ireturn, 1) := by decide +kernel
set_option maxRecDepth 20000 in
theorem ggX11_of_X11_isChild : GoodIn wsX11_of wsX11_isChild := goodIn_r _ [11, 1, 12, 126, 127, 128, 129, 130, 131, 132, 133, 134, 135, 136, 137, 138, 139, 140, 141, 142, 143, 144, 145, 146, 147, 148, 149, 150, 151, 152, 153, 154, 155, 156, 157, 158, 159, 160, 161] (by decide +kernel) (by decide +kernel)
set_option maxRecDepth 20000 in
theorem gX11_of_X11_isChild : GoodIn wsX11_of (wsV RX11 117 RX11 yX11_isChild wsX11_isChild) := goodIn_app (goodIn_of _ (by decide +kernel)) ggX11_of_X11_isChild
set_option maxRecDepth 20000 in
theorem ggX11_of_X11_knew : GoodIn wsX11_of wsX11_knew := goodIn_r _ [16, 1, 17, 18, 19, 20, 21, 22, 23, 24, 10, 25, 3, 26, 27, 28, 29, 30, 31, 32, 33, 34, 35, 36, 37, 38, 2, 39, 40, 5, 41, 42, 43, 44, 45, 46, 47, 48, 49, 50, 51, 52, 53, 54, 55, 56, 57, 58, 59, 60, 61, 62, 63, 64, 65, 66, 67, 68, 69, 70, 71, 72, 73, 74, 75, 76, 77, 78, 79, 80, 81, 82, 83, 84, 85, 86, 87, 88, 89, 90, 91, 92, 93, 94, 95, 96, 97, 98, 99, 100, 101, 102, 103, 104, 105, 106, 107, 108, 109, 110, 111, 126, 127, 128, 129, 130, 131, 132, 133, 134, 135, 136, 137, 138, 139, 140, 141, 142, 143, 144, 145, 146, 147, 148, 149, 150, 151, 152, 153, 154, 155, 156, 157, 158, 159, 160, 161, 162, 163, 164, 165, 166, 167, 168, 169, 170, 171, 172, 173] (by decide +kernel) (by decide +kernel)
set_option maxRecDepth 20000 in
theorem gX11_of_X11_knew : GoodIn wsX11_of (wsV RX11 135 RX11 yX11_knew wsX11_knew) := goodIn_app (goodIn_of _ (by decide +kernel)) ggX11_of_X11_knew
set_option maxRecDepth 20000 in
theorem ggX11_of_X11_isElder : GoodIn wsX11_of wsX11_isElder := goodIn_r _ [114] (by decide +kernel) (by decide +kernel)
set_option maxRecDepth 20000 in
theorem gX11_of_X11_isElder : GoodIn wsX11_of (va_wsS RX11 139 yX11_isElder wsX11_isElder) := goodIn_app (goodIn_of _ (by decide +kernel)) ggX11_of_X11_isElder
set_option maxRecDepth 20000 in
theorem ggX11_of_X11_saysNow : GoodIn wsX11_of wsX11_saysNow := goodIn_r _ [118, 1, 3, 4, 119, 120, 121, 10, 122, 26, 27, 28, 29, 30, 31, 32, 33, 34, 35, 36, 37, 38, 2, 39, 40, 5, 41, 42, 43, 44, 45, 46, 47, 48, 49, 50, 51, 52, 53, 54, 55, 56, 57, 58, 59, 60, 61, 62, 63, 64, 65, 66, 67, 68, 69, 70, 71, 72, 73, 74, 75, 76, 77, 78, 79, 80, 81, 82, 83, 84, 85, 86, 87, 88, 89, 90, 91, 92, 93, 94, 95, 96, 97, 98, 99, 100, 123, 124, 125, 126, 127, 128, 129, 130, 131, 132, 133, 134, 135, 136, 137, 138, 139, 140, 141, 142, 143, 144, 145, 146, 147, 148, 149, 150, 151, 152, 153, 154, 155, 156, 157, 158, 159, 160, 161, 166, 167, 168, 169, 170, 171, 172, 173] (by decide +kernel) (by decide +kernel)
set_option maxRecDepth 20000 in
theorem gX11_of_X11_saysNow : GoodIn wsX11_of (wsV RX11 142 RX11 yX11_saysNow wsX11_saysNow) := goodIn_app (goodIn_of _ (by decide +kernel)) ggX11_of_X11_saysNow
def fX11_of (g : c_G) (a1 : Int32) (a2 : Int32) : Option (c_G × Int32) :=
  (fX11_isChild g a1).bind fun r1 => if r1 = 0 then (some (g, (-1 : Int32))) else (if a2 = (0 : Int32) then (if c_in (a1) (6) = true then some (g, (g.1 60 (a1).toNatClampNeg)) else none) else if a2 = (1 : Int32) then (if c_in (a1) (6) = true then some (g, (g.1 61 (a1).toNatClampNeg)) else none) else if a2 = (2 : Int32) then (if c_in (a1) (6) = true then some (g, (g.1 62 (a1).toNatClampNeg)) else none) else if a2 = (3 : Int32) then (if c_in (a1) (6) = true then some (g, (g.1 63 (a1).toNatClampNeg)) else none) else if a2 = (4 : Int32) then (if c_in (a1) (6) = true then some (g, (g.1 64 (a1).toNatClampNeg)) else none) else if a2 = (5 : Int32) then (c_b2 (fX11_knew g a1 ((0 : Int32))) fun g16 r17 => some (g16, r17)) else if a2 = (6 : Int32) then (c_b2 (fX11_knew g a1 ((1 : Int32))) fun g20 r21 => some (g20, r21)) else (if (fX11_isElder ((a2 - (10 : Int32)))) = 0 then (some (g, (-1 : Int32))) else (c_b2 (fX11_saysNow g a1 ((a2 - (10 : Int32)))) fun g24 r25 => some (g24, r25))))
set_option maxRecDepth 100000 in
set_option maxHeartbeats 4000000 in
theorem kX11_of {l : Launch} {D : va_G} {tc : Nat → ClassId} {ad : Nat → Nat} {A : Nat → Prop} {E : (Nat → Nat) × (Nat → Nat) × Nat} (hD : c_D A ad TC) {a1 : Int32} {a2 : Int32} {g g' : c_G} {r : Int32} (hf : fX11_of g a1 a2 = some (g', r)) : c_Mi l yX11_of wsX11_of (c_rm 5) D tc ad A E TC ([.ref (ad 0), .int a1, .int a2] : List Value) g g' r := by
  refine c_ofW (bytes := cX11_of) (maxL := 3) (ret := (some .int)) (by decide) rfl (Nat.le_of_ble_eq_true rfl) ?_
  intro p e s m below meth c ls C hP hS hl
  unfold fX11_of at hf
  obtain ⟨hx, hb, hr, hml, hts, hown, hlk, hK, hE⟩ := id C
  have hl : lv_has ls 3 [(0, .ref (ad 0)), (1, .int a1), (2, .int a2)] := hl
  refine lv_aload_n hx hb dX11_of_0 rfl (lv_at hl 0 rfl) ?_
  refine lv_iload_n hx hb dX11_of_1 rfl (lv_at hl 1 rfl) ?_
  obtain ⟨r1, hc2, hf⟩ := c_bd hf
  refine c_goi (va_runV (As := [.int a1]) (rest := []) ⟨hx, hb, hml, hown, hts⟩ (kX11_isChild hD hc2) (cwV 1 hts gX11_of_X11_isChild rfl rfl rfl (by decide +kernel) ⟨Nat.le_of_ble_eq_true rfl, Nat.le_of_ble_eq_true rfl⟩) (c_preV hK hP hE hS tC0 rfl) rfl rfl hl.1 rfl (lv_room (Nat.le_of_ble_eq_true rfl)) dX11_of_2 ⟨Nat.zero_le _, Nat.zero_le _⟩) hS (fun H locs hP hS => ?_)
  refine lv_if_ne (tgt := 10) hx hb dX11_of_5 (by decide) (fun c3 => ?_) (fun c3 => ?_)
  · have hf := c_ie c3 hf
    refine lv_iload_n hx hb dX11_of_10 rfl (lv_at hl 2 rfl) ?_
    by_cases c4 : a2 = (0 : Int32)
    · have hf := c_it c4 hf
      refine lv_tableIn (off := 41) (tgt := 52) hx hb dX11_of_11 (by rw [c4]; decide) (by rw [c4]; decide) (by rw [c4]; rfl) (by decide) ?_
      refine lv_aload_n hx hb dX11_of_52 rfl (lv_at hl 0 rfl) ?_
      refine c_get hx hb hts i_X11_of_X11 hown hK hP 0 tC0 rfl 5 (by decide) (hts _ (List.mem_of_getElem? (i := 1) rfl)) (fun _ h9 => h9) rfl (v := .ref (ad 55)) rfl dX11_of_53 ?_
      refine c_get hx hb hts i_X11_of_X7 hown hK hP 55 tC55 rfl 7 (by decide) (hts _ (List.mem_of_getElem? (i := 2) rfl)) (fun _ h9 => h9) rfl (v := .ref (ad 60)) rfl dX11_of_56 ?_
      refine lv_iload_n hx hb dX11_of_59 rfl (lv_at hl 1 rfl) ?_
      obtain ⟨hi5, hf⟩ := c_gd hf
      refine c_iald (j := (a1).toNatClampNeg) hx hb hK hP 60 tC60 rfl (c_inV hi5) dX11_of_60 ?_
      exact c_iret hx hb hr hlk hP hS rfl (c_inj hf) dX11_of_61
    have hf := c_ie c4 hf
    by_cases c6 : a2 = (1 : Int32)
    · have hf := c_it c6 hf
      refine lv_tableIn (off := 51) (tgt := 62) hx hb dX11_of_11 (by rw [c6]; decide) (by rw [c6]; decide) (by rw [c6]; rfl) (by decide) ?_
      refine lv_aload_n hx hb dX11_of_62 rfl (lv_at hl 0 rfl) ?_
      refine c_get hx hb hts i_X11_of_X11 hown hK hP 0 tC0 rfl 5 (by decide) (hts _ (List.mem_of_getElem? (i := 1) rfl)) (fun _ h9 => h9) rfl (v := .ref (ad 55)) rfl dX11_of_63 ?_
      refine c_get hx hb hts i_X11_of_X7 hown hK hP 55 tC55 rfl 8 (by decide) (hts _ (List.mem_of_getElem? (i := 3) rfl)) (fun _ h9 => h9) rfl (v := .ref (ad 61)) rfl dX11_of_66 ?_
      refine lv_iload_n hx hb dX11_of_69 rfl (lv_at hl 1 rfl) ?_
      obtain ⟨hi7, hf⟩ := c_gd hf
      refine c_iald (j := (a1).toNatClampNeg) hx hb hK hP 61 tC61 rfl (c_inV hi7) dX11_of_70 ?_
      exact c_iret hx hb hr hlk hP hS rfl (c_inj hf) dX11_of_71
    have hf := c_ie c6 hf
    by_cases c8 : a2 = (2 : Int32)
    · have hf := c_it c8 hf
      refine lv_tableIn (off := 61) (tgt := 72) hx hb dX11_of_11 (by rw [c8]; decide) (by rw [c8]; decide) (by rw [c8]; rfl) (by decide) ?_
      refine lv_aload_n hx hb dX11_of_72 rfl (lv_at hl 0 rfl) ?_
      refine c_get hx hb hts i_X11_of_X11 hown hK hP 0 tC0 rfl 5 (by decide) (hts _ (List.mem_of_getElem? (i := 1) rfl)) (fun _ h9 => h9) rfl (v := .ref (ad 55)) rfl dX11_of_73 ?_
      refine c_get hx hb hts i_X11_of_X7 hown hK hP 55 tC55 rfl 9 (by decide) (hts _ (List.mem_of_getElem? (i := 4) rfl)) (fun _ h9 => h9) rfl (v := .ref (ad 62)) rfl dX11_of_76 ?_
      refine lv_iload_n hx hb dX11_of_79 rfl (lv_at hl 1 rfl) ?_
      obtain ⟨hi9, hf⟩ := c_gd hf
      refine c_iald (j := (a1).toNatClampNeg) hx hb hK hP 62 tC62 rfl (c_inV hi9) dX11_of_80 ?_
      exact c_iret hx hb hr hlk hP hS rfl (c_inj hf) dX11_of_81
    have hf := c_ie c8 hf
    by_cases c10 : a2 = (3 : Int32)
    · have hf := c_it c10 hf
      refine lv_tableIn (off := 71) (tgt := 82) hx hb dX11_of_11 (by rw [c10]; decide) (by rw [c10]; decide) (by rw [c10]; rfl) (by decide) ?_
      refine lv_aload_n hx hb dX11_of_82 rfl (lv_at hl 0 rfl) ?_
      refine c_get hx hb hts i_X11_of_X11 hown hK hP 0 tC0 rfl 5 (by decide) (hts _ (List.mem_of_getElem? (i := 1) rfl)) (fun _ h9 => h9) rfl (v := .ref (ad 55)) rfl dX11_of_83 ?_
      refine c_get hx hb hts i_X11_of_X7 hown hK hP 55 tC55 rfl 10 (by decide) (hts _ (List.mem_of_getElem? (i := 5) rfl)) (fun _ h9 => h9) rfl (v := .ref (ad 63)) rfl dX11_of_86 ?_
      refine lv_iload_n hx hb dX11_of_89 rfl (lv_at hl 1 rfl) ?_
      obtain ⟨hi11, hf⟩ := c_gd hf
      refine c_iald (j := (a1).toNatClampNeg) hx hb hK hP 63 tC63 rfl (c_inV hi11) dX11_of_90 ?_
      exact c_iret hx hb hr hlk hP hS rfl (c_inj hf) dX11_of_91
    have hf := c_ie c10 hf
    by_cases c12 : a2 = (4 : Int32)
    · have hf := c_it c12 hf
      refine lv_tableIn (off := 81) (tgt := 92) hx hb dX11_of_11 (by rw [c12]; decide) (by rw [c12]; decide) (by rw [c12]; rfl) (by decide) ?_
      refine lv_aload_n hx hb dX11_of_92 rfl (lv_at hl 0 rfl) ?_
      refine c_get hx hb hts i_X11_of_X11 hown hK hP 0 tC0 rfl 5 (by decide) (hts _ (List.mem_of_getElem? (i := 1) rfl)) (fun _ h9 => h9) rfl (v := .ref (ad 55)) rfl dX11_of_93 ?_
      refine c_get hx hb hts i_X11_of_X7 hown hK hP 55 tC55 rfl 11 (by decide) (hts _ (List.mem_of_getElem? (i := 6) rfl)) (fun _ h9 => h9) rfl (v := .ref (ad 64)) rfl dX11_of_96 ?_
      refine lv_iload_n hx hb dX11_of_99 rfl (lv_at hl 1 rfl) ?_
      obtain ⟨hi13, hf⟩ := c_gd hf
      refine c_iald (j := (a1).toNatClampNeg) hx hb hK hP 64 tC64 rfl (c_inV hi13) dX11_of_100 ?_
      exact c_iret hx hb hr hlk hP hS rfl (c_inj hf) dX11_of_101
    have hf := c_ie c12 hf
    by_cases c14 : a2 = (5 : Int32)
    · have hf := c_it c14 hf
      refine lv_tableIn (off := 91) (tgt := 102) hx hb dX11_of_11 (by rw [c14]; decide) (by rw [c14]; decide) (by rw [c14]; rfl) (by decide) ?_
      refine lv_aload_n hx hb dX11_of_102 rfl (lv_at hl 0 rfl) ?_
      refine lv_iload_n hx hb dX11_of_103 rfl (lv_at hl 1 rfl) ?_
      refine lv_iconst (v := (0 : Int32)) hx hb dX11_of_104 (by decide) ?_
      obtain ⟨g16, r17, hc15, hf⟩ := c_b2E hf
      refine c_goi (va_runV (As := [.int a1, .int (0 : Int32)]) (rest := []) ⟨hx, hb, hml, hown, hts⟩ (kX11_knew hD hc15) (cwV 2 hts gX11_of_X11_knew rfl rfl rfl (by decide +kernel) ⟨Nat.le_of_ble_eq_true rfl, Nat.le_of_ble_eq_true rfl⟩) (c_preV hK hP hE hS tC0 rfl) rfl rfl hl.1 rfl (lv_room (Nat.le_of_ble_eq_true rfl)) dX11_of_105 ⟨Nat.zero_le _, Nat.zero_le _⟩) hS (fun H locs hP hS => ?_)
      exact c_iret hx hb hr hlk hP hS rfl (c_inj hf) dX11_of_108
    have hf := c_ie c14 hf
    by_cases c18 : a2 = (6 : Int32)
    · have hf := c_it c18 hf
      refine lv_tableIn (off := 98) (tgt := 109) hx hb dX11_of_11 (by rw [c18]; decide) (by rw [c18]; decide) (by rw [c18]; rfl) (by decide) ?_
      refine lv_aload_n hx hb dX11_of_109 rfl (lv_at hl 0 rfl) ?_
      refine lv_iload_n hx hb dX11_of_110 rfl (lv_at hl 1 rfl) ?_
      refine lv_iconst (v := (1 : Int32)) hx hb dX11_of_111 (by decide) ?_
      obtain ⟨g20, r21, hc19, hf⟩ := c_b2E hf
      refine c_goi (va_runV (As := [.int a1, .int (1 : Int32)]) (rest := []) ⟨hx, hb, hml, hown, hts⟩ (kX11_knew hD hc19) (cwV 2 hts gX11_of_X11_knew rfl rfl rfl (by decide +kernel) ⟨Nat.le_of_ble_eq_true rfl, Nat.le_of_ble_eq_true rfl⟩) (c_preV hK hP hE hS tC0 rfl) rfl rfl hl.1 rfl (lv_room (Nat.le_of_ble_eq_true rfl)) dX11_of_112 ⟨Nat.zero_le _, Nat.zero_le _⟩) hS (fun H locs hP hS => ?_)
      exact c_iret hx hb hr hlk hP hS rfl (c_inj hf) dX11_of_115
    have hf := c_ie c18 hf
    have h9 := c_sw (x := a2) (lo := 0) (n := 6) (by decide) (fun k hj hk => by rcases (show k = 0 ∨ k = 1 ∨ k = 2 ∨ k = 3 ∨ k = 4 ∨ k = 5 ∨ k = 6 by omega) with rfl | rfl | rfl | rfl | rfl | rfl | rfl <;> assumption)
    refine lv_tableOut (tgt := 116) hx hb dX11_of_11 (by omega) (by decide) ?_
    refine lv_iload_n hx hb dX11_of_116 rfl (lv_at hl 2 rfl) ?_
    refine lv_bipush (v := (10 : Int32)) hx hb dX11_of_117 (by decide) ?_
    refine lv_isub hx hb dX11_of_119 ?_
    refine c_goi (va_runS (As := [.int (a2 - (10 : Int32))]) (rest := []) ⟨hx, hb, hml, hown, hts⟩ (kX11_isElder (T := TC) (g := g) rfl) (va_cwS 1 hts gX11_of_X11_isElder rfl rfl rfl (by decide +kernel) ⟨Nat.le_of_ble_eq_true rfl, Nat.le_of_ble_eq_true rfl⟩) (c_preS hK hP hE hS) rfl rfl hl.1 rfl (lv_room (Nat.le_of_ble_eq_true rfl)) dX11_of_120 ⟨Nat.zero_le _, Nat.zero_le _⟩) hS (fun H locs hP hS => ?_)
    refine lv_if_eq (tgt := 138) hx hb dX11_of_123 (by decide) (fun c22 => ?_) (fun c22 => ?_)
    · have hf := c_it c22 hf
      refine lv_iconst (v := (-1 : Int32)) hx hb dX11_of_138 (by decide) ?_
      exact c_iret hx hb hr hlk hP hS rfl (c_inj hf) dX11_of_139
    · have hf := c_ie c22 hf
      refine lv_aload_n hx hb dX11_of_126 rfl (lv_at hl 0 rfl) ?_
      refine lv_iload_n hx hb dX11_of_127 rfl (lv_at hl 1 rfl) ?_
      refine lv_iload_n hx hb dX11_of_128 rfl (lv_at hl 2 rfl) ?_
      refine lv_bipush (v := (10 : Int32)) hx hb dX11_of_129 (by decide) ?_
      refine lv_isub hx hb dX11_of_131 ?_
      obtain ⟨g24, r25, hc23, hf⟩ := c_b2E hf
      refine c_goi (va_runV (As := [.int a1, .int (a2 - (10 : Int32))]) (rest := []) ⟨hx, hb, hml, hown, hts⟩ (kX11_saysNow hD hc23) (cwV 2 hts gX11_of_X11_saysNow rfl rfl rfl (by decide +kernel) ⟨Nat.le_of_ble_eq_true rfl, Nat.le_of_ble_eq_true rfl⟩) (c_preV hK hP hE hS tC0 rfl) rfl rfl hl.1 rfl (lv_room (Nat.le_of_ble_eq_true rfl)) dX11_of_132 ⟨Nat.zero_le _, Nat.zero_le _⟩) hS (fun H locs hP hS => ?_)
      refine lv_goto (tgt := 139) hx hb dX11_of_135 (by decide) ?_
      exact c_iret hx hb hr hlk hP hS rfl (c_inj hf) dX11_of_139
  · have hf := c_it c3 hf
    refine lv_iconst (v := (-1 : Int32)) hx hb dX11_of_8 (by decide) ?_
    exact c_iret hx hb hr hlk hP hS rfl (c_inj hf) dX11_of_9
theorem i_X11_takeTo_X7 : ∀ w ∈ u_ws RX7 TX7 17, w ∈ wsX11_takeTo := c_inP [90, 91, 92, 93, 94, 95, 96, 97, 98, 99, 100, 101, 102, 103, 104, 105, 106] (by decide +kernel)
theorem dX11_takeTo_0 : decode cX11_takeTo 0 = .ok (.aload_n 0, 1) := by decide +kernel
theorem dX11_takeTo_1 : decode cX11_takeTo 1 = .ok (.aload_n 1, 1) := by decide +kernel
theorem dX11_takeTo_2 : decode cX11_takeTo 2 = .ok (.iload_n 2, 1) := by decide +kernel
theorem dX11_takeTo_3 : decode cX11_takeTo 3 = .ok (.aload_n 1, 1) := by decide +kernel
theorem dX11_takeTo_4 : decode cX11_takeTo 4 = .ok (.getfield 123, 3) := by decide +kernel
theorem dX11_takeTo_7 : decode cX11_takeTo 7 = .ok (.iload_n 2, 1) := by decide +kernel
theorem dX11_takeTo_8 : decode cX11_takeTo 8 = .ok (.iaload, 1) := by decide +kernel
theorem dX11_takeTo_9 : decode cX11_takeTo 9 = .ok (.aload_n 1, 1) := by decide +kernel
theorem dX11_takeTo_10 : decode cX11_takeTo 10 = .ok (.getfield 126, 3) := by decide +kernel
theorem dX11_takeTo_13 : decode cX11_takeTo 13 = .ok (.iload_n 2, 1) := by decide +kernel
theorem dX11_takeTo_14 : decode cX11_takeTo 14 = .ok (.iaload, 1) := by decide +kernel
theorem dX11_takeTo_15 : decode cX11_takeTo 15 = .ok (.iload_n 3, 1) := by decide +kernel
theorem dX11_takeTo_16 : decode cX11_takeTo 16 = .ok (.invokevirtual 228, 3) := by decide +kernel
theorem dX11_takeTo_19 : decode cX11_takeTo 19 = .ok (.istore 4, 2) := by decide +kernel
theorem dX11_takeTo_21 : decode cX11_takeTo 21 = .ok (.iload 4, 2) := by decide +kernel
theorem dX11_takeTo_23 : decode cX11_takeTo 23 = .ok (.bipush (-5), 2) := by decide +kernel
theorem dX11_takeTo_25 : decode cX11_takeTo 25 = .ok (.if_icmp .eq 18, 3) := by decide +kernel
theorem dX11_takeTo_28 : decode cX11_takeTo 28 = .ok (.aload_n 1, 1) := by decide +kernel
theorem dX11_takeTo_29 : decode cX11_takeTo 29 = .ok (.getfield 149, 3) := by decide +kernel
theorem dX11_takeTo_32 : decode cX11_takeTo 32 = .ok (.iload_n 3, 1) := by decide +kernel
theorem dX11_takeTo_33 : decode cX11_takeTo 33 = .ok (.iload 4, 2) := by decide +kernel
theorem dX11_takeTo_35 : decode cX11_takeTo 35 = .ok (.iastore, 1) := by decide +kernel
theorem dX11_takeTo_36 : decode cX11_takeTo 36 = .ok (.aload_n 1, 1) := by decide +kernel
theorem dX11_takeTo_37 : decode cX11_takeTo 37 = .ok (.getfield 152, 3) := by decide +kernel
theorem dX11_takeTo_40 : decode cX11_takeTo 40 = .ok (.iload_n 3, 1) := by decide +kernel
theorem dX11_takeTo_41 : decode cX11_takeTo 41 = .ok (.iload_n 2, 1) := by decide +kernel
theorem dX11_takeTo_42 : decode cX11_takeTo 42 = .ok (.iastore, 1) := by decide +kernel
theorem dX11_takeTo_43 : decode cX11_takeTo 43 = .ok (.iload 4, 2) := by decide +kernel
theorem dX11_takeTo_45 : decode cX11_takeTo 45 = .ok (.ireturn, 1) := by decide +kernel
set_option maxRecDepth 20000 in
theorem ggX11_takeTo_X11_says : GoodIn wsX11_takeTo wsX11_says := goodIn_r _ [9, 10, 11, 12, 13, 14, 15, 16, 17, 18, 19, 20, 8, 21, 22, 23, 24, 25, 26, 27, 28, 29, 30, 31, 32, 33, 34, 35, 36, 37, 38, 39, 40, 41, 42, 43, 44, 45, 46, 47, 48, 49, 50, 51, 52, 53, 54, 55, 56, 57, 58, 59, 60, 61, 62, 63, 64, 65, 66, 67, 68, 69, 70, 71, 72, 73, 74, 75, 76, 77, 78, 79, 80, 81, 82, 83, 84, 85, 86, 87, 88, 89, 107, 108, 109, 110, 111, 112, 113, 114, 115, 116, 117, 118, 119, 120, 121, 122, 123, 124, 125, 90, 91, 92, 93, 94, 95, 96, 97, 98, 99, 100, 101, 102, 103, 104, 105, 106, 126, 127, 128, 129, 130, 131, 132, 133] (by decide +kernel) (by decide +kernel)
set_option maxRecDepth 20000 in
theorem gX11_takeTo_X11_says : GoodIn wsX11_takeTo (wsV RX11 228 RX11 yX11_says wsX11_says) := goodIn_app (goodIn_of _ (by decide +kernel)) ggX11_takeTo_X11_says
def fX11_takeTo (g : c_G) (a1 : Nat) (a2 : Int32) (a3 : Int32) : Option (c_G × Int32) :=
  if c_isS a1 = true then (if c_in (a2) (6) = true then c_b2 (fX11_says g a1 a2 ((g.1 (a1 + 6) (a2).toNatClampNeg)) ((g.1 (a1 + 7) (a2).toNatClampNeg)) a3) fun g3 r4 => if r4 = (-5 : Int32) then (some (g3, r4)) else (if c_in (a3) (6) = true then c_let (c_si g3 (a1 + 2) (a3).toNatClampNeg r4) fun g7 => c_let (c_si g7 (a1 + 3) (a3).toNatClampNeg a2) fun g8 => some (g8, r4) else none) else none) else none
set_option maxRecDepth 100000 in
set_option maxHeartbeats 4000000 in
theorem kX11_takeTo {l : Launch} {D : va_G} {tc : Nat → ClassId} {ad : Nat → Nat} {A : Nat → Prop} {E : (Nat → Nat) × (Nat → Nat) × Nat} (hD : c_D A ad TC) {a1 : Nat} {a2 : Int32} {a3 : Int32} {g g' : c_G} {r : Int32} (hf : fX11_takeTo g a1 a2 a3 = some (g', r)) : c_Mi l yX11_takeTo wsX11_takeTo (c_rm 4) D tc ad A E TC ([.ref (ad 0), .ref (ad a1), .int a2, .int a3] : List Value) g g' r := by
  refine c_ofW (bytes := cX11_takeTo) (maxL := 5) (ret := (some .int)) (by decide) rfl (Nat.le_of_ble_eq_true rfl) ?_
  intro p e s m below meth c ls C hP hS hl
  unfold fX11_takeTo at hf
  obtain ⟨hq_a1, hf⟩ := c_gd hf
  obtain ⟨hx, hb, hr, hml, hts, hown, hlk, hK, hE⟩ := id C
  obtain ⟨fa1_0, fa1_1, fa1_2, fa1_3, fa1_4, fa1_5, fa1_6, fa1_7, fa1_8, fa1_9, fa1_10, fa1_11, fa1_12, fa1_13⟩ := c_isSE hq_a1
  have hl : lv_has ls 5 [(0, .ref (ad 0)), (1, .ref (ad a1)), (2, .int a2), (3, .int a3)] := hl
  refine lv_aload_n hx hb dX11_takeTo_0 rfl (lv_at hl 0 rfl) ?_
  refine lv_aload_n hx hb dX11_takeTo_1 rfl (lv_at hl 1 rfl) ?_
  refine lv_iload_n hx hb dX11_takeTo_2 rfl (lv_at hl 2 rfl) ?_
  refine lv_aload_n hx hb dX11_takeTo_3 rfl (lv_at hl 1 rfl) ?_
  refine c_get hx hb hts i_X11_takeTo_X7 hown hK hP a1 fa1_0 rfl 8 (by decide) (hts _ (List.mem_of_getElem? (i := 1) rfl)) (fun _ h9 => h9) rfl (v := .ref (ad (a1 + 6))) rfl dX11_takeTo_4 ?_
  refine lv_iload_n hx hb dX11_takeTo_7 rfl (lv_at hl 2 rfl) ?_
  obtain ⟨hi1, hf⟩ := c_gd hf
  refine c_iald (j := (a2).toNatClampNeg) hx hb hK hP (a1 + 6) fa1_6 rfl (c_inV hi1) dX11_takeTo_8 ?_
  refine lv_aload_n hx hb dX11_takeTo_9 rfl (lv_at hl 1 rfl) ?_
  refine c_get hx hb hts i_X11_takeTo_X7 hown hK hP a1 fa1_0 rfl 9 (by decide) (hts _ (List.mem_of_getElem? (i := 2) rfl)) (fun _ h9 => h9) rfl (v := .ref (ad (a1 + 7))) rfl dX11_takeTo_10 ?_
  refine lv_iload_n hx hb dX11_takeTo_13 rfl (lv_at hl 2 rfl) ?_
  refine c_iald (j := (a2).toNatClampNeg) hx hb hK hP (a1 + 7) fa1_7 rfl (c_inV hi1) dX11_takeTo_14 ?_
  refine lv_iload_n hx hb dX11_takeTo_15 rfl (lv_at hl 3 rfl) ?_
  obtain ⟨g3, r4, hc2, hf⟩ := c_b2E hf
  refine c_goi (va_runV (As := [.ref (ad a1), .int a2, .int (g.1 (a1 + 6) (a2).toNatClampNeg), .int (g.1 (a1 + 7) (a2).toNatClampNeg), .int a3]) (rest := []) ⟨hx, hb, hml, hown, hts⟩ (kX11_says hD hc2) (cwV 5 hts gX11_takeTo_X11_says rfl rfl rfl (by decide +kernel) ⟨Nat.le_of_ble_eq_true rfl, Nat.le_of_ble_eq_true rfl⟩) (c_preV hK hP hE hS tC0 rfl) rfl rfl hl.1 rfl (lv_room (Nat.le_of_ble_eq_true rfl)) dX11_takeTo_16 ⟨Nat.zero_le _, Nat.zero_le _⟩) hS (fun H locs hP hS => ?_)
  refine lv_istore (lv' := [(4, .int r4), (0, .ref (ad 0)), (1, .ref (ad a1)), (2, .int a2), (3, .int a3)]) hx hb dX11_takeTo_19 hl (by decide) rfl (fun ls hl => ?_)
  refine lv_iload hx hb dX11_takeTo_21 (lv_at hl 0 rfl) ?_
  refine lv_bipush (v := (-5 : Int32)) hx hb dX11_takeTo_23 (by decide) ?_
  refine lv_icmp_eq (tgt := 43) hx hb dX11_takeTo_25 (by decide) (fun c5 => ?_) (fun c5 => ?_)
  · have hf := c_it c5 hf
    refine lv_iload hx hb dX11_takeTo_43 (lv_at hl 0 rfl) ?_
    exact c_iret hx hb hr hlk hP hS rfl (c_inj hf) dX11_takeTo_45
  · have hf := c_ie c5 hf
    refine lv_aload_n hx hb dX11_takeTo_28 rfl (lv_at hl 2 rfl) ?_
    refine c_get hx hb hts i_X11_takeTo_X7 hown hK hP a1 fa1_0 rfl 1 (by decide) (hts _ (List.mem_of_getElem? (i := 3) rfl)) (fun _ h9 => h9) rfl (v := .ref (ad (a1 + 2))) rfl dX11_takeTo_29 ?_
    refine lv_iload_n hx hb dX11_takeTo_32 rfl (lv_at hl 4 rfl) ?_
    refine lv_iload hx hb dX11_takeTo_33 (lv_at hl 0 rfl) ?_
    obtain ⟨hi6, hf⟩ := c_gd hf
    obtain ⟨g7, eg7, hf⟩ := c_letE hf
    refine c_iast (j := (a3).toNatClampNeg) hx hb hK hP hD hS (a1 + 2) fa1_2 rfl (c_inV hi6) eg7 dX11_takeTo_35 (fun H locs hP hS => ?_)
    refine lv_aload_n hx hb dX11_takeTo_36 rfl (lv_at hl 2 rfl) ?_
    refine c_get hx hb hts i_X11_takeTo_X7 hown hK hP a1 fa1_0 rfl 2 (by decide) (hts _ (List.mem_of_getElem? (i := 4) rfl)) (fun _ h9 => h9) rfl (v := .ref (ad (a1 + 3))) rfl dX11_takeTo_37 ?_
    refine lv_iload_n hx hb dX11_takeTo_40 rfl (lv_at hl 4 rfl) ?_
    refine lv_iload_n hx hb dX11_takeTo_41 rfl (lv_at hl 3 rfl) ?_
    obtain ⟨g8, eg8, hf⟩ := c_letE hf
    refine c_iast (j := (a3).toNatClampNeg) hx hb hK hP hD hS (a1 + 3) fa1_3 rfl (c_inV hi6) eg8 dX11_takeTo_42 (fun H locs hP hS => ?_)
    refine lv_iload hx hb dX11_takeTo_43 (lv_at hl 0 rfl) ?_
    exact c_iret hx hb hr hlk hP hS rfl (c_inj hf) dX11_takeTo_45
theorem i_X11_letGo_X7 : ∀ w ∈ u_ws RX7 TX7 17, w ∈ wsX11_letGo := c_inP [106, 107, 108, 109, 110, 111, 112, 113, 114, 115, 116, 117, 118, 119, 120, 121, 122] (by decide +kernel)
theorem dX11_letGo_0 : decode cX11_letGo 0 = .ok (.iconst 0, 1) := by decide +kernel
theorem dX11_letGo_1 : decode cX11_letGo 1 = .ok (.istore 4, 2) := by decide +kernel
theorem dX11_letGo_3 : decode cX11_letGo 3 = .ok (.iload 4, 2) := by decide +kernel
theorem dX11_letGo_5 : decode cX11_letGo 5 = .ok (.iload_n 2, 1) := by decide +kernel
theorem dX11_letGo_6 : decode cX11_letGo 6 = .ok (.if_icmp .ge 59, 3) := by decide +kernel
theorem dX11_letGo_9 : decode cX11_letGo 9 = .ok (.iconst 0, 1) := by decide +kernel
theorem dX11_letGo_10 : decode cX11_letGo 10 = .ok (.istore 5, 2) := by decide +kernel
theorem dX11_letGo_12 : decode cX11_letGo 12 = .ok (.iload 5, 2) := by decide +kernel
theorem dX11_letGo_14 : decode cX11_letGo 14 = .ok (.aload_n 1, 1) := by decide +kernel
theorem dX11_letGo_15 : decode cX11_letGo 15 = .ok (.getfield 109, 3) := by decide +kernel
theorem dX11_letGo_18 : decode cX11_letGo 18 = .ok (.if_icmp .ge 36, 3) := by decide +kernel
theorem dX11_letGo_21 : decode cX11_letGo 21 = .ok (.aload_n 1, 1) := by decide +kernel
theorem dX11_letGo_22 : decode cX11_letGo 22 = .ok (.getfield 132, 3) := by decide +kernel
theorem dX11_letGo_25 : decode cX11_letGo 25 = .ok (.iload 5, 2) := by decide +kernel
theorem dX11_letGo_27 : decode cX11_letGo 27 = .ok (.iaload, 1) := by decide +kernel
theorem dX11_letGo_28 : decode cX11_letGo 28 = .ok (.bipush (-5), 2) := by decide +kernel
theorem dX11_letGo_30 : decode cX11_letGo 30 = .ok (.if_icmp .eq 18, 3) := by decide +kernel
theorem dX11_letGo_33 : decode cX11_letGo 33 = .ok (.aload_n 0, 1) := by decide +kernel
theorem dX11_letGo_34 : decode cX11_letGo 34 = .ok (.aload_n 1, 1) := by decide +kernel
theorem dX11_letGo_35 : decode cX11_letGo 35 = .ok (.iload 5, 2) := by decide +kernel
theorem dX11_letGo_37 : decode cX11_letGo 37 = .ok (.aload_n 1, 1) := by decide +kernel
theorem dX11_letGo_38 : decode cX11_letGo 38 = .ok (.getfield 132, 3) := by decide +kernel
theorem dX11_letGo_41 : decode cX11_letGo 41 = .ok (.iload 5, 2) := by decide +kernel
theorem dX11_letGo_43 : decode cX11_letGo 43 = .ok (.iaload, 1) := by decide +kernel
theorem dX11_letGo_44 : decode cX11_letGo 44 = .ok (.invokevirtual 169, 3) := by decide +kernel
theorem dX11_letGo_47 : decode cX11_letGo 47 = .ok (.pop, 1) := by decide +kernel
theorem dX11_letGo_48 : decode cX11_letGo 48 = .ok (.iinc 5 1, 3) := by decide +kernel
theorem dX11_letGo_51 : decode cX11_letGo 51 = .ok (.goto (-39), 3) := by decide +kernel
theorem dX11_letGo_54 : decode cX11_letGo 54 = .ok (.aload_n 1, 1) := by decide +kernel
theorem dX11_letGo_55 : decode cX11_letGo 55 = .ok (.iload_n 3, 1) := by decide +kernel
theorem dX11_letGo_56 : decode cX11_letGo 56 = .ok (.invokevirtual 336, 3) := by decide +kernel
theorem dX11_letGo_59 : decode cX11_letGo 59 = .ok (.iinc 4 1, 3) := by decide +kernel
theorem dX11_letGo_62 : decode cX11_letGo 62 = .ok (.goto (-59), 3) := by decide +kernel
theorem dX11_letGo_65 : decode cX11_letGo 65 = .ok (.return_, 1) := by decide +kernel
set_option maxRecDepth 20000 in
theorem ggX11_letGo_X11_takeTo : GoodIn wsX11_letGo wsX11_takeTo := goodIn_r _ [7, 8, 9, 10, 11, 12, 13, 14, 6, 15, 16, 17, 18, 19, 20, 21, 22, 23, 24, 25, 26, 27, 28, 29, 30, 31, 32, 33, 34, 35, 36, 37, 38, 39, 40, 41, 42, 43, 44, 45, 46, 47, 48, 49, 50, 51, 52, 53, 54, 55, 56, 57, 58, 59, 60, 61, 62, 63, 64, 65, 66, 67, 68, 69, 70, 71, 72, 73, 74, 75, 76, 77, 78, 79, 80, 81, 82, 83, 84, 85, 86, 87, 88, 89, 90, 91, 92, 93, 94, 95, 106, 107, 108, 109, 110, 111, 112, 113, 114, 115, 116, 117, 118, 119, 120, 121, 122, 123, 124, 125, 126, 127, 128, 129, 130, 131, 132, 133, 134, 135, 136, 137, 138, 139, 140, 141, 142, 143, 144, 145, 146, 147, 148, 149] (by decide +kernel) (by decide +kernel)
set_option maxRecDepth 20000 in
theorem gX11_letGo_X11_takeTo : GoodIn wsX11_letGo (wsV RX11 169 RX11 yX11_takeTo wsX11_takeTo) := goodIn_app (goodIn_of _ (by decide +kernel)) ggX11_letGo_X11_takeTo
set_option maxRecDepth 20000 in
theorem ggX11_letGo_X7_grow : GoodIn wsX11_letGo wsX7_grow := goodIn_r _ [99, 100, 101, 102, 103, 104, 105, 106, 107, 108, 109, 110, 111, 112, 113, 114, 115, 116, 117, 118, 119, 120, 121, 122, 142, 143, 144, 145, 146, 147, 148, 149] (by decide +kernel) (by decide +kernel)
set_option maxRecDepth 20000 in
theorem gX11_letGo_X7_grow : GoodIn wsX11_letGo (wsV RX11 336 RX7 yX7_grow wsX7_grow) := goodIn_app (goodIn_of _ (by decide +kernel)) ggX11_letGo_X7_grow
def fX11_letGo_48 (rec12 : Int32 → Int32 → Int32 → Int32 → c_G → Option (c_G)) (a1 : Nat) (a2 : Int32) (a3 : Int32) (x2 : Int32) (x3 : Int32) (x4 : Int32) (x5 : Int32) (g : c_G) : Option (c_G) :=
  c_let (x5 + (1 : Int32)) fun v48001 => rec12 x2 x3 x4 v48001 g
set_option maxRecDepth 100000 in
set_option maxHeartbeats 4000000 in
theorem jX11_letGo_48 {p : Program} {l : Launch} {e : Env} {s : State} {m : MethodId} {below : List Frame} {meth : Method} {c : Code} {D : va_G} {tc : Nat → ClassId} {ad : Nat → Nat} {A : Nat → Prop} {E : (Nat → Nat) × (Nat → Nat) × Nat} {a1 : Nat} {a2 : Int32} {a3 : Int32} {g' : c_G} (C : c_C p s m meth c D tc A E RX11 wsX11_letGo cX11_letGo 6 none ([.ref (ad 0), .ref (ad a1), .int a2, .int a3] : List Value).toArray) (hD : c_D A ad TC) (hq_a1 : c_isS a1 = true) {rec12 : Int32 → Int32 → Int32 → Int32 → c_G → Option (c_G)} (hrec12 : ∀ (x2 : Int32) (x3 : Int32) (x4 : Int32) (x5 : Int32) (g : c_G), rec12 x2 x3 x4 x5 g = some g' → ∀ (H : Heap) (locs : List Loc), va_P D vwCl (c_ws tc ad TC g) H → va_S A s.heap H locs → ∀ ls : Array Slot, lv_has ls 6 [(0, .ref (ad 0)), (1, .ref (ad a1)), (2, .int x2), (3, .int x3), (4, .int x4), (5, .int x5)] → W p l e (c_rm 5) s m ([.ref (ad 0), .ref (ad a1), .int a2, .int a3] : List Value).toArray below meth c H locs 0 0 (MQ below (va_Qv (fun (_ : Unit) => True) (fun _ t => va_P D vwCl (c_ws tc ad TC g') t.heap) A) ([.ref (ad 0), .ref (ad a1), .int a2, .int a3] : List Value).toArray s 0 0 A) (F0 m 12 ls [])) : ∀ (x2 : Int32) (x3 : Int32) (x4 : Int32) (x5 : Int32) (g : c_G), fX11_letGo_48 rec12 a1 a2 a3 x2 x3 x4 x5 g = some g' → ∀ (H : Heap) (locs : List Loc), va_P D vwCl (c_ws tc ad TC g) H → va_S A s.heap H locs → ∀ ls : Array Slot, lv_has ls 6 [(0, .ref (ad 0)), (1, .ref (ad a1)), (2, .int x2), (3, .int x3), (4, .int x4), (5, .int x5)] → W p l e (c_rm 5) s m ([.ref (ad 0), .ref (ad a1), .int a2, .int a3] : List Value).toArray below meth c H locs 0 0 (MQ below (va_Qv (fun (_ : Unit) => True) (fun _ t => va_P D vwCl (c_ws tc ad TC g') t.heap) A) ([.ref (ad 0), .ref (ad a1), .int a2, .int a3] : List Value).toArray s 0 0 A) (F0 m 48 ls []) := by
  obtain ⟨hx, hb, hr, hml, hts, hown, hlk, hK, hE⟩ := id C
  obtain ⟨fa1_0, fa1_1, fa1_2, fa1_3, fa1_4, fa1_5, fa1_6, fa1_7, fa1_8, fa1_9, fa1_10, fa1_11, fa1_12, fa1_13⟩ := c_isSE hq_a1
  intro x2 x3 x4 x5 g hf H locs hP hS ls hl
  unfold fX11_letGo_48 at hf
  obtain ⟨v48001, ev48001, hf⟩ := c_letE hf
  refine lv_iinc (v := v48001) (lv' := [(5, .int v48001), (0, .ref (ad 0)), (1, .ref (ad a1)), (2, .int x2), (3, .int x3), (4, .int x4)]) hx hb dX11_letGo_48 hl (k := 5) rfl (by rw [ev48001]; rfl) (by decide) rfl (fun ls hl => ?_)
  refine lv_goto (tgt := 12) hx hb dX11_letGo_51 (by decide) ?_
  exact hrec12 x2 x3 x4 v48001 g hf _ _ hP hS _ (lv_sub hl [1, 2, 3, 4, 5, 0] rfl)
def fX11_letGo_12 (kk54 : Int32 → Int32 → Int32 → c_G → Option (c_G)) (a1 : Nat) (a2 : Int32) (a3 : Int32) : Nat → Int32 → Int32 → Int32 → Int32 → c_G → Option (c_G)
  | 0, _, _, _, _, _ => none
  | n + 1, x2, x3, x4, x5, g => if (g.1 a1 6) ≤ x5 then (kk54 x2 x3 x4 g) else (if c_in (x5) (6) = true then if (g.1 (a1 + 9) (x5).toNatClampNeg) = (-5 : Int32) then (fX11_letGo_48 (fX11_letGo_12 kk54 a1 a2 a3 n) a1 a2 a3 x2 x3 x4 x5 g) else (c_b2 (fX11_takeTo g a1 x5 ((g.1 (a1 + 9) (x5).toNatClampNeg))) fun g12005 r12006 => fX11_letGo_48 (fX11_letGo_12 kk54 a1 a2 a3 n) a1 a2 a3 x2 x3 x4 x5 g12005) else none)
set_option maxRecDepth 100000 in
set_option maxHeartbeats 4000000 in
theorem jX11_letGo_12 {p : Program} {l : Launch} {e : Env} {s : State} {m : MethodId} {below : List Frame} {meth : Method} {c : Code} {D : va_G} {tc : Nat → ClassId} {ad : Nat → Nat} {A : Nat → Prop} {E : (Nat → Nat) × (Nat → Nat) × Nat} {a1 : Nat} {a2 : Int32} {a3 : Int32} {g' : c_G} (C : c_C p s m meth c D tc A E RX11 wsX11_letGo cX11_letGo 6 none ([.ref (ad 0), .ref (ad a1), .int a2, .int a3] : List Value).toArray) (hD : c_D A ad TC) (hq_a1 : c_isS a1 = true) {kk54 : Int32 → Int32 → Int32 → c_G → Option (c_G)} (hkk54 : ∀ (x2 : Int32) (x3 : Int32) (x4 : Int32) (g : c_G), kk54 x2 x3 x4 g = some g' → ∀ (H : Heap) (locs : List Loc), va_P D vwCl (c_ws tc ad TC g) H → va_S A s.heap H locs → ∀ ls : Array Slot, lv_has ls 6 [(0, .ref (ad 0)), (1, .ref (ad a1)), (2, .int x2), (3, .int x3), (4, .int x4)] → W p l e (c_rm 5) s m ([.ref (ad 0), .ref (ad a1), .int a2, .int a3] : List Value).toArray below meth c H locs 0 0 (MQ below (va_Qv (fun (_ : Unit) => True) (fun _ t => va_P D vwCl (c_ws tc ad TC g') t.heap) A) ([.ref (ad 0), .ref (ad a1), .int a2, .int a3] : List Value).toArray s 0 0 A) (F0 m 54 ls [])) : ∀ (n : Nat) (x2 : Int32) (x3 : Int32) (x4 : Int32) (x5 : Int32) (g : c_G), fX11_letGo_12 kk54 a1 a2 a3 n x2 x3 x4 x5 g = some g' → ∀ (H : Heap) (locs : List Loc), va_P D vwCl (c_ws tc ad TC g) H → va_S A s.heap H locs → ∀ ls : Array Slot, lv_has ls 6 [(0, .ref (ad 0)), (1, .ref (ad a1)), (2, .int x2), (3, .int x3), (4, .int x4), (5, .int x5)] → W p l e (c_rm 5) s m ([.ref (ad 0), .ref (ad a1), .int a2, .int a3] : List Value).toArray below meth c H locs 0 0 (MQ below (va_Qv (fun (_ : Unit) => True) (fun _ t => va_P D vwCl (c_ws tc ad TC g') t.heap) A) ([.ref (ad 0), .ref (ad a1), .int a2, .int a3] : List Value).toArray s 0 0 A) (F0 m 12 ls []) := by
  obtain ⟨hx, hb, hr, hml, hts, hown, hlk, hK, hE⟩ := id C
  obtain ⟨fa1_0, fa1_1, fa1_2, fa1_3, fa1_4, fa1_5, fa1_6, fa1_7, fa1_8, fa1_9, fa1_10, fa1_11, fa1_12, fa1_13⟩ := c_isSE hq_a1
  intro n
  induction n with
  | zero =>
    intro x2 x3 x4 x5 g hf
    cases hf
  | succ n ih =>
    intro x2 x3 x4 x5 g hf H locs hP hS ls hl
    unfold fX11_letGo_12 at hf
    refine lv_iload hx hb dX11_letGo_12 (lv_at hl 5 rfl) ?_
    refine lv_aload_n hx hb dX11_letGo_14 rfl (lv_at hl 1 rfl) ?_
    refine c_get hx hb hts i_X11_letGo_X7 hown hK hP a1 fa1_0 rfl 6 (by decide) (hts _ (List.mem_of_getElem? (i := 1) rfl)) (fun _ h9 => h9) rfl (v := .int (g.1 a1 6)) rfl dX11_letGo_15 ?_
    refine lv_icmp_ge (tgt := 54) hx hb dX11_letGo_18 (by decide) (fun c12001 => ?_) (fun c12001 => ?_)
    · have hf := c_it c12001 hf
      exact hkk54 x2 x3 x4 g hf _ _ hP hS _ (lv_sub hl [0, 1, 2, 3, 4] rfl)
    · have hf := c_ie c12001 hf
      refine lv_aload_n hx hb dX11_letGo_21 rfl (lv_at hl 1 rfl) ?_
      refine c_get hx hb hts i_X11_letGo_X7 hown hK hP a1 fa1_0 rfl 11 (by decide) (hts _ (List.mem_of_getElem? (i := 2) rfl)) (fun _ h9 => h9) rfl (v := .ref (ad (a1 + 9))) rfl dX11_letGo_22 ?_
      refine lv_iload hx hb dX11_letGo_25 (lv_at hl 5 rfl) ?_
      obtain ⟨hi12002, hf⟩ := c_gd hf
      refine c_iald (j := (x5).toNatClampNeg) hx hb hK hP (a1 + 9) fa1_9 rfl (c_inV hi12002) dX11_letGo_27 ?_
      refine lv_bipush (v := (-5 : Int32)) hx hb dX11_letGo_28 (by decide) ?_
      refine lv_icmp_eq (tgt := 48) hx hb dX11_letGo_30 (by decide) (fun c12003 => ?_) (fun c12003 => ?_)
      · have hf := c_it c12003 hf
        exact jX11_letGo_48 C hD hq_a1 ih x2 x3 x4 x5 g hf _ _ hP hS _ (lv_sub hl [0, 1, 2, 3, 4, 5] rfl)
      · have hf := c_ie c12003 hf
        refine lv_aload_n hx hb dX11_letGo_33 rfl (lv_at hl 0 rfl) ?_
        refine lv_aload_n hx hb dX11_letGo_34 rfl (lv_at hl 1 rfl) ?_
        refine lv_iload hx hb dX11_letGo_35 (lv_at hl 5 rfl) ?_
        refine lv_aload_n hx hb dX11_letGo_37 rfl (lv_at hl 1 rfl) ?_
        refine c_get hx hb hts i_X11_letGo_X7 hown hK hP a1 fa1_0 rfl 11 (by decide) (hts _ (List.mem_of_getElem? (i := 2) rfl)) (fun _ h9 => h9) rfl (v := .ref (ad (a1 + 9))) rfl dX11_letGo_38 ?_
        refine lv_iload hx hb dX11_letGo_41 (lv_at hl 5 rfl) ?_
        refine c_iald (j := (x5).toNatClampNeg) hx hb hK hP (a1 + 9) fa1_9 rfl (c_inV hi12002) dX11_letGo_43 ?_
        obtain ⟨g12005, r12006, hc12004, hf⟩ := c_b2E hf
        refine c_goi (va_runV (As := [.ref (ad a1), .int x5, .int (g.1 (a1 + 9) (x5).toNatClampNeg)]) (rest := []) ⟨hx, hb, hml, hown, hts⟩ (kX11_takeTo hD hc12004) (cwV 3 hts gX11_letGo_X11_takeTo rfl rfl rfl (by decide +kernel) ⟨Nat.le_of_ble_eq_true rfl, Nat.le_of_ble_eq_true rfl⟩) (c_preV hK hP hE hS tC0 rfl) rfl rfl hl.1 rfl (lv_room (Nat.le_of_ble_eq_true rfl)) dX11_letGo_44 ⟨Nat.zero_le _, Nat.zero_le _⟩) hS (fun H locs hP hS => ?_)
        refine lv_pop hx hb dX11_letGo_47 rfl ?_
        exact jX11_letGo_48 C hD hq_a1 ih x2 x3 x4 x5 g12005 hf _ _ hP hS _ (lv_sub hl [0, 1, 2, 3, 4, 5] rfl)
def fX11_letGo_54 (rec3 : Int32 → Int32 → Int32 → c_G → Option (c_G)) (a1 : Nat) (a2 : Int32) (a3 : Int32) (x2 : Int32) (x3 : Int32) (x4 : Int32) (g : c_G) : Option (c_G) :=
  (fX7_grow g a1 x3).bind fun g54002 => c_let (x4 + (1 : Int32)) fun v54003 => rec3 x2 x3 v54003 g54002
set_option maxRecDepth 100000 in
set_option maxHeartbeats 4000000 in
theorem jX11_letGo_54 {p : Program} {l : Launch} {e : Env} {s : State} {m : MethodId} {below : List Frame} {meth : Method} {c : Code} {D : va_G} {tc : Nat → ClassId} {ad : Nat → Nat} {A : Nat → Prop} {E : (Nat → Nat) × (Nat → Nat) × Nat} {a1 : Nat} {a2 : Int32} {a3 : Int32} {g' : c_G} (C : c_C p s m meth c D tc A E RX11 wsX11_letGo cX11_letGo 6 none ([.ref (ad 0), .ref (ad a1), .int a2, .int a3] : List Value).toArray) (hD : c_D A ad TC) (hq_a1 : c_isS a1 = true) {rec3 : Int32 → Int32 → Int32 → c_G → Option (c_G)} (hrec3 : ∀ (x2 : Int32) (x3 : Int32) (x4 : Int32) (g : c_G), rec3 x2 x3 x4 g = some g' → ∀ (H : Heap) (locs : List Loc), va_P D vwCl (c_ws tc ad TC g) H → va_S A s.heap H locs → ∀ ls : Array Slot, lv_has ls 6 [(0, .ref (ad 0)), (1, .ref (ad a1)), (2, .int x2), (3, .int x3), (4, .int x4)] → W p l e (c_rm 5) s m ([.ref (ad 0), .ref (ad a1), .int a2, .int a3] : List Value).toArray below meth c H locs 0 0 (MQ below (va_Qv (fun (_ : Unit) => True) (fun _ t => va_P D vwCl (c_ws tc ad TC g') t.heap) A) ([.ref (ad 0), .ref (ad a1), .int a2, .int a3] : List Value).toArray s 0 0 A) (F0 m 3 ls [])) : ∀ (x2 : Int32) (x3 : Int32) (x4 : Int32) (g : c_G), fX11_letGo_54 rec3 a1 a2 a3 x2 x3 x4 g = some g' → ∀ (H : Heap) (locs : List Loc), va_P D vwCl (c_ws tc ad TC g) H → va_S A s.heap H locs → ∀ ls : Array Slot, lv_has ls 6 [(0, .ref (ad 0)), (1, .ref (ad a1)), (2, .int x2), (3, .int x3), (4, .int x4)] → W p l e (c_rm 5) s m ([.ref (ad 0), .ref (ad a1), .int a2, .int a3] : List Value).toArray below meth c H locs 0 0 (MQ below (va_Qv (fun (_ : Unit) => True) (fun _ t => va_P D vwCl (c_ws tc ad TC g') t.heap) A) ([.ref (ad 0), .ref (ad a1), .int a2, .int a3] : List Value).toArray s 0 0 A) (F0 m 54 ls []) := by
  obtain ⟨hx, hb, hr, hml, hts, hown, hlk, hK, hE⟩ := id C
  obtain ⟨fa1_0, fa1_1, fa1_2, fa1_3, fa1_4, fa1_5, fa1_6, fa1_7, fa1_8, fa1_9, fa1_10, fa1_11, fa1_12, fa1_13⟩ := c_isSE hq_a1
  intro x2 x3 x4 g hf H locs hP hS ls hl
  unfold fX11_letGo_54 at hf
  refine lv_aload_n hx hb dX11_letGo_54 rfl (lv_at hl 1 rfl) ?_
  refine lv_iload_n hx hb dX11_letGo_55 rfl (lv_at hl 3 rfl) ?_
  obtain ⟨g54002, hc54001, hf⟩ := c_bd hf
  refine c_gov (va_runV (As := [.int x3]) (rest := []) ⟨hx, hb, hml, hown, hts⟩ (kX7_grow hD hc54001) (cwV 1 hts gX11_letGo_X7_grow rfl rfl rfl (by decide +kernel) ⟨Nat.le_of_ble_eq_true rfl, Nat.le_of_ble_eq_true rfl⟩) (c_preV hK hP hE hS fa1_0 rfl) rfl rfl hl.1 rfl (lv_room (Nat.le_of_ble_eq_true rfl)) dX11_letGo_56 ⟨Nat.zero_le _, Nat.zero_le _⟩) hS (fun H locs hP hS => ?_)
  obtain ⟨v54003, ev54003, hf⟩ := c_letE hf
  refine lv_iinc (v := v54003) (lv' := [(4, .int v54003), (0, .ref (ad 0)), (1, .ref (ad a1)), (2, .int x2), (3, .int x3)]) hx hb dX11_letGo_59 hl (k := 4) rfl (by rw [ev54003]; rfl) (by decide) rfl (fun ls hl => ?_)
  refine lv_goto (tgt := 3) hx hb dX11_letGo_62 (by decide) ?_
  exact hrec3 x2 x3 v54003 g54002 hf _ _ hP hS _ (lv_sub hl [1, 2, 3, 4, 0] rfl)
def fX11_letGo_3  (a1 : Nat) (a2 : Int32) (a3 : Int32) : Nat → Int32 → Int32 → Int32 → c_G → Option (c_G)
  | 0, _, _, _, _ => none
  | n + 1, x2, x3, x4, g => if x2 ≤ x4 then (some g) else (fX11_letGo_12 (fX11_letGo_54 (fX11_letGo_3 a1 a2 a3 n) a1 a2 a3) a1 a2 a3 c_F x2 x3 x4 ((0 : Int32)) g)
set_option maxRecDepth 100000 in
set_option maxHeartbeats 4000000 in
theorem jX11_letGo_3 {p : Program} {l : Launch} {e : Env} {s : State} {m : MethodId} {below : List Frame} {meth : Method} {c : Code} {D : va_G} {tc : Nat → ClassId} {ad : Nat → Nat} {A : Nat → Prop} {E : (Nat → Nat) × (Nat → Nat) × Nat} {a1 : Nat} {a2 : Int32} {a3 : Int32} {g' : c_G} (C : c_C p s m meth c D tc A E RX11 wsX11_letGo cX11_letGo 6 none ([.ref (ad 0), .ref (ad a1), .int a2, .int a3] : List Value).toArray) (hD : c_D A ad TC) (hq_a1 : c_isS a1 = true)  : ∀ (n : Nat) (x2 : Int32) (x3 : Int32) (x4 : Int32) (g : c_G), fX11_letGo_3 a1 a2 a3 n x2 x3 x4 g = some g' → ∀ (H : Heap) (locs : List Loc), va_P D vwCl (c_ws tc ad TC g) H → va_S A s.heap H locs → ∀ ls : Array Slot, lv_has ls 6 [(0, .ref (ad 0)), (1, .ref (ad a1)), (2, .int x2), (3, .int x3), (4, .int x4)] → W p l e (c_rm 5) s m ([.ref (ad 0), .ref (ad a1), .int a2, .int a3] : List Value).toArray below meth c H locs 0 0 (MQ below (va_Qv (fun (_ : Unit) => True) (fun _ t => va_P D vwCl (c_ws tc ad TC g') t.heap) A) ([.ref (ad 0), .ref (ad a1), .int a2, .int a3] : List Value).toArray s 0 0 A) (F0 m 3 ls []) := by
  obtain ⟨hx, hb, hr, hml, hts, hown, hlk, hK, hE⟩ := id C
  obtain ⟨fa1_0, fa1_1, fa1_2, fa1_3, fa1_4, fa1_5, fa1_6, fa1_7, fa1_8, fa1_9, fa1_10, fa1_11, fa1_12, fa1_13⟩ := c_isSE hq_a1
  intro n
  induction n with
  | zero =>
    intro x2 x3 x4 g hf
    cases hf
  | succ n ih =>
    intro x2 x3 x4 g hf H locs hP hS ls hl
    unfold fX11_letGo_3 at hf
    refine lv_iload hx hb dX11_letGo_3 (lv_at hl 4 rfl) ?_
    refine lv_iload_n hx hb dX11_letGo_5 rfl (lv_at hl 2 rfl) ?_
    refine lv_icmp_ge (tgt := 65) hx hb dX11_letGo_6 (by decide) (fun c3001 => ?_) (fun c3001 => ?_)
    · have hf := c_it c3001 hf
      exact c_vret hx hb hr hlk hP hS (Option.some.inj hf) dX11_letGo_65
    · have hf := c_ie c3001 hf
      refine lv_iconst (v := (0 : Int32)) hx hb dX11_letGo_9 (by decide) ?_
      refine lv_istore (lv' := [(5, .int (0 : Int32)), (0, .ref (ad 0)), (1, .ref (ad a1)), (2, .int x2), (3, .int x3), (4, .int x4)]) hx hb dX11_letGo_10 hl (by decide) rfl (fun ls hl => ?_)
      exact jX11_letGo_12 C hD hq_a1 (jX11_letGo_54 C hD hq_a1 ih) c_F x2 x3 x4 ((0 : Int32)) g hf _ _ hP hS _ (lv_sub hl [1, 2, 3, 4, 5, 0] rfl)
def fX11_letGo (g : c_G) (a1 : Nat) (a2 : Int32) (a3 : Int32) : Option (c_G) :=
  if c_isS a1 = true then (fX11_letGo_3 a1 a2 a3 c_F a2 a3 ((0 : Int32)) g) else none
set_option maxRecDepth 100000 in
set_option maxHeartbeats 4000000 in
theorem kX11_letGo {l : Launch} {D : va_G} {tc : Nat → ClassId} {ad : Nat → Nat} {A : Nat → Prop} {E : (Nat → Nat) × (Nat → Nat) × Nat} (hD : c_D A ad TC) {a1 : Nat} {a2 : Int32} {a3 : Int32} {g g' : c_G} (hf : fX11_letGo g a1 a2 a3 = some g') : c_Mv l yX11_letGo wsX11_letGo (c_rm 5) D tc ad A E TC ([.ref (ad 0), .ref (ad a1), .int a2, .int a3] : List Value) g g' := by
  refine c_ofW (bytes := cX11_letGo) (maxL := 6) (ret := none) (by decide) rfl (Nat.le_of_ble_eq_true rfl) ?_
  intro p e s m below meth c ls C hP hS hl
  unfold fX11_letGo at hf
  obtain ⟨hq_a1, hf⟩ := c_gd hf
  obtain ⟨hx, hb, hr, hml, hts, hown, hlk, hK, hE⟩ := id C
  obtain ⟨fa1_0, fa1_1, fa1_2, fa1_3, fa1_4, fa1_5, fa1_6, fa1_7, fa1_8, fa1_9, fa1_10, fa1_11, fa1_12, fa1_13⟩ := c_isSE hq_a1
  have hl : lv_has ls 6 [(0, .ref (ad 0)), (1, .ref (ad a1)), (2, .int a2), (3, .int a3)] := hl
  refine lv_iconst (v := (0 : Int32)) hx hb dX11_letGo_0 (by decide) ?_
  refine lv_istore (lv' := [(4, .int (0 : Int32)), (0, .ref (ad 0)), (1, .ref (ad a1)), (2, .int a2), (3, .int a3)]) hx hb dX11_letGo_1 hl (by decide) rfl (fun ls hl => ?_)
  exact jX11_letGo_3 C hD hq_a1 c_F a2 a3 ((0 : Int32)) g hf _ _ hP hS _ (lv_sub hl [1, 2, 3, 4, 0] rfl)
theorem i_X11_sundaysTillNamed_X7 : ∀ w ∈ u_ws RX7 TX7 17, w ∈ wsX11_sundaysTillNamed := c_inP [160, 161, 162, 163, 164, 165, 166, 167, 168, 169, 170, 171, 172, 173, 174, 175, 176] (by decide +kernel)
theorem i_X11_sundaysTillNamed_X11 : ∀ w ∈ u_ws RX11 TX11 19, w ∈ wsX11_sundaysTillNamed := c_inP [141, 142, 143, 144, 145, 146, 147, 148, 149, 150, 151, 152, 153, 154, 155, 156, 157, 158, 159] (by decide +kernel)
theorem dX11_sundaysTillNamed_0 : decode cX11_sundaysTillNamed 0 = .ok (.aload_n 0, 1) := by decide +kernel
theorem dX11_sundaysTillNamed_1 : decode cX11_sundaysTillNamed 1 = .ok (.getfield 93, 3) := by decide +kernel
theorem dX11_sundaysTillNamed_4 : decode cX11_sundaysTillNamed 4 = .ok (.aload_n 0, 1) := by decide +kernel
theorem dX11_sundaysTillNamed_5 : decode cX11_sundaysTillNamed 5 = .ok (.getfield 86, 3) := by decide +kernel
theorem dX11_sundaysTillNamed_8 : decode cX11_sundaysTillNamed 8 = .ok (.invokevirtual 223, 3) := by decide +kernel
theorem dX11_sundaysTillNamed_11 : decode cX11_sundaysTillNamed 11 = .ok (.iconst 0, 1) := by decide +kernel
theorem dX11_sundaysTillNamed_12 : decode cX11_sundaysTillNamed 12 = .ok (.istore_n 2, 1) := by decide +kernel
theorem dX11_sundaysTillNamed_13 : decode cX11_sundaysTillNamed 13 = .ok (.iload_n 2, 1) := by decide +kernel
theorem dX11_sundaysTillNamed_14 : decode cX11_sundaysTillNamed 14 = .ok (.bipush 60, 2) := by decide +kernel
theorem dX11_sundaysTillNamed_16 : decode cX11_sundaysTillNamed 16 = .ok (.if_icmp .ge 34, 3) := by decide +kernel
theorem dX11_sundaysTillNamed_19 : decode cX11_sundaysTillNamed 19 = .ok (.aload_n 0, 1) := by decide +kernel
theorem dX11_sundaysTillNamed_20 : decode cX11_sundaysTillNamed 20 = .ok (.getfield 93, 3) := by decide +kernel
theorem dX11_sundaysTillNamed_23 : decode cX11_sundaysTillNamed 23 = .ok (.getfield 149, 3) := by decide +kernel
theorem dX11_sundaysTillNamed_26 : decode cX11_sundaysTillNamed 26 = .ok (.iload_n 1, 1) := by decide +kernel
theorem dX11_sundaysTillNamed_27 : decode cX11_sundaysTillNamed 27 = .ok (.iaload, 1) := by decide +kernel
theorem dX11_sundaysTillNamed_28 : decode cX11_sundaysTillNamed 28 = .ok (.bipush (-5), 2) := by decide +kernel
theorem dX11_sundaysTillNamed_30 : decode cX11_sundaysTillNamed 30 = .ok (.if_icmp .ne 20, 3) := by decide +kernel
theorem dX11_sundaysTillNamed_33 : decode cX11_sundaysTillNamed 33 = .ok (.aload_n 0, 1) := by decide +kernel
theorem dX11_sundaysTillNamed_34 : decode cX11_sundaysTillNamed 34 = .ok (.aload_n 0, 1) := by decide +kernel
theorem dX11_sundaysTillNamed_35 : decode cX11_sundaysTillNamed 35 = .ok (.getfield 93, 3) := by decide +kernel
theorem dX11_sundaysTillNamed_38 : decode cX11_sundaysTillNamed 38 = .ok (.iconst 1, 1) := by decide +kernel
theorem dX11_sundaysTillNamed_39 : decode cX11_sundaysTillNamed 39 = .ok (.ldc 227, 2) := by decide +kernel
theorem dX11_sundaysTillNamed_41 : decode cX11_sundaysTillNamed 41 = .ok (.invokevirtual 219, 3) := by decide +kernel
theorem dX11_sundaysTillNamed_44 : decode cX11_sundaysTillNamed 44 = .ok (.iinc 2 1, 3) := by decide +kernel
theorem dX11_sundaysTillNamed_47 : decode cX11_sundaysTillNamed 47 = .ok (.goto (-34), 3) := by decide +kernel
theorem dX11_sundaysTillNamed_50 : decode cX11_sundaysTillNamed 50 = .ok (.aload_n 0, 1) := by decide +kernel
theorem dX11_sundaysTillNamed_51 : decode cX11_sundaysTillNamed 51 = .ok (.getfield 93, 3) := by decide +kernel
theorem dX11_sundaysTillNamed_54 : decode cX11_sundaysTillNamed 54 = .ok (.getfield 149, 3) := by decide +kernel
theorem dX11_sundaysTillNamed_57 : decode cX11_sundaysTillNamed 57 = .ok (.iload_n 1, 1) := by decide +kernel
theorem dX11_sundaysTillNamed_58 : decode cX11_sundaysTillNamed 58 = .ok (.iaload, 1) := by decide +kernel
theorem dX11_sundaysTillNamed_59 : decode cX11_sundaysTillNamed 59 = .ok (.bipush (-5), 2) := by decide +kernel
theorem dX11_sundaysTillNamed_61 : decode cX11_sundaysTillNamed 61 = .ok (.if_icmp .ne 8, 3) := by decide +kernel
theorem dX11_sundaysTillNamed_64 : decode cX11_sundaysTillNamed 64 = .ok (.bipush (-5), 2) := by decide +kernel
theorem dX11_sundaysTillNamed_66 : decode cX11_sundaysTillNamed 66 = .ok (.goto 18, 3) := by decide +kernel
theorem dX11_sundaysTillNamed_69 : decode cX11_sundaysTillNamed 69 = .ok (.aload_n 0, 1) := by decide +kernel
theorem dX11_sundaysTillNamed_70 : decode cX11_sundaysTillNamed 70 = .ok (.getfield 93, 3) := by decide +kernel
theorem dX11_sundaysTillNamed_73 : decode cX11_sundaysTillNamed 73 = .ok (.getfield 197, 3) := by decide +kernel
theorem dX11_sundaysTillNamed_76 : decode cX11_sundaysTillNamed 76 = .ok (.aload_n 0, 1) := by decide +kernel
theorem dX11_sundaysTillNamed_77 : decode cX11_sundaysTillNamed 77 = .ok (.getfield 86, 3) := by decide +kernel
theorem dX11_sundaysTillNamed_80 : decode cX11_sundaysTillNamed 80 = .ok (.getfield 197, 3) := by decide +kernel
theorem dX11_sundaysTillNamed_83 : decode cX11_sundaysTillNamed 83 = .ok (.isub, 1) := by decide +kernel
theorem dX11_sundaysTillNamed_84 : decode cX11_sundaysTillNamed 84 = .ok (.ireturn, 1) := by decide +kernel
set_option maxRecDepth 20000 in
theorem ggX11_sundaysTillNamed_X7_copyFrom : GoodIn wsX11_sundaysTillNamed wsX7_copyFrom := goodIn_r _ [10, 11, 12, 13, 14, 15, 16, 17, 18, 19, 20, 21, 22, 23, 24, 25, 26, 27, 28, 29, 30, 31, 32, 33, 34, 35, 36, 37, 38, 39, 40, 41, 160, 161, 162, 163, 164, 165, 166, 167, 168, 169, 170, 171, 172, 173, 174, 175, 176, 177, 178, 179, 180] (by decide +kernel) (by decide +kernel)
set_option maxRecDepth 20000 in
theorem gX11_sundaysTillNamed_X7_copyFrom : GoodIn wsX11_sundaysTillNamed (wsV RX11 223 RX7 yX7_copyFrom wsX7_copyFrom) := goodIn_app (goodIn_of _ (by decide +kernel)) ggX11_sundaysTillNamed_X7_copyFrom
set_option maxRecDepth 20000 in
theorem ggX11_sundaysTillNamed_X11_letGo : GoodIn wsX11_sundaysTillNamed wsX11_letGo := goodIn_r _ [46, 47, 48, 49, 50, 51, 45, 52, 53, 54, 3, 55, 56, 57, 58, 59, 60, 61, 62, 63, 9, 64, 16, 18, 65, 66, 67, 68, 69, 70, 71, 72, 73, 74, 75, 76, 77, 78, 79, 80, 81, 82, 83, 84, 85, 86, 87, 88, 89, 90, 91, 92, 93, 94, 95, 96, 97, 98, 99, 100, 101, 102, 103, 104, 105, 106, 107, 108, 109, 110, 111, 112, 113, 114, 115, 116, 117, 118, 119, 120, 121, 122, 123, 124, 125, 126, 127, 128, 129, 130, 131, 132, 19, 133, 134, 135, 136, 137, 138, 139, 31, 140, 21, 25, 24, 20, 160, 161, 162, 163, 164, 165, 166, 167, 168, 169, 170, 171, 172, 173, 174, 175, 176, 141, 142, 143, 144, 145, 146, 147, 148, 149, 150, 151, 152, 153, 154, 155, 156, 157, 158, 159, 181, 182, 183, 184, 185, 186, 187, 188] (by decide +kernel) (by decide +kernel)
set_option maxRecDepth 20000 in
theorem gX11_sundaysTillNamed_X11_letGo : GoodIn wsX11_sundaysTillNamed (wsV RX11 219 RX11 yX11_letGo wsX11_letGo) := goodIn_app (goodIn_of _ (by decide +kernel)) ggX11_sundaysTillNamed_X11_letGo
def fX11_sundaysTillNamed_50  (a1 : Int32) (x1 : Int32) (g : c_G) : Option (c_G × Int32) :=
  if c_in (x1) (6) = true then if (g.1 103 (x1).toNatClampNeg) = (-5 : Int32) then (some (g, (-5 : Int32))) else (some (g, ((g.1 101 5) - (g.1 55 5)))) else none
set_option maxRecDepth 100000 in
set_option maxHeartbeats 4000000 in
theorem jX11_sundaysTillNamed_50 {p : Program} {l : Launch} {e : Env} {s : State} {m : MethodId} {below : List Frame} {meth : Method} {c : Code} {D : va_G} {tc : Nat → ClassId} {ad : Nat → Nat} {A : Nat → Prop} {E : (Nat → Nat) × (Nat → Nat) × Nat} {a1 : Int32} {g' : c_G} {r : Int32} (C : c_C p s m meth c D tc A E RX11 wsX11_sundaysTillNamed cX11_sundaysTillNamed 3 (some .int) ([.ref (ad 0), .int a1] : List Value).toArray) (hD : c_D A ad TC)  : ∀ (x1 : Int32) (g : c_G), fX11_sundaysTillNamed_50 a1 x1 g = some (g', r) → ∀ (H : Heap) (locs : List Loc), va_P D vwCl (c_ws tc ad TC g) H → va_S A s.heap H locs → ∀ ls : Array Slot, lv_has ls 3 [(0, .ref (ad 0)), (1, .int x1)] → W p l e (c_rm 6) s m ([.ref (ad 0), .int a1] : List Value).toArray below meth c H locs 0 0 (MQ below (va_Qi (fun (x : Int32) (_ : Unit) => x = r) (fun _ t => va_P D vwCl (c_ws tc ad TC g') t.heap) A) ([.ref (ad 0), .int a1] : List Value).toArray s 0 0 A) (F0 m 50 ls []) := by
  obtain ⟨hx, hb, hr, hml, hts, hown, hlk, hK, hE⟩ := id C
  intro x1 g hf H locs hP hS ls hl
  unfold fX11_sundaysTillNamed_50 at hf
  refine lv_aload_n hx hb dX11_sundaysTillNamed_50 rfl (lv_at hl 0 rfl) ?_
  refine c_get hx hb hts i_X11_sundaysTillNamed_X11 hown hK hP 0 tC0 rfl 7 (by decide) (hts _ (List.mem_of_getElem? (i := 1) rfl)) (fun _ h9 => h9) rfl (v := .ref (ad 101)) rfl dX11_sundaysTillNamed_51 ?_
  refine c_get hx hb hts i_X11_sundaysTillNamed_X7 hown hK hP 101 tC101 rfl 1 (by decide) (hts _ (List.mem_of_getElem? (i := 3) rfl)) (fun _ h9 => h9) rfl (v := .ref (ad 103)) rfl dX11_sundaysTillNamed_54 ?_
  refine lv_iload_n hx hb dX11_sundaysTillNamed_57 rfl (lv_at hl 1 rfl) ?_
  obtain ⟨hi50001, hf⟩ := c_gd hf
  refine c_iald (j := (x1).toNatClampNeg) hx hb hK hP 103 tC103 rfl (c_inV hi50001) dX11_sundaysTillNamed_58 ?_
  refine lv_bipush (v := (-5 : Int32)) hx hb dX11_sundaysTillNamed_59 (by decide) ?_
  refine lv_icmp_ne (tgt := 69) hx hb dX11_sundaysTillNamed_61 (by decide) (fun c50002 => ?_) (fun c50002 => ?_)
  · have hf := c_ie c50002 hf
    refine lv_aload_n hx hb dX11_sundaysTillNamed_69 rfl (lv_at hl 0 rfl) ?_
    refine c_get hx hb hts i_X11_sundaysTillNamed_X11 hown hK hP 0 tC0 rfl 7 (by decide) (hts _ (List.mem_of_getElem? (i := 1) rfl)) (fun _ h9 => h9) rfl (v := .ref (ad 101)) rfl dX11_sundaysTillNamed_70 ?_
    refine c_get hx hb hts i_X11_sundaysTillNamed_X7 hown hK hP 101 tC101 rfl 5 (by decide) (hts _ (List.mem_of_getElem? (i := 5) rfl)) (fun _ h9 => h9) rfl (v := .int (g.1 101 5)) rfl dX11_sundaysTillNamed_73 ?_
    refine lv_aload_n hx hb dX11_sundaysTillNamed_76 rfl (lv_at hl 0 rfl) ?_
    refine c_get hx hb hts i_X11_sundaysTillNamed_X11 hown hK hP 0 tC0 rfl 5 (by decide) (hts _ (List.mem_of_getElem? (i := 2) rfl)) (fun _ h9 => h9) rfl (v := .ref (ad 55)) rfl dX11_sundaysTillNamed_77 ?_
    refine c_get hx hb hts i_X11_sundaysTillNamed_X7 hown hK hP 55 tC55 rfl 5 (by decide) (hts _ (List.mem_of_getElem? (i := 5) rfl)) (fun _ h9 => h9) rfl (v := .int (g.1 55 5)) rfl dX11_sundaysTillNamed_80 ?_
    refine lv_isub hx hb dX11_sundaysTillNamed_83 ?_
    exact c_iret hx hb hr hlk hP hS rfl (c_inj hf) dX11_sundaysTillNamed_84
  · have hf := c_it c50002 hf
    refine lv_bipush (v := (-5 : Int32)) hx hb dX11_sundaysTillNamed_64 (by decide) ?_
    refine lv_goto (tgt := 84) hx hb dX11_sundaysTillNamed_66 (by decide) ?_
    exact c_iret hx hb hr hlk hP hS rfl (c_inj hf) dX11_sundaysTillNamed_84
def fX11_sundaysTillNamed_13  (a1 : Int32) : Nat → Int32 → Int32 → c_G → Option (c_G × Int32)
  | 0, _, _, _ => none
  | n + 1, x1, x2, g => if (60 : Int32) ≤ x2 then (fX11_sundaysTillNamed_50 a1 x1 g) else (if c_in (x1) (6) = true then if (g.1 103 (x1).toNatClampNeg) = (-5 : Int32) then ((fX11_letGo g 101 ((1 : Int32)) ((1000000 : Int32))).bind fun g13005 => c_let (x2 + (1 : Int32)) fun v13006 => (fX11_sundaysTillNamed_13 a1 n) x1 v13006 g13005) else (fX11_sundaysTillNamed_50 a1 x1 g) else none)
set_option maxRecDepth 100000 in
set_option maxHeartbeats 4000000 in
theorem jX11_sundaysTillNamed_13 {p : Program} {l : Launch} {e : Env} {s : State} {m : MethodId} {below : List Frame} {meth : Method} {c : Code} {D : va_G} {tc : Nat → ClassId} {ad : Nat → Nat} {A : Nat → Prop} {E : (Nat → Nat) × (Nat → Nat) × Nat} {a1 : Int32} {g' : c_G} {r : Int32} (C : c_C p s m meth c D tc A E RX11 wsX11_sundaysTillNamed cX11_sundaysTillNamed 3 (some .int) ([.ref (ad 0), .int a1] : List Value).toArray) (hD : c_D A ad TC)  : ∀ (n : Nat) (x1 : Int32) (x2 : Int32) (g : c_G), fX11_sundaysTillNamed_13 a1 n x1 x2 g = some (g', r) → ∀ (H : Heap) (locs : List Loc), va_P D vwCl (c_ws tc ad TC g) H → va_S A s.heap H locs → ∀ ls : Array Slot, lv_has ls 3 [(0, .ref (ad 0)), (1, .int x1), (2, .int x2)] → W p l e (c_rm 6) s m ([.ref (ad 0), .int a1] : List Value).toArray below meth c H locs 0 0 (MQ below (va_Qi (fun (x : Int32) (_ : Unit) => x = r) (fun _ t => va_P D vwCl (c_ws tc ad TC g') t.heap) A) ([.ref (ad 0), .int a1] : List Value).toArray s 0 0 A) (F0 m 13 ls []) := by
  obtain ⟨hx, hb, hr, hml, hts, hown, hlk, hK, hE⟩ := id C
  intro n
  induction n with
  | zero =>
    intro x1 x2 g hf
    cases hf
  | succ n ih =>
    intro x1 x2 g hf H locs hP hS ls hl
    unfold fX11_sundaysTillNamed_13 at hf
    refine lv_iload_n hx hb dX11_sundaysTillNamed_13 rfl (lv_at hl 2 rfl) ?_
    refine lv_bipush (v := (60 : Int32)) hx hb dX11_sundaysTillNamed_14 (by decide) ?_
    refine lv_icmp_ge (tgt := 50) hx hb dX11_sundaysTillNamed_16 (by decide) (fun c13001 => ?_) (fun c13001 => ?_)
    · have hf := c_it c13001 hf
      exact jX11_sundaysTillNamed_50 C hD x1 g hf _ _ hP hS _ (lv_sub hl [0, 1] rfl)
    · have hf := c_ie c13001 hf
      refine lv_aload_n hx hb dX11_sundaysTillNamed_19 rfl (lv_at hl 0 rfl) ?_
      refine c_get hx hb hts i_X11_sundaysTillNamed_X11 hown hK hP 0 tC0 rfl 7 (by decide) (hts _ (List.mem_of_getElem? (i := 1) rfl)) (fun _ h9 => h9) rfl (v := .ref (ad 101)) rfl dX11_sundaysTillNamed_20 ?_
      refine c_get hx hb hts i_X11_sundaysTillNamed_X7 hown hK hP 101 tC101 rfl 1 (by decide) (hts _ (List.mem_of_getElem? (i := 3) rfl)) (fun _ h9 => h9) rfl (v := .ref (ad 103)) rfl dX11_sundaysTillNamed_23 ?_
      refine lv_iload_n hx hb dX11_sundaysTillNamed_26 rfl (lv_at hl 1 rfl) ?_
      obtain ⟨hi13002, hf⟩ := c_gd hf
      refine c_iald (j := (x1).toNatClampNeg) hx hb hK hP 103 tC103 rfl (c_inV hi13002) dX11_sundaysTillNamed_27 ?_
      refine lv_bipush (v := (-5 : Int32)) hx hb dX11_sundaysTillNamed_28 (by decide) ?_
      refine lv_icmp_ne (tgt := 50) hx hb dX11_sundaysTillNamed_30 (by decide) (fun c13003 => ?_) (fun c13003 => ?_)
      · have hf := c_ie c13003 hf
        exact jX11_sundaysTillNamed_50 C hD x1 g hf _ _ hP hS _ (lv_sub hl [0, 1] rfl)
      · have hf := c_it c13003 hf
        refine lv_aload_n hx hb dX11_sundaysTillNamed_33 rfl (lv_at hl 0 rfl) ?_
        refine lv_aload_n hx hb dX11_sundaysTillNamed_34 rfl (lv_at hl 0 rfl) ?_
        refine c_get hx hb hts i_X11_sundaysTillNamed_X11 hown hK hP 0 tC0 rfl 7 (by decide) (hts _ (List.mem_of_getElem? (i := 1) rfl)) (fun _ h9 => h9) rfl (v := .ref (ad 101)) rfl dX11_sundaysTillNamed_35 ?_
        refine lv_iconst (v := (1 : Int32)) hx hb dX11_sundaysTillNamed_38 (by decide) ?_
        refine lv_ldc hx hb hown (v := (1000000 : Int32)) (hts _ (List.mem_of_getElem? (i := 4) rfl)) dX11_sundaysTillNamed_39 ?_
        obtain ⟨g13005, hc13004, hf⟩ := c_bd hf
        refine c_gov (va_runV (As := [.ref (ad 101), .int (1 : Int32), .int (1000000 : Int32)]) (rest := []) ⟨hx, hb, hml, hown, hts⟩ (kX11_letGo hD hc13004) (cwV 3 hts gX11_sundaysTillNamed_X11_letGo rfl rfl rfl (by decide +kernel) ⟨Nat.le_of_ble_eq_true rfl, Nat.le_of_ble_eq_true rfl⟩) (c_preV hK hP hE hS tC0 rfl) rfl rfl hl.1 rfl (lv_room (Nat.le_of_ble_eq_true rfl)) dX11_sundaysTillNamed_41 ⟨Nat.zero_le _, Nat.zero_le _⟩) hS (fun H locs hP hS => ?_)
        obtain ⟨v13006, ev13006, hf⟩ := c_letE hf
        refine lv_iinc (v := v13006) (lv' := [(2, .int v13006), (0, .ref (ad 0)), (1, .int x1)]) hx hb dX11_sundaysTillNamed_44 hl (k := 2) rfl (by rw [ev13006]; rfl) (by decide) rfl (fun ls hl => ?_)
        refine lv_goto (tgt := 13) hx hb dX11_sundaysTillNamed_47 (by decide) ?_
        exact ih x1 v13006 g13005 hf _ _ hP hS _ (lv_sub hl [1, 2, 0] rfl)
def fX11_sundaysTillNamed (g : c_G) (a1 : Int32) : Option (c_G × Int32) :=
  (fX7_copyFrom g 101 55).bind fun g2 => fX11_sundaysTillNamed_13 a1 c_F a1 ((0 : Int32)) g2
set_option maxRecDepth 100000 in
set_option maxHeartbeats 4000000 in
theorem kX11_sundaysTillNamed {l : Launch} {D : va_G} {tc : Nat → ClassId} {ad : Nat → Nat} {A : Nat → Prop} {E : (Nat → Nat) × (Nat → Nat) × Nat} (hD : c_D A ad TC) {a1 : Int32} {g g' : c_G} {r : Int32} (hf : fX11_sundaysTillNamed g a1 = some (g', r)) : c_Mi l yX11_sundaysTillNamed wsX11_sundaysTillNamed (c_rm 6) D tc ad A E TC ([.ref (ad 0), .int a1] : List Value) g g' r := by
  refine c_ofW (bytes := cX11_sundaysTillNamed) (maxL := 3) (ret := (some .int)) (by decide) rfl (Nat.le_of_ble_eq_true rfl) ?_
  intro p e s m below meth c ls C hP hS hl
  unfold fX11_sundaysTillNamed at hf
  obtain ⟨hx, hb, hr, hml, hts, hown, hlk, hK, hE⟩ := id C
  have hl : lv_has ls 3 [(0, .ref (ad 0)), (1, .int a1)] := hl
  refine lv_aload_n hx hb dX11_sundaysTillNamed_0 rfl (lv_at hl 0 rfl) ?_
  refine c_get hx hb hts i_X11_sundaysTillNamed_X11 hown hK hP 0 tC0 rfl 7 (by decide) (hts _ (List.mem_of_getElem? (i := 1) rfl)) (fun _ h9 => h9) rfl (v := .ref (ad 101)) rfl dX11_sundaysTillNamed_1 ?_
  refine lv_aload_n hx hb dX11_sundaysTillNamed_4 rfl (lv_at hl 0 rfl) ?_
  refine c_get hx hb hts i_X11_sundaysTillNamed_X11 hown hK hP 0 tC0 rfl 5 (by decide) (hts _ (List.mem_of_getElem? (i := 2) rfl)) (fun _ h9 => h9) rfl (v := .ref (ad 55)) rfl dX11_sundaysTillNamed_5 ?_
  obtain ⟨g2, hc1, hf⟩ := c_bd hf
  refine c_gov (va_runV (As := [.ref (ad 55)]) (rest := []) ⟨hx, hb, hml, hown, hts⟩ (kX7_copyFrom hD hc1) (cwV 1 hts gX11_sundaysTillNamed_X7_copyFrom rfl rfl rfl (by decide +kernel) ⟨Nat.le_of_ble_eq_true rfl, Nat.le_of_ble_eq_true rfl⟩) (c_preV hK hP hE hS tC101 rfl) rfl rfl hl.1 rfl (lv_room (Nat.le_of_ble_eq_true rfl)) dX11_sundaysTillNamed_8 ⟨Nat.zero_le _, Nat.zero_le _⟩) hS (fun H locs hP hS => ?_)
  refine lv_iconst (v := (0 : Int32)) hx hb dX11_sundaysTillNamed_11 (by decide) ?_
  refine lv_istore_n (lv' := [(2, .int (0 : Int32)), (0, .ref (ad 0)), (1, .int a1)]) hx hb dX11_sundaysTillNamed_12 rfl hl (by decide) rfl (fun ls hl => ?_)
  exact jX11_sundaysTillNamed_13 C hD c_F a1 ((0 : Int32)) g2 hf _ _ hP hS _ (lv_sub hl [1, 2, 0] rfl)
theorem i_X11_elder_X7 : ∀ w ∈ u_ws RX7 TX7 17, w ∈ wsX11_elder := c_inP [168, 169, 170, 171, 172, 173, 174, 175, 176, 177, 178, 179, 180, 181, 182, 183, 184] (by decide +kernel)
theorem i_X11_elder_X11 : ∀ w ∈ u_ws RX11 TX11 19, w ∈ wsX11_elder := c_inP [149, 150, 151, 152, 153, 154, 155, 156, 157, 158, 159, 160, 161, 162, 163, 164, 165, 166, 167] (by decide +kernel)
theorem dX11_elder_0 : decode cX11_elder 0 = .ok (.iload_n 1, 1) := by decide +kernel
theorem dX11_elder_1 : decode cX11_elder 1 = .ok (.invokestatic 139, 3) := by decide +kernel
theorem dX11_elder_4 : decode cX11_elder 4 = .ok (.ifCond .ne 5, 3) := by decide +kernel
theorem dX11_elder_7 : decode cX11_elder 7 = .ok (.iconst (-1), 1) := by decide +kernel
theorem dX11_elder_8 : decode cX11_elder 8 = .ok (.ireturn, 1) := by decide +kernel
theorem dX11_elder_9 : decode cX11_elder 9 = .ok (.iload_n 2, 1) := by decide +kernel
theorem dX11_elder_10 : decode cX11_elder 10 = .ok (.tableswitch 80 0 4 #[34, 44, 54, 64, 74], 34) := by decide +kernel
theorem dX11_elder_44 : decode cX11_elder 44 = .ok (.aload_n 0, 1) := by decide +kernel
theorem dX11_elder_45 : decode cX11_elder 45 = .ok (.getfield 86, 3) := by decide +kernel
theorem dX11_elder_48 : decode cX11_elder 48 = .ok (.getfield 146, 3) := by decide +kernel
theorem dX11_elder_51 : decode cX11_elder 51 = .ok (.iload_n 1, 1) := by decide +kernel
theorem dX11_elder_52 : decode cX11_elder 52 = .ok (.iaload, 1) := by decide +kernel
theorem dX11_elder_53 : decode cX11_elder 53 = .ok (.ireturn, 1) := by decide +kernel
theorem dX11_elder_54 : decode cX11_elder 54 = .ok (.aload_n 0, 1) := by decide +kernel
theorem dX11_elder_55 : decode cX11_elder 55 = .ok (.getfield 86, 3) := by decide +kernel
theorem dX11_elder_58 : decode cX11_elder 58 = .ok (.getfield 149, 3) := by decide +kernel
theorem dX11_elder_61 : decode cX11_elder 61 = .ok (.iload_n 1, 1) := by decide +kernel
theorem dX11_elder_62 : decode cX11_elder 62 = .ok (.iaload, 1) := by decide +kernel
theorem dX11_elder_63 : decode cX11_elder 63 = .ok (.ireturn, 1) := by decide +kernel
theorem dX11_elder_64 : decode cX11_elder 64 = .ok (.aload_n 0, 1) := by decide +kernel
theorem dX11_elder_65 : decode cX11_elder 65 = .ok (.getfield 86, 3) := by decide +kernel
theorem dX11_elder_68 : decode cX11_elder 68 = .ok (.getfield 152, 3) := by decide +kernel
theorem dX11_elder_71 : decode cX11_elder 71 = .ok (.iload_n 1, 1) := by decide +kernel
theorem dX11_elder_72 : decode cX11_elder 72 = .ok (.iaload, 1) := by decide +kernel
theorem dX11_elder_73 : decode cX11_elder 73 = .ok (.ireturn, 1) := by decide +kernel
theorem dX11_elder_74 : decode cX11_elder 74 = .ok (.aload_n 0, 1) := by decide +kernel
theorem dX11_elder_75 : decode cX11_elder 75 = .ok (.getfield 86, 3) := by decide +kernel
theorem dX11_elder_78 : decode cX11_elder 78 = .ok (.getfield 155, 3) := by decide +kernel
theorem dX11_elder_81 : decode cX11_elder 81 = .ok (.iload_n 1, 1) := by decide +kernel
theorem dX11_elder_82 : decode cX11_elder 82 = .ok (.iaload, 1) := by decide +kernel
theorem dX11_elder_83 : decode cX11_elder 83 = .ok (.ireturn, 1) := by decide +kernel
theorem dX11_elder_84 : decode cX11_elder 84 = .ok (.aload_n 0, 1) := by decide +kernel
theorem dX11_elder_85 : decode cX11_elder 85 = .ok (.iload_n 1, 1) := by decide +kernel
theorem dX11_elder_86 : decode cX11_elder 86 = .ok (.invokevirtual 158, 3) := by decide +kernel
theorem dX11_elder_89 : decode cX11_elder 89 = .ok (.ireturn, 1) := by decide +kernel
theorem dX11_elder_90 : decode cX11_elder 90 = .ok (.iconst (-1), 1) := by decide +kernel
theorem dX11_elder_91 : decode cX11_elder 91 = .ok (.ireturn, 1) := by decide +kernel
set_option maxRecDepth 20000 in
theorem ggX11_elder_X11_isElder : GoodIn wsX11_elder wsX11_isElder := goodIn_r _ [9] (by decide +kernel) (by decide +kernel)
set_option maxRecDepth 20000 in
theorem gX11_elder_X11_isElder : GoodIn wsX11_elder (va_wsS RX11 139 yX11_isElder wsX11_isElder) := goodIn_app (goodIn_of _ (by decide +kernel)) ggX11_elder_X11_isElder
set_option maxRecDepth 20000 in
theorem ggX11_elder_X11_sundaysTillNamed : GoodIn wsX11_elder wsX11_sundaysTillNamed := goodIn_r _ [13, 14, 1, 3, 15, 16, 17, 18, 19, 20, 21, 22, 23, 24, 25, 26, 27, 28, 29, 30, 31, 32, 33, 34, 35, 36, 37, 38, 39, 40, 41, 42, 43, 44, 45, 46, 47, 48, 49, 50, 51, 52, 53, 54, 55, 8, 56, 57, 58, 59, 60, 61, 62, 63, 64, 4, 65, 66, 67, 68, 69, 70, 71, 72, 73, 74, 75, 76, 77, 78, 79, 80, 2, 81, 82, 83, 84, 85, 86, 87, 88, 89, 90, 91, 92, 93, 94, 95, 96, 97, 98, 99, 100, 101, 102, 103, 104, 105, 106, 107, 108, 109, 110, 111, 112, 113, 114, 115, 116, 117, 118, 119, 120, 121, 122, 123, 124, 125, 126, 127, 128, 129, 130, 131, 132, 133, 134, 135, 136, 137, 138, 139, 140, 141, 142, 143, 144, 145, 146, 147, 148, 149, 150, 151, 152, 153, 154, 155, 156, 157, 158, 159, 160, 161, 162, 163, 164, 165, 166, 167, 168, 169, 170, 171, 172, 173, 174, 175, 176, 177, 178, 179, 180, 181, 182, 183, 184, 185, 186, 187, 188, 189, 190, 191, 192, 193, 194, 195, 196] (by decide +kernel) (by decide +kernel)
set_option maxRecDepth 20000 in
theorem gX11_elder_X11_sundaysTillNamed : GoodIn wsX11_elder (wsV RX11 158 RX11 yX11_sundaysTillNamed wsX11_sundaysTillNamed) := goodIn_app (goodIn_of _ (by decide +kernel)) ggX11_elder_X11_sundaysTillNamed
def fX11_elder (g : c_G) (a1 : Int32) (a2 : Int32) : Option (c_G × Int32) :=
  if (fX11_isElder a1) = 0 then (some (g, (-1 : Int32))) else (if a2 = (0 : Int32) then (if c_in (a1) (6) = true then some (g, (g.1 56 (a1).toNatClampNeg)) else none) else if a2 = (1 : Int32) then (if c_in (a1) (6) = true then some (g, (g.1 57 (a1).toNatClampNeg)) else none) else if a2 = (2 : Int32) then (if c_in (a1) (6) = true then some (g, (g.1 58 (a1).toNatClampNeg)) else none) else if a2 = (3 : Int32) then (if c_in (a1) (6) = true then some (g, (g.1 59 (a1).toNatClampNeg)) else none) else if a2 = (4 : Int32) then (c_b2 (fX11_sundaysTillNamed g a1) fun g12 r13 => some (g12, r13)) else (some (g, (-1 : Int32))))
set_option maxRecDepth 100000 in
set_option maxHeartbeats 4000000 in
theorem kX11_elder {l : Launch} {D : va_G} {tc : Nat → ClassId} {ad : Nat → Nat} {A : Nat → Prop} {E : (Nat → Nat) × (Nat → Nat) × Nat} (hD : c_D A ad TC) {a1 : Int32} {a2 : Int32} {g g' : c_G} {r : Int32} (hf : fX11_elder g a1 a2 = some (g', r)) : c_Mi l yX11_elder wsX11_elder (c_rm 7) D tc ad A E TC ([.ref (ad 0), .int a1, .int a2] : List Value) g g' r := by
  refine c_ofW (bytes := cX11_elder) (maxL := 3) (ret := (some .int)) (by decide) rfl (Nat.le_of_ble_eq_true rfl) ?_
  intro p e s m below meth c ls C hP hS hl
  unfold fX11_elder at hf
  obtain ⟨hx, hb, hr, hml, hts, hown, hlk, hK, hE⟩ := id C
  have hl : lv_has ls 3 [(0, .ref (ad 0)), (1, .int a1), (2, .int a2)] := hl
  refine lv_iload_n hx hb dX11_elder_0 rfl (lv_at hl 1 rfl) ?_
  refine c_goi (va_runS (As := [.int a1]) (rest := []) ⟨hx, hb, hml, hown, hts⟩ (kX11_isElder (T := TC) (g := g) rfl) (va_cwS 1 hts gX11_elder_X11_isElder rfl rfl rfl (by decide +kernel) ⟨Nat.le_of_ble_eq_true rfl, Nat.le_of_ble_eq_true rfl⟩) (c_preS hK hP hE hS) rfl rfl hl.1 rfl (lv_room (Nat.le_of_ble_eq_true rfl)) dX11_elder_1 ⟨Nat.zero_le _, Nat.zero_le _⟩) hS (fun H locs hP hS => ?_)
  refine lv_if_ne (tgt := 9) hx hb dX11_elder_4 (by decide) (fun c1 => ?_) (fun c1 => ?_)
  · have hf := c_ie c1 hf
    refine lv_iload_n hx hb dX11_elder_9 rfl (lv_at hl 2 rfl) ?_
    by_cases c2 : a2 = (0 : Int32)
    · have hf := c_it c2 hf
      refine lv_tableIn (off := 34) (tgt := 44) hx hb dX11_elder_10 (by rw [c2]; decide) (by rw [c2]; decide) (by rw [c2]; rfl) (by decide) ?_
      refine lv_aload_n hx hb dX11_elder_44 rfl (lv_at hl 0 rfl) ?_
      refine c_get hx hb hts i_X11_elder_X11 hown hK hP 0 tC0 rfl 5 (by decide) (hts _ (List.mem_of_getElem? (i := 1) rfl)) (fun _ h9 => h9) rfl (v := .ref (ad 55)) rfl dX11_elder_45 ?_
      refine c_get hx hb hts i_X11_elder_X7 hown hK hP 55 tC55 rfl 0 (by decide) (hts _ (List.mem_of_getElem? (i := 2) rfl)) (fun _ h9 => h9) rfl (v := .ref (ad 56)) rfl dX11_elder_48 ?_
      refine lv_iload_n hx hb dX11_elder_51 rfl (lv_at hl 1 rfl) ?_
      obtain ⟨hi3, hf⟩ := c_gd hf
      refine c_iald (j := (a1).toNatClampNeg) hx hb hK hP 56 tC56 rfl (c_inV hi3) dX11_elder_52 ?_
      exact c_iret hx hb hr hlk hP hS rfl (c_inj hf) dX11_elder_53
    have hf := c_ie c2 hf
    by_cases c4 : a2 = (1 : Int32)
    · have hf := c_it c4 hf
      refine lv_tableIn (off := 44) (tgt := 54) hx hb dX11_elder_10 (by rw [c4]; decide) (by rw [c4]; decide) (by rw [c4]; rfl) (by decide) ?_
      refine lv_aload_n hx hb dX11_elder_54 rfl (lv_at hl 0 rfl) ?_
      refine c_get hx hb hts i_X11_elder_X11 hown hK hP 0 tC0 rfl 5 (by decide) (hts _ (List.mem_of_getElem? (i := 1) rfl)) (fun _ h9 => h9) rfl (v := .ref (ad 55)) rfl dX11_elder_55 ?_
      refine c_get hx hb hts i_X11_elder_X7 hown hK hP 55 tC55 rfl 1 (by decide) (hts _ (List.mem_of_getElem? (i := 3) rfl)) (fun _ h9 => h9) rfl (v := .ref (ad 57)) rfl dX11_elder_58 ?_
      refine lv_iload_n hx hb dX11_elder_61 rfl (lv_at hl 1 rfl) ?_
      obtain ⟨hi5, hf⟩ := c_gd hf
      refine c_iald (j := (a1).toNatClampNeg) hx hb hK hP 57 tC57 rfl (c_inV hi5) dX11_elder_62 ?_
      exact c_iret hx hb hr hlk hP hS rfl (c_inj hf) dX11_elder_63
    have hf := c_ie c4 hf
    by_cases c6 : a2 = (2 : Int32)
    · have hf := c_it c6 hf
      refine lv_tableIn (off := 54) (tgt := 64) hx hb dX11_elder_10 (by rw [c6]; decide) (by rw [c6]; decide) (by rw [c6]; rfl) (by decide) ?_
      refine lv_aload_n hx hb dX11_elder_64 rfl (lv_at hl 0 rfl) ?_
      refine c_get hx hb hts i_X11_elder_X11 hown hK hP 0 tC0 rfl 5 (by decide) (hts _ (List.mem_of_getElem? (i := 1) rfl)) (fun _ h9 => h9) rfl (v := .ref (ad 55)) rfl dX11_elder_65 ?_
      refine c_get hx hb hts i_X11_elder_X7 hown hK hP 55 tC55 rfl 2 (by decide) (hts _ (List.mem_of_getElem? (i := 4) rfl)) (fun _ h9 => h9) rfl (v := .ref (ad 58)) rfl dX11_elder_68 ?_
      refine lv_iload_n hx hb dX11_elder_71 rfl (lv_at hl 1 rfl) ?_
      obtain ⟨hi7, hf⟩ := c_gd hf
      refine c_iald (j := (a1).toNatClampNeg) hx hb hK hP 58 tC58 rfl (c_inV hi7) dX11_elder_72 ?_
      exact c_iret hx hb hr hlk hP hS rfl (c_inj hf) dX11_elder_73
    have hf := c_ie c6 hf
    by_cases c8 : a2 = (3 : Int32)
    · have hf := c_it c8 hf
      refine lv_tableIn (off := 64) (tgt := 74) hx hb dX11_elder_10 (by rw [c8]; decide) (by rw [c8]; decide) (by rw [c8]; rfl) (by decide) ?_
      refine lv_aload_n hx hb dX11_elder_74 rfl (lv_at hl 0 rfl) ?_
      refine c_get hx hb hts i_X11_elder_X11 hown hK hP 0 tC0 rfl 5 (by decide) (hts _ (List.mem_of_getElem? (i := 1) rfl)) (fun _ h9 => h9) rfl (v := .ref (ad 55)) rfl dX11_elder_75 ?_
      refine c_get hx hb hts i_X11_elder_X7 hown hK hP 55 tC55 rfl 3 (by decide) (hts _ (List.mem_of_getElem? (i := 5) rfl)) (fun _ h9 => h9) rfl (v := .ref (ad 59)) rfl dX11_elder_78 ?_
      refine lv_iload_n hx hb dX11_elder_81 rfl (lv_at hl 1 rfl) ?_
      obtain ⟨hi9, hf⟩ := c_gd hf
      refine c_iald (j := (a1).toNatClampNeg) hx hb hK hP 59 tC59 rfl (c_inV hi9) dX11_elder_82 ?_
      exact c_iret hx hb hr hlk hP hS rfl (c_inj hf) dX11_elder_83
    have hf := c_ie c8 hf
    by_cases c10 : a2 = (4 : Int32)
    · have hf := c_it c10 hf
      refine lv_tableIn (off := 74) (tgt := 84) hx hb dX11_elder_10 (by rw [c10]; decide) (by rw [c10]; decide) (by rw [c10]; rfl) (by decide) ?_
      refine lv_aload_n hx hb dX11_elder_84 rfl (lv_at hl 0 rfl) ?_
      refine lv_iload_n hx hb dX11_elder_85 rfl (lv_at hl 1 rfl) ?_
      obtain ⟨g12, r13, hc11, hf⟩ := c_b2E hf
      refine c_goi (va_runV (As := [.int a1]) (rest := []) ⟨hx, hb, hml, hown, hts⟩ (kX11_sundaysTillNamed hD hc11) (cwV 1 hts gX11_elder_X11_sundaysTillNamed rfl rfl rfl (by decide +kernel) ⟨Nat.le_of_ble_eq_true rfl, Nat.le_of_ble_eq_true rfl⟩) (c_preV hK hP hE hS tC0 rfl) rfl rfl hl.1 rfl (lv_room (Nat.le_of_ble_eq_true rfl)) dX11_elder_86 ⟨Nat.zero_le _, Nat.zero_le _⟩) hS (fun H locs hP hS => ?_)
      exact c_iret hx hb hr hlk hP hS rfl (c_inj hf) dX11_elder_89
    have hf := c_ie c10 hf
    have h9 := c_sw (x := a2) (lo := 0) (n := 4) (by decide) (fun k hj hk => by rcases (show k = 0 ∨ k = 1 ∨ k = 2 ∨ k = 3 ∨ k = 4 by omega) with rfl | rfl | rfl | rfl | rfl <;> assumption)
    refine lv_tableOut (tgt := 90) hx hb dX11_elder_10 (by omega) (by decide) ?_
    refine lv_iconst (v := (-1 : Int32)) hx hb dX11_elder_90 (by decide) ?_
    exact c_iret hx hb hr hlk hP hS rfl (c_inj hf) dX11_elder_91
  · have hf := c_it c1 hf
    refine lv_iconst (v := (-1 : Int32)) hx hb dX11_elder_7 (by decide) ?_
    exact c_iret hx hb hr hlk hP hS rfl (c_inj hf) dX11_elder_8
theorem dX11_isWord_0 : decode cX11_isWord 0 = .ok (.iload_n 0, 1) := by decide +kernel
theorem dX11_isWord_1 : decode cX11_isWord 1 = .ok (.ifCond .lt 13, 3) := by decide +kernel
theorem dX11_isWord_4 : decode cX11_isWord 4 = .ok (.iload_n 0, 1) := by decide +kernel
theorem dX11_isWord_5 : decode cX11_isWord 5 = .ok (.bipush 12, 2) := by decide +kernel
theorem dX11_isWord_7 : decode cX11_isWord 7 = .ok (.if_icmp .ge 7, 3) := by decide +kernel
theorem dX11_isWord_10 : decode cX11_isWord 10 = .ok (.iconst 1, 1) := by decide +kernel
theorem dX11_isWord_11 : decode cX11_isWord 11 = .ok (.goto 4, 3) := by decide +kernel
theorem dX11_isWord_14 : decode cX11_isWord 14 = .ok (.iconst 0, 1) := by decide +kernel
theorem dX11_isWord_15 : decode cX11_isWord 15 = .ok (.ireturn, 1) := by decide +kernel
def fX11_isWord (a1 : Int32) : Int32 :=
  if a1 < 0 then ((0 : Int32)) else (if (12 : Int32) ≤ a1 then ((0 : Int32)) else ((1 : Int32)))
set_option maxRecDepth 100000 in
set_option maxHeartbeats 4000000 in
theorem kX11_isWord {l : Launch} {D : va_G} {tc : Nat → ClassId} {ad : Nat → Nat} {A : Nat → Prop} {E : (Nat → Nat) × (Nat → Nat) × Nat} {T : List c_T} {a1 : Int32} {g : c_G} {r : Int32} (hf : fX11_isWord a1 = r) : c_Mi l yX11_isWord wsX11_isWord (c_rm 0) D tc ad A E T ([.int a1] : List Value) g g r := by
  refine c_ofW (bytes := cX11_isWord) (maxL := 1) (ret := (some .boolean)) (by decide) rfl (Nat.le_of_ble_eq_true rfl) ?_
  intro p e s m below meth c ls C hP hS hl
  unfold fX11_isWord at hf
  obtain ⟨hx, hb, hr, hml, hts, hown, hlk, hK, hE⟩ := id C
  have hl : lv_has ls 1 [(0, .int a1)] := hl
  refine lv_iload_n hx hb dX11_isWord_0 rfl (lv_at hl 0 rfl) ?_
  refine lv_if_lt (tgt := 14) hx hb dX11_isWord_1 (by decide) (fun c1 => ?_) (fun c1 => ?_)
  · have hf := c_it c1 hf
    refine lv_iconst (v := (0 : Int32)) hx hb dX11_isWord_14 (by decide) ?_
    exact c_iret hx hb hr hlk hP hS rfl ⟨rfl, hf⟩ dX11_isWord_15
  · have hf := c_ie c1 hf
    refine lv_iload_n hx hb dX11_isWord_4 rfl (lv_at hl 0 rfl) ?_
    refine lv_bipush (v := (12 : Int32)) hx hb dX11_isWord_5 (by decide) ?_
    refine lv_icmp_ge (tgt := 14) hx hb dX11_isWord_7 (by decide) (fun c2 => ?_) (fun c2 => ?_)
    · have hf := c_it c2 hf
      refine lv_iconst (v := (0 : Int32)) hx hb dX11_isWord_14 (by decide) ?_
      exact c_iret hx hb hr hlk hP hS rfl ⟨rfl, hf⟩ dX11_isWord_15
    · have hf := c_ie c2 hf
      refine lv_iconst (v := (1 : Int32)) hx hb dX11_isWord_10 (by decide) ?_
      refine lv_goto (tgt := 15) hx hb dX11_isWord_11 (by decide) ?_
      exact c_iret hx hb hr hlk hP hS rfl ⟨rfl, hf⟩ dX11_isWord_15
theorem bX11_isWord (a1 : Int32) : fX11_isWord a1 = 0 ∨ fX11_isWord a1 = 1 := by
  unfold fX11_isWord
  first | (repeat' split) <;> first | exact Or.inl rfl | exact Or.inr rfl
theorem i_X11_fits_X7 : ∀ w ∈ u_ws RX7 TX7 17, w ∈ wsX11_fits := c_inP [99, 100, 101, 102, 103, 104, 105, 106, 107, 108, 109, 110, 111, 112, 113, 114, 115] (by decide +kernel)
theorem i_X11_fits_X11 : ∀ w ∈ u_ws RX11 TX11 19, w ∈ wsX11_fits := c_inP [80, 81, 82, 83, 84, 85, 86, 87, 88, 89, 90, 91, 92, 93, 94, 95, 96, 97, 98] (by decide +kernel)
theorem dX11_fits_0 : decode cX11_fits 0 = .ok (.aload_n 0, 1) := by decide +kernel
theorem dX11_fits_1 : decode cX11_fits 1 = .ok (.iload_n 1, 1) := by decide +kernel
theorem dX11_fits_2 : decode cX11_fits 2 = .ok (.invokevirtual 117, 3) := by decide +kernel
theorem dX11_fits_5 : decode cX11_fits 5 = .ok (.ifCond .eq 17, 3) := by decide +kernel
theorem dX11_fits_8 : decode cX11_fits 8 = .ok (.iload_n 2, 1) := by decide +kernel
theorem dX11_fits_9 : decode cX11_fits 9 = .ok (.invokestatic 162, 3) := by decide +kernel
theorem dX11_fits_12 : decode cX11_fits 12 = .ok (.ifCond .eq 10, 3) := by decide +kernel
theorem dX11_fits_15 : decode cX11_fits 15 = .ok (.iload_n 3, 1) := by decide +kernel
theorem dX11_fits_16 : decode cX11_fits 16 = .ok (.invokestatic 139, 3) := by decide +kernel
theorem dX11_fits_19 : decode cX11_fits 19 = .ok (.ifCond .ne 7, 3) := by decide +kernel
theorem dX11_fits_22 : decode cX11_fits 22 = .ok (.sipush (-10001), 3) := by decide +kernel
theorem dX11_fits_25 : decode cX11_fits 25 = .ok (.ireturn, 1) := by decide +kernel
theorem dX11_fits_26 : decode cX11_fits 26 = .ok (.aload_n 0, 1) := by decide +kernel
theorem dX11_fits_27 : decode cX11_fits 27 = .ok (.aload_n 0, 1) := by decide +kernel
theorem dX11_fits_28 : decode cX11_fits 28 = .ok (.getfield 86, 3) := by decide +kernel
theorem dX11_fits_31 : decode cX11_fits 31 = .ok (.iload_n 1, 1) := by decide +kernel
theorem dX11_fits_32 : decode cX11_fits 32 = .ok (.aload_n 0, 1) := by decide +kernel
theorem dX11_fits_33 : decode cX11_fits 33 = .ok (.getfield 86, 3) := by decide +kernel
theorem dX11_fits_36 : decode cX11_fits 36 = .ok (.getfield 123, 3) := by decide +kernel
theorem dX11_fits_39 : decode cX11_fits 39 = .ok (.iload_n 1, 1) := by decide +kernel
theorem dX11_fits_40 : decode cX11_fits 40 = .ok (.iaload, 1) := by decide +kernel
theorem dX11_fits_41 : decode cX11_fits 41 = .ok (.iload_n 3, 1) := by decide +kernel
theorem dX11_fits_42 : decode cX11_fits 42 = .ok (.invokevirtual 165, 3) := by decide +kernel
theorem dX11_fits_45 : decode cX11_fits 45 = .ok (.aload_n 0, 1) := by decide +kernel
theorem dX11_fits_46 : decode cX11_fits 46 = .ok (.getfield 25, 3) := by decide +kernel
theorem dX11_fits_49 : decode cX11_fits 49 = .ok (.iload_n 2, 1) := by decide +kernel
theorem dX11_fits_50 : decode cX11_fits 50 = .ok (.iaload, 1) := by decide +kernel
theorem dX11_fits_51 : decode cX11_fits 51 = .ok (.ireturn, 1) := by decide +kernel
set_option maxRecDepth 20000 in
theorem ggX11_fits_X11_isChild : GoodIn wsX11_fits wsX11_isChild := goodIn_r _ [8, 1, 9, 80, 81, 82, 83, 84, 85, 86, 87, 88, 89, 90, 91, 92, 93, 94, 95, 96, 97, 98, 99, 100, 101, 102, 103, 104, 105, 106, 107, 108, 109, 110, 111, 112, 113, 114, 115] (by decide +kernel) (by decide +kernel)
set_option maxRecDepth 20000 in
theorem gX11_fits_X11_isChild : GoodIn wsX11_fits (wsV RX11 117 RX11 yX11_isChild wsX11_isChild) := goodIn_app (goodIn_of _ (by decide +kernel)) ggX11_fits_X11_isChild
set_option maxRecDepth 20000 in
theorem ggX11_fits_X11_isWord : GoodIn wsX11_fits wsX11_isWord := goodIn_r _ [12] (by decide +kernel) (by decide +kernel)
set_option maxRecDepth 20000 in
theorem gX11_fits_X11_isWord : GoodIn wsX11_fits (va_wsS RX11 162 yX11_isWord wsX11_isWord) := goodIn_app (goodIn_of _ (by decide +kernel)) ggX11_fits_X11_isWord
set_option maxRecDepth 20000 in
theorem ggX11_fits_X11_isElder : GoodIn wsX11_fits wsX11_isElder := goodIn_r _ [15] (by decide +kernel) (by decide +kernel)
set_option maxRecDepth 20000 in
theorem gX11_fits_X11_isElder : GoodIn wsX11_fits (va_wsS RX11 139 yX11_isElder wsX11_isElder) := goodIn_app (goodIn_of _ (by decide +kernel)) ggX11_fits_X11_isElder
set_option maxRecDepth 20000 in
theorem ggX11_fits_X11_weigh : GoodIn wsX11_fits wsX11_weigh := goodIn_r _ [19, 20, 21, 22, 23, 24, 25, 3, 26, 27, 28, 29, 30, 31, 32, 33, 34, 35, 36, 37, 38, 39, 40, 41, 42, 43, 44, 45, 46, 47, 48, 49, 50, 51, 52, 53, 54, 55, 56, 57, 58, 59, 60, 61, 62, 63, 64, 65, 66, 67, 68, 69, 70, 71, 72, 73, 74, 75, 76, 77, 78, 79, 80, 81, 82, 83, 84, 85, 86, 87, 88, 89, 90, 91, 92, 93, 94, 95, 96, 97, 98, 99, 100, 101, 102, 103, 104, 105, 106, 107, 108, 109, 110, 111, 112, 113, 114, 115, 116, 117, 118, 119, 120, 121, 122, 123] (by decide +kernel) (by decide +kernel)
set_option maxRecDepth 20000 in
theorem gX11_fits_X11_weigh : GoodIn wsX11_fits (wsV RX11 165 RX11 yX11_weigh wsX11_weigh) := goodIn_app (goodIn_of _ (by decide +kernel)) ggX11_fits_X11_weigh
def fX11_fits (g : c_G) (a1 : Int32) (a2 : Int32) (a3 : Int32) : Option (c_G × Int32) :=
  (fX11_isChild g a1).bind fun r1 => if r1 = 0 then (some (g, (-10001 : Int32))) else (if (fX11_isWord a2) = 0 then (some (g, (-10001 : Int32))) else (if (fX11_isElder a3) = 0 then (some (g, (-10001 : Int32))) else (if c_in (a1) (6) = true then (fX11_weigh g 55 a1 ((g.1 61 (a1).toNatClampNeg)) a3).bind fun g8 => if c_in (a2) (12) = true then some (g8, (g8.1 4 (a2).toNatClampNeg)) else none else none)))
set_option maxRecDepth 100000 in
set_option maxHeartbeats 4000000 in
theorem kX11_fits {l : Launch} {D : va_G} {tc : Nat → ClassId} {ad : Nat → Nat} {A : Nat → Prop} {E : (Nat → Nat) × (Nat → Nat) × Nat} (hD : c_D A ad TC) {a1 : Int32} {a2 : Int32} {a3 : Int32} {g g' : c_G} {r : Int32} (hf : fX11_fits g a1 a2 a3 = some (g', r)) : c_Mi l yX11_fits wsX11_fits (c_rm 3) D tc ad A E TC ([.ref (ad 0), .int a1, .int a2, .int a3] : List Value) g g' r := by
  refine c_ofW (bytes := cX11_fits) (maxL := 4) (ret := (some .int)) (by decide) rfl (Nat.le_of_ble_eq_true rfl) ?_
  intro p e s m below meth c ls C hP hS hl
  unfold fX11_fits at hf
  obtain ⟨hx, hb, hr, hml, hts, hown, hlk, hK, hE⟩ := id C
  have hl : lv_has ls 4 [(0, .ref (ad 0)), (1, .int a1), (2, .int a2), (3, .int a3)] := hl
  refine lv_aload_n hx hb dX11_fits_0 rfl (lv_at hl 0 rfl) ?_
  refine lv_iload_n hx hb dX11_fits_1 rfl (lv_at hl 1 rfl) ?_
  obtain ⟨r1, hc2, hf⟩ := c_bd hf
  refine c_goi (va_runV (As := [.int a1]) (rest := []) ⟨hx, hb, hml, hown, hts⟩ (kX11_isChild hD hc2) (cwV 1 hts gX11_fits_X11_isChild rfl rfl rfl (by decide +kernel) ⟨Nat.le_of_ble_eq_true rfl, Nat.le_of_ble_eq_true rfl⟩) (c_preV hK hP hE hS tC0 rfl) rfl rfl hl.1 rfl (lv_room (Nat.le_of_ble_eq_true rfl)) dX11_fits_2 ⟨Nat.zero_le _, Nat.zero_le _⟩) hS (fun H locs hP hS => ?_)
  refine lv_if_eq (tgt := 22) hx hb dX11_fits_5 (by decide) (fun c3 => ?_) (fun c3 => ?_)
  · have hf := c_it c3 hf
    refine lv_sipush (v := (-10001 : Int32)) hx hb dX11_fits_22 (by decide) ?_
    exact c_iret hx hb hr hlk hP hS rfl (c_inj hf) dX11_fits_25
  · have hf := c_ie c3 hf
    refine lv_iload_n hx hb dX11_fits_8 rfl (lv_at hl 2 rfl) ?_
    refine c_goi (va_runS (As := [.int a2]) (rest := []) ⟨hx, hb, hml, hown, hts⟩ (kX11_isWord (T := TC) (g := g) rfl) (va_cwS 1 hts gX11_fits_X11_isWord rfl rfl rfl (by decide +kernel) ⟨Nat.le_of_ble_eq_true rfl, Nat.le_of_ble_eq_true rfl⟩) (c_preS hK hP hE hS) rfl rfl hl.1 rfl (lv_room (Nat.le_of_ble_eq_true rfl)) dX11_fits_9 ⟨Nat.zero_le _, Nat.zero_le _⟩) hS (fun H locs hP hS => ?_)
    refine lv_if_eq (tgt := 22) hx hb dX11_fits_12 (by decide) (fun c4 => ?_) (fun c4 => ?_)
    · have hf := c_it c4 hf
      refine lv_sipush (v := (-10001 : Int32)) hx hb dX11_fits_22 (by decide) ?_
      exact c_iret hx hb hr hlk hP hS rfl (c_inj hf) dX11_fits_25
    · have hf := c_ie c4 hf
      refine lv_iload_n hx hb dX11_fits_15 rfl (lv_at hl 3 rfl) ?_
      refine c_goi (va_runS (As := [.int a3]) (rest := []) ⟨hx, hb, hml, hown, hts⟩ (kX11_isElder (T := TC) (g := g) rfl) (va_cwS 1 hts gX11_fits_X11_isElder rfl rfl rfl (by decide +kernel) ⟨Nat.le_of_ble_eq_true rfl, Nat.le_of_ble_eq_true rfl⟩) (c_preS hK hP hE hS) rfl rfl hl.1 rfl (lv_room (Nat.le_of_ble_eq_true rfl)) dX11_fits_16 ⟨Nat.zero_le _, Nat.zero_le _⟩) hS (fun H locs hP hS => ?_)
      refine lv_if_ne (tgt := 26) hx hb dX11_fits_19 (by decide) (fun c5 => ?_) (fun c5 => ?_)
      · have hf := c_ie c5 hf
        refine lv_aload_n hx hb dX11_fits_26 rfl (lv_at hl 0 rfl) ?_
        refine lv_aload_n hx hb dX11_fits_27 rfl (lv_at hl 0 rfl) ?_
        refine c_get hx hb hts i_X11_fits_X11 hown hK hP 0 tC0 rfl 5 (by decide) (hts _ (List.mem_of_getElem? (i := 1) rfl)) (fun _ h9 => h9) rfl (v := .ref (ad 55)) rfl dX11_fits_28 ?_
        refine lv_iload_n hx hb dX11_fits_31 rfl (lv_at hl 1 rfl) ?_
        refine lv_aload_n hx hb dX11_fits_32 rfl (lv_at hl 0 rfl) ?_
        refine c_get hx hb hts i_X11_fits_X11 hown hK hP 0 tC0 rfl 5 (by decide) (hts _ (List.mem_of_getElem? (i := 1) rfl)) (fun _ h9 => h9) rfl (v := .ref (ad 55)) rfl dX11_fits_33 ?_
        refine c_get hx hb hts i_X11_fits_X7 hown hK hP 55 tC55 rfl 8 (by decide) (hts _ (List.mem_of_getElem? (i := 2) rfl)) (fun _ h9 => h9) rfl (v := .ref (ad 61)) rfl dX11_fits_36 ?_
        refine lv_iload_n hx hb dX11_fits_39 rfl (lv_at hl 1 rfl) ?_
        obtain ⟨hi6, hf⟩ := c_gd hf
        refine c_iald (j := (a1).toNatClampNeg) hx hb hK hP 61 tC61 rfl (c_inV hi6) dX11_fits_40 ?_
        refine lv_iload_n hx hb dX11_fits_41 rfl (lv_at hl 3 rfl) ?_
        obtain ⟨g8, hc7, hf⟩ := c_bd hf
        refine c_gov (va_runV (As := [.ref (ad 55), .int a1, .int (g.1 61 (a1).toNatClampNeg), .int a3]) (rest := []) ⟨hx, hb, hml, hown, hts⟩ (kX11_weigh hD hc7) (cwV 4 hts gX11_fits_X11_weigh rfl rfl rfl (by decide +kernel) ⟨Nat.le_of_ble_eq_true rfl, Nat.le_of_ble_eq_true rfl⟩) (c_preV hK hP hE hS tC0 rfl) rfl rfl hl.1 rfl (lv_room (Nat.le_of_ble_eq_true rfl)) dX11_fits_42 ⟨Nat.zero_le _, Nat.zero_le _⟩) hS (fun H locs hP hS => ?_)
        refine lv_aload_n hx hb dX11_fits_45 rfl (lv_at hl 0 rfl) ?_
        refine c_get hx hb hts i_X11_fits_X11 hown hK hP 0 tC0 rfl 10 (by decide) (hts _ (List.mem_of_getElem? (i := 3) rfl)) (fun _ h9 => h9) rfl (v := .ref (ad 4)) rfl dX11_fits_46 ?_
        refine lv_iload_n hx hb dX11_fits_49 rfl (lv_at hl 2 rfl) ?_
        obtain ⟨hi9, hf⟩ := c_gd hf
        refine c_iald (j := (a2).toNatClampNeg) hx hb hK hP 4 tC4 rfl (c_inV hi9) dX11_fits_50 ?_
        exact c_iret hx hb hr hlk hP hS rfl (c_inj hf) dX11_fits_51
      · have hf := c_it c5 hf
        refine lv_sipush (v := (-10001 : Int32)) hx hb dX11_fits_22 (by decide) ?_
        exact c_iret hx hb hr hlk hP hS rfl (c_inj hf) dX11_fits_25
theorem i_X11_know_X7 : ∀ w ∈ u_ws RX7 TX7 17, w ∈ wsX11_know := c_inP [31, 32, 33, 34, 35, 36, 37, 38, 39, 40, 41, 42, 43, 44, 45, 46, 47] (by decide +kernel)
theorem i_X11_know_X11 : ∀ w ∈ u_ws RX11 TX11 19, w ∈ wsX11_know := c_inP [12, 13, 14, 15, 16, 17, 18, 19, 20, 21, 22, 23, 24, 25, 26, 27, 28, 29, 30] (by decide +kernel)
theorem dX11_know_0 : decode cX11_know 0 = .ok (.aload_n 0, 1) := by decide +kernel
theorem dX11_know_1 : decode cX11_know 1 = .ok (.iload_n 1, 1) := by decide +kernel
theorem dX11_know_2 : decode cX11_know 2 = .ok (.invokevirtual 117, 3) := by decide +kernel
theorem dX11_know_5 : decode cX11_know 5 = .ok (.ifCond .ne 5, 3) := by decide +kernel
theorem dX11_know_8 : decode cX11_know 8 = .ok (.iconst (-1), 1) := by decide +kernel
theorem dX11_know_9 : decode cX11_know 9 = .ok (.ireturn, 1) := by decide +kernel
theorem dX11_know_10 : decode cX11_know 10 = .ok (.iload_n 2, 1) := by decide +kernel
theorem dX11_know_11 : decode cX11_know 11 = .ok (.invokestatic 106, 3) := by decide +kernel
theorem dX11_know_14 : decode cX11_know 14 = .ok (.ifCond .ne 6, 3) := by decide +kernel
theorem dX11_know_17 : decode cX11_know 17 = .ok (.bipush (-2), 2) := by decide +kernel
theorem dX11_know_19 : decode cX11_know 19 = .ok (.ireturn, 1) := by decide +kernel
theorem dX11_know_20 : decode cX11_know 20 = .ok (.aload_n 0, 1) := by decide +kernel
theorem dX11_know_21 : decode cX11_know 21 = .ok (.getfield 86, 3) := by decide +kernel
theorem dX11_know_24 : decode cX11_know 24 = .ok (.getfield 126, 3) := by decide +kernel
theorem dX11_know_27 : decode cX11_know 27 = .ok (.iload_n 1, 1) := by decide +kernel
theorem dX11_know_28 : decode cX11_know 28 = .ok (.iaload, 1) := by decide +kernel
theorem dX11_know_29 : decode cX11_know 29 = .ok (.istore_n 3, 1) := by decide +kernel
theorem dX11_know_30 : decode cX11_know 30 = .ok (.aload_n 0, 1) := by decide +kernel
theorem dX11_know_31 : decode cX11_know 31 = .ok (.getfield 86, 3) := by decide +kernel
theorem dX11_know_34 : decode cX11_know 34 = .ok (.getfield 126, 3) := by decide +kernel
theorem dX11_know_37 : decode cX11_know 37 = .ok (.iload_n 1, 1) := by decide +kernel
theorem dX11_know_38 : decode cX11_know 38 = .ok (.iload_n 2, 1) := by decide +kernel
theorem dX11_know_39 : decode cX11_know 39 = .ok (.iastore, 1) := by decide +kernel
theorem dX11_know_40 : decode cX11_know 40 = .ok (.iload_n 3, 1) := by decide +kernel
theorem dX11_know_41 : decode cX11_know 41 = .ok (.ireturn, 1) := by decide +kernel
set_option maxRecDepth 20000 in
theorem ggX11_know_X11_isChild : GoodIn wsX11_know wsX11_isChild := goodIn_r _ [7, 1, 8, 12, 13, 14, 15, 16, 17, 18, 19, 20, 21, 22, 23, 24, 25, 26, 27, 28, 29, 30, 31, 32, 33, 34, 35, 36, 37, 38, 39, 40, 41, 42, 43, 44, 45, 46, 47] (by decide +kernel) (by decide +kernel)
set_option maxRecDepth 20000 in
theorem gX11_know_X11_isChild : GoodIn wsX11_know (wsV RX11 117 RX11 yX11_isChild wsX11_isChild) := goodIn_app (goodIn_of _ (by decide +kernel)) ggX11_know_X11_isChild
set_option maxRecDepth 20000 in
theorem ggX11_know_X11_areWords : GoodIn wsX11_know wsX11_areWords := goodIn_r _ [11] (by decide +kernel) (by decide +kernel)
set_option maxRecDepth 20000 in
theorem gX11_know_X11_areWords : GoodIn wsX11_know (va_wsS RX11 106 yX11_areWords wsX11_areWords) := goodIn_app (goodIn_of _ (by decide +kernel)) ggX11_know_X11_areWords
def fX11_know (g : c_G) (a1 : Int32) (a2 : Int32) : Option (c_G × Int32) :=
  (fX11_isChild g a1).bind fun r1 => if r1 = 0 then (some (g, (-1 : Int32))) else (if (fX11_areWords a2) = 0 then (some (g, (-2 : Int32))) else (if c_in (a1) (6) = true then c_let (c_si g 62 (a1).toNatClampNeg a2) fun g6 => some (g6, (g.1 62 (a1).toNatClampNeg)) else none))
set_option maxRecDepth 100000 in
set_option maxHeartbeats 4000000 in
theorem kX11_know {l : Launch} {D : va_G} {tc : Nat → ClassId} {ad : Nat → Nat} {A : Nat → Prop} {E : (Nat → Nat) × (Nat → Nat) × Nat} (hD : c_D A ad TC) {a1 : Int32} {a2 : Int32} {g g' : c_G} {r : Int32} (hf : fX11_know g a1 a2 = some (g', r)) : c_Mi l yX11_know wsX11_know (c_rm 1) D tc ad A E TC ([.ref (ad 0), .int a1, .int a2] : List Value) g g' r := by
  refine c_ofW (bytes := cX11_know) (maxL := 4) (ret := (some .int)) (by decide) rfl (Nat.le_of_ble_eq_true rfl) ?_
  intro p e s m below meth c ls C hP hS hl
  unfold fX11_know at hf
  obtain ⟨hx, hb, hr, hml, hts, hown, hlk, hK, hE⟩ := id C
  have hl : lv_has ls 4 [(0, .ref (ad 0)), (1, .int a1), (2, .int a2)] := hl
  refine lv_aload_n hx hb dX11_know_0 rfl (lv_at hl 0 rfl) ?_
  refine lv_iload_n hx hb dX11_know_1 rfl (lv_at hl 1 rfl) ?_
  obtain ⟨r1, hc2, hf⟩ := c_bd hf
  refine c_goi (va_runV (As := [.int a1]) (rest := []) ⟨hx, hb, hml, hown, hts⟩ (kX11_isChild hD hc2) (cwV 1 hts gX11_know_X11_isChild rfl rfl rfl (by decide +kernel) ⟨Nat.le_of_ble_eq_true rfl, Nat.le_of_ble_eq_true rfl⟩) (c_preV hK hP hE hS tC0 rfl) rfl rfl hl.1 rfl (lv_room (Nat.le_of_ble_eq_true rfl)) dX11_know_2 ⟨Nat.zero_le _, Nat.zero_le _⟩) hS (fun H locs hP hS => ?_)
  refine lv_if_ne (tgt := 10) hx hb dX11_know_5 (by decide) (fun c3 => ?_) (fun c3 => ?_)
  · have hf := c_ie c3 hf
    refine lv_iload_n hx hb dX11_know_10 rfl (lv_at hl 2 rfl) ?_
    refine c_goi (va_runS (As := [.int a2]) (rest := []) ⟨hx, hb, hml, hown, hts⟩ (kX11_areWords (T := TC) (g := g) rfl) (va_cwS 1 hts gX11_know_X11_areWords rfl rfl rfl (by decide +kernel) ⟨Nat.le_of_ble_eq_true rfl, Nat.le_of_ble_eq_true rfl⟩) (c_preS hK hP hE hS) rfl rfl hl.1 rfl (lv_room (Nat.le_of_ble_eq_true rfl)) dX11_know_11 ⟨Nat.zero_le _, Nat.zero_le _⟩) hS (fun H locs hP hS => ?_)
    refine lv_if_ne (tgt := 20) hx hb dX11_know_14 (by decide) (fun c4 => ?_) (fun c4 => ?_)
    · have hf := c_ie c4 hf
      refine lv_aload_n hx hb dX11_know_20 rfl (lv_at hl 0 rfl) ?_
      refine c_get hx hb hts i_X11_know_X11 hown hK hP 0 tC0 rfl 5 (by decide) (hts _ (List.mem_of_getElem? (i := 1) rfl)) (fun _ h9 => h9) rfl (v := .ref (ad 55)) rfl dX11_know_21 ?_
      refine c_get hx hb hts i_X11_know_X7 hown hK hP 55 tC55 rfl 9 (by decide) (hts _ (List.mem_of_getElem? (i := 2) rfl)) (fun _ h9 => h9) rfl (v := .ref (ad 62)) rfl dX11_know_24 ?_
      refine lv_iload_n hx hb dX11_know_27 rfl (lv_at hl 1 rfl) ?_
      obtain ⟨hi5, hf⟩ := c_gd hf
      refine c_iald (j := (a1).toNatClampNeg) hx hb hK hP 62 tC62 rfl (c_inV hi5) dX11_know_28 ?_
      refine lv_istore_n (lv' := [(3, .int (g.1 62 (a1).toNatClampNeg)), (0, .ref (ad 0)), (1, .int a1), (2, .int a2)]) hx hb dX11_know_29 rfl hl (by decide) rfl (fun ls hl => ?_)
      refine lv_aload_n hx hb dX11_know_30 rfl (lv_at hl 1 rfl) ?_
      refine c_get hx hb hts i_X11_know_X11 hown hK hP 0 tC0 rfl 5 (by decide) (hts _ (List.mem_of_getElem? (i := 1) rfl)) (fun _ h9 => h9) rfl (v := .ref (ad 55)) rfl dX11_know_31 ?_
      refine c_get hx hb hts i_X11_know_X7 hown hK hP 55 tC55 rfl 9 (by decide) (hts _ (List.mem_of_getElem? (i := 2) rfl)) (fun _ h9 => h9) rfl (v := .ref (ad 62)) rfl dX11_know_34 ?_
      refine lv_iload_n hx hb dX11_know_37 rfl (lv_at hl 2 rfl) ?_
      refine lv_iload_n hx hb dX11_know_38 rfl (lv_at hl 3 rfl) ?_
      obtain ⟨g6, eg6, hf⟩ := c_letE hf
      refine c_iast (j := (a1).toNatClampNeg) hx hb hK hP hD hS 62 tC62 rfl (c_inV hi5) eg6 dX11_know_39 (fun H locs hP hS => ?_)
      refine lv_iload_n hx hb dX11_know_40 rfl (lv_at hl 0 rfl) ?_
      exact c_iret hx hb hr hlk hP hS rfl (c_inj hf) dX11_know_41
    · have hf := c_it c4 hf
      refine lv_bipush (v := (-2 : Int32)) hx hb dX11_know_17 (by decide) ?_
      exact c_iret hx hb hr hlk hP hS rfl (c_inj hf) dX11_know_19
  · have hf := c_it c3 hf
    refine lv_iconst (v := (-1 : Int32)) hx hb dX11_know_8 (by decide) ?_
    exact c_iret hx hb hr hlk hP hS rfl (c_inj hf) dX11_know_9
theorem i_X11_basket_X7 : ∀ w ∈ u_ws RX7 TX7 17, w ∈ wsX11_basket := c_inP [31, 32, 33, 34, 35, 36, 37, 38, 39, 40, 41, 42, 43, 44, 45, 46, 47] (by decide +kernel)
theorem i_X11_basket_X11 : ∀ w ∈ u_ws RX11 TX11 19, w ∈ wsX11_basket := c_inP [12, 13, 14, 15, 16, 17, 18, 19, 20, 21, 22, 23, 24, 25, 26, 27, 28, 29, 30] (by decide +kernel)
theorem dX11_basket_0 : decode cX11_basket 0 = .ok (.aload_n 0, 1) := by decide +kernel
theorem dX11_basket_1 : decode cX11_basket 1 = .ok (.iload_n 1, 1) := by decide +kernel
theorem dX11_basket_2 : decode cX11_basket 2 = .ok (.invokevirtual 117, 3) := by decide +kernel
theorem dX11_basket_5 : decode cX11_basket 5 = .ok (.ifCond .eq 15, 3) := by decide +kernel
theorem dX11_basket_8 : decode cX11_basket 8 = .ok (.iload_n 2, 1) := by decide +kernel
theorem dX11_basket_9 : decode cX11_basket 9 = .ok (.iconst (-1), 1) := by decide +kernel
theorem dX11_basket_10 : decode cX11_basket 10 = .ok (.if_icmp .eq 12, 3) := by decide +kernel
theorem dX11_basket_13 : decode cX11_basket 13 = .ok (.iload_n 2, 1) := by decide +kernel
theorem dX11_basket_14 : decode cX11_basket 14 = .ok (.invokestatic 139, 3) := by decide +kernel
theorem dX11_basket_17 : decode cX11_basket 17 = .ok (.ifCond .ne 5, 3) := by decide +kernel
theorem dX11_basket_20 : decode cX11_basket 20 = .ok (.iconst (-1), 1) := by decide +kernel
theorem dX11_basket_21 : decode cX11_basket 21 = .ok (.ireturn, 1) := by decide +kernel
theorem dX11_basket_22 : decode cX11_basket 22 = .ok (.aload_n 0, 1) := by decide +kernel
theorem dX11_basket_23 : decode cX11_basket 23 = .ok (.getfield 86, 3) := by decide +kernel
theorem dX11_basket_26 : decode cX11_basket 26 = .ok (.getfield 132, 3) := by decide +kernel
theorem dX11_basket_29 : decode cX11_basket 29 = .ok (.iload_n 1, 1) := by decide +kernel
theorem dX11_basket_30 : decode cX11_basket 30 = .ok (.iaload, 1) := by decide +kernel
theorem dX11_basket_31 : decode cX11_basket 31 = .ok (.istore_n 3, 1) := by decide +kernel
theorem dX11_basket_32 : decode cX11_basket 32 = .ok (.aload_n 0, 1) := by decide +kernel
theorem dX11_basket_33 : decode cX11_basket 33 = .ok (.getfield 86, 3) := by decide +kernel
theorem dX11_basket_36 : decode cX11_basket 36 = .ok (.getfield 132, 3) := by decide +kernel
theorem dX11_basket_39 : decode cX11_basket 39 = .ok (.iload_n 1, 1) := by decide +kernel
theorem dX11_basket_40 : decode cX11_basket 40 = .ok (.iload_n 2, 1) := by decide +kernel
theorem dX11_basket_41 : decode cX11_basket 41 = .ok (.ifCond .ge 8, 3) := by decide +kernel
theorem dX11_basket_44 : decode cX11_basket 44 = .ok (.bipush (-5), 2) := by decide +kernel
theorem dX11_basket_46 : decode cX11_basket 46 = .ok (.goto 4, 3) := by decide +kernel
theorem dX11_basket_49 : decode cX11_basket 49 = .ok (.iload_n 2, 1) := by decide +kernel
theorem dX11_basket_50 : decode cX11_basket 50 = .ok (.iastore, 1) := by decide +kernel
theorem dX11_basket_51 : decode cX11_basket 51 = .ok (.iload_n 3, 1) := by decide +kernel
theorem dX11_basket_52 : decode cX11_basket 52 = .ok (.ireturn, 1) := by decide +kernel
set_option maxRecDepth 20000 in
theorem ggX11_basket_X11_isChild : GoodIn wsX11_basket wsX11_isChild := goodIn_r _ [7, 1, 8, 12, 13, 14, 15, 16, 17, 18, 19, 20, 21, 22, 23, 24, 25, 26, 27, 28, 29, 30, 31, 32, 33, 34, 35, 36, 37, 38, 39, 40, 41, 42, 43, 44, 45, 46, 47] (by decide +kernel) (by decide +kernel)
set_option maxRecDepth 20000 in
theorem gX11_basket_X11_isChild : GoodIn wsX11_basket (wsV RX11 117 RX11 yX11_isChild wsX11_isChild) := goodIn_app (goodIn_of _ (by decide +kernel)) ggX11_basket_X11_isChild
set_option maxRecDepth 20000 in
theorem ggX11_basket_X11_isElder : GoodIn wsX11_basket wsX11_isElder := goodIn_r _ [11] (by decide +kernel) (by decide +kernel)
set_option maxRecDepth 20000 in
theorem gX11_basket_X11_isElder : GoodIn wsX11_basket (va_wsS RX11 139 yX11_isElder wsX11_isElder) := goodIn_app (goodIn_of _ (by decide +kernel)) ggX11_basket_X11_isElder
def fX11_basket_50  (a1 : Int32) (a2 : Int32) (x3 : Int32) (y1 : Int32) (y2 : Int32) (g : c_G) : Option (c_G × Int32) :=
  if c_in (y1) (6) = true then c_let (c_si g 64 (y1).toNatClampNeg y2) fun g50002 => some (g50002, x3) else none
set_option maxRecDepth 100000 in
set_option maxHeartbeats 4000000 in
theorem jX11_basket_50 {p : Program} {l : Launch} {e : Env} {s : State} {m : MethodId} {below : List Frame} {meth : Method} {c : Code} {D : va_G} {tc : Nat → ClassId} {ad : Nat → Nat} {A : Nat → Prop} {E : (Nat → Nat) × (Nat → Nat) × Nat} {a1 : Int32} {a2 : Int32} {g' : c_G} {r : Int32} (C : c_C p s m meth c D tc A E RX11 wsX11_basket cX11_basket 4 (some .int) ([.ref (ad 0), .int a1, .int a2] : List Value).toArray) (hD : c_D A ad TC)  : ∀ (x3 : Int32) (y1 : Int32) (y2 : Int32) (g : c_G), fX11_basket_50 a1 a2 x3 y1 y2 g = some (g', r) → ∀ (H : Heap) (locs : List Loc), va_P D vwCl (c_ws tc ad TC g) H → va_S A s.heap H locs → ∀ ls : Array Slot, lv_has ls 4 [(3, .int x3)] → W p l e (c_rm 1) s m ([.ref (ad 0), .int a1, .int a2] : List Value).toArray below meth c H locs 0 0 (MQ below (va_Qi (fun (x : Int32) (_ : Unit) => x = r) (fun _ t => va_P D vwCl (c_ws tc ad TC g') t.heap) A) ([.ref (ad 0), .int a1, .int a2] : List Value).toArray s 0 0 A) (F0 m 50 ls [.int y2, .int y1, .ref (ad 64)]) := by
  obtain ⟨hx, hb, hr, hml, hts, hown, hlk, hK, hE⟩ := id C
  intro x3 y1 y2 g hf H locs hP hS ls hl
  unfold fX11_basket_50 at hf
  obtain ⟨hi50001, hf⟩ := c_gd hf
  obtain ⟨g50002, eg50002, hf⟩ := c_letE hf
  refine c_iast (j := (y1).toNatClampNeg) hx hb hK hP hD hS 64 tC64 rfl (c_inV hi50001) eg50002 dX11_basket_50 (fun H locs hP hS => ?_)
  refine lv_iload_n hx hb dX11_basket_51 rfl (lv_at hl 0 rfl) ?_
  exact c_iret hx hb hr hlk hP hS rfl (c_inj hf) dX11_basket_52
def fX11_basket_22  (a1 : Int32) (a2 : Int32) (x1 : Int32) (x2 : Int32) (g : c_G) : Option (c_G × Int32) :=
  if c_in (x1) (6) = true then if 0 ≤ x2 then (fX11_basket_50 a1 a2 ((g.1 64 (x1).toNatClampNeg)) x1 x2 g) else (fX11_basket_50 a1 a2 ((g.1 64 (x1).toNatClampNeg)) x1 ((-5 : Int32)) g) else none
set_option maxRecDepth 100000 in
set_option maxHeartbeats 4000000 in
theorem jX11_basket_22 {p : Program} {l : Launch} {e : Env} {s : State} {m : MethodId} {below : List Frame} {meth : Method} {c : Code} {D : va_G} {tc : Nat → ClassId} {ad : Nat → Nat} {A : Nat → Prop} {E : (Nat → Nat) × (Nat → Nat) × Nat} {a1 : Int32} {a2 : Int32} {g' : c_G} {r : Int32} (C : c_C p s m meth c D tc A E RX11 wsX11_basket cX11_basket 4 (some .int) ([.ref (ad 0), .int a1, .int a2] : List Value).toArray) (hD : c_D A ad TC)  : ∀ (x1 : Int32) (x2 : Int32) (g : c_G), fX11_basket_22 a1 a2 x1 x2 g = some (g', r) → ∀ (H : Heap) (locs : List Loc), va_P D vwCl (c_ws tc ad TC g) H → va_S A s.heap H locs → ∀ ls : Array Slot, lv_has ls 4 [(0, .ref (ad 0)), (1, .int x1), (2, .int x2)] → W p l e (c_rm 1) s m ([.ref (ad 0), .int a1, .int a2] : List Value).toArray below meth c H locs 0 0 (MQ below (va_Qi (fun (x : Int32) (_ : Unit) => x = r) (fun _ t => va_P D vwCl (c_ws tc ad TC g') t.heap) A) ([.ref (ad 0), .int a1, .int a2] : List Value).toArray s 0 0 A) (F0 m 22 ls []) := by
  obtain ⟨hx, hb, hr, hml, hts, hown, hlk, hK, hE⟩ := id C
  intro x1 x2 g hf H locs hP hS ls hl
  unfold fX11_basket_22 at hf
  refine lv_aload_n hx hb dX11_basket_22 rfl (lv_at hl 0 rfl) ?_
  refine c_get hx hb hts i_X11_basket_X11 hown hK hP 0 tC0 rfl 5 (by decide) (hts _ (List.mem_of_getElem? (i := 1) rfl)) (fun _ h9 => h9) rfl (v := .ref (ad 55)) rfl dX11_basket_23 ?_
  refine c_get hx hb hts i_X11_basket_X7 hown hK hP 55 tC55 rfl 11 (by decide) (hts _ (List.mem_of_getElem? (i := 2) rfl)) (fun _ h9 => h9) rfl (v := .ref (ad 64)) rfl dX11_basket_26 ?_
  refine lv_iload_n hx hb dX11_basket_29 rfl (lv_at hl 1 rfl) ?_
  obtain ⟨hi22001, hf⟩ := c_gd hf
  refine c_iald (j := (x1).toNatClampNeg) hx hb hK hP 64 tC64 rfl (c_inV hi22001) dX11_basket_30 ?_
  refine lv_istore_n (lv' := [(3, .int (g.1 64 (x1).toNatClampNeg)), (0, .ref (ad 0)), (1, .int x1), (2, .int x2)]) hx hb dX11_basket_31 rfl hl (by decide) rfl (fun ls hl => ?_)
  refine lv_aload_n hx hb dX11_basket_32 rfl (lv_at hl 1 rfl) ?_
  refine c_get hx hb hts i_X11_basket_X11 hown hK hP 0 tC0 rfl 5 (by decide) (hts _ (List.mem_of_getElem? (i := 1) rfl)) (fun _ h9 => h9) rfl (v := .ref (ad 55)) rfl dX11_basket_33 ?_
  refine c_get hx hb hts i_X11_basket_X7 hown hK hP 55 tC55 rfl 11 (by decide) (hts _ (List.mem_of_getElem? (i := 2) rfl)) (fun _ h9 => h9) rfl (v := .ref (ad 64)) rfl dX11_basket_36 ?_
  refine lv_iload_n hx hb dX11_basket_39 rfl (lv_at hl 2 rfl) ?_
  refine lv_iload_n hx hb dX11_basket_40 rfl (lv_at hl 3 rfl) ?_
  refine lv_if_ge (tgt := 49) hx hb dX11_basket_41 (by decide) (fun c22002 => ?_) (fun c22002 => ?_)
  · have hf := c_it c22002 hf
    refine lv_iload_n hx hb dX11_basket_49 rfl (lv_at hl 3 rfl) ?_
    exact jX11_basket_50 C hD ((g.1 64 (x1).toNatClampNeg)) x1 x2 g hf _ _ hP hS _ (lv_sub hl [0] rfl)
  · have hf := c_ie c22002 hf
    refine lv_bipush (v := (-5 : Int32)) hx hb dX11_basket_44 (by decide) ?_
    refine lv_goto (tgt := 50) hx hb dX11_basket_46 (by decide) ?_
    exact jX11_basket_50 C hD ((g.1 64 (x1).toNatClampNeg)) x1 ((-5 : Int32)) g hf _ _ hP hS _ (lv_sub hl [0] rfl)
def fX11_basket (g : c_G) (a1 : Int32) (a2 : Int32) : Option (c_G × Int32) :=
  (fX11_isChild g a1).bind fun r1 => if r1 = 0 then (some (g, (-1 : Int32))) else (if a2 = (-1 : Int32) then (fX11_basket_22 a1 a2 a1 a2 g) else (if (fX11_isElder a2) = 0 then (some (g, (-1 : Int32))) else (fX11_basket_22 a1 a2 a1 a2 g)))
set_option maxRecDepth 100000 in
set_option maxHeartbeats 4000000 in
theorem kX11_basket {l : Launch} {D : va_G} {tc : Nat → ClassId} {ad : Nat → Nat} {A : Nat → Prop} {E : (Nat → Nat) × (Nat → Nat) × Nat} (hD : c_D A ad TC) {a1 : Int32} {a2 : Int32} {g g' : c_G} {r : Int32} (hf : fX11_basket g a1 a2 = some (g', r)) : c_Mi l yX11_basket wsX11_basket (c_rm 1) D tc ad A E TC ([.ref (ad 0), .int a1, .int a2] : List Value) g g' r := by
  refine c_ofW (bytes := cX11_basket) (maxL := 4) (ret := (some .int)) (by decide) rfl (Nat.le_of_ble_eq_true rfl) ?_
  intro p e s m below meth c ls C hP hS hl
  unfold fX11_basket at hf
  obtain ⟨hx, hb, hr, hml, hts, hown, hlk, hK, hE⟩ := id C
  have hl : lv_has ls 4 [(0, .ref (ad 0)), (1, .int a1), (2, .int a2)] := hl
  refine lv_aload_n hx hb dX11_basket_0 rfl (lv_at hl 0 rfl) ?_
  refine lv_iload_n hx hb dX11_basket_1 rfl (lv_at hl 1 rfl) ?_
  obtain ⟨r1, hc2, hf⟩ := c_bd hf
  refine c_goi (va_runV (As := [.int a1]) (rest := []) ⟨hx, hb, hml, hown, hts⟩ (kX11_isChild hD hc2) (cwV 1 hts gX11_basket_X11_isChild rfl rfl rfl (by decide +kernel) ⟨Nat.le_of_ble_eq_true rfl, Nat.le_of_ble_eq_true rfl⟩) (c_preV hK hP hE hS tC0 rfl) rfl rfl hl.1 rfl (lv_room (Nat.le_of_ble_eq_true rfl)) dX11_basket_2 ⟨Nat.zero_le _, Nat.zero_le _⟩) hS (fun H locs hP hS => ?_)
  refine lv_if_eq (tgt := 20) hx hb dX11_basket_5 (by decide) (fun c3 => ?_) (fun c3 => ?_)
  · have hf := c_it c3 hf
    refine lv_iconst (v := (-1 : Int32)) hx hb dX11_basket_20 (by decide) ?_
    exact c_iret hx hb hr hlk hP hS rfl (c_inj hf) dX11_basket_21
  · have hf := c_ie c3 hf
    refine lv_iload_n hx hb dX11_basket_8 rfl (lv_at hl 2 rfl) ?_
    refine lv_iconst (v := (-1 : Int32)) hx hb dX11_basket_9 (by decide) ?_
    refine lv_icmp_eq (tgt := 22) hx hb dX11_basket_10 (by decide) (fun c4 => ?_) (fun c4 => ?_)
    · have hf := c_it c4 hf
      exact jX11_basket_22 C hD a1 a2 g hf _ _ hP hS _ (lv_sub hl [0, 1, 2] rfl)
    · have hf := c_ie c4 hf
      refine lv_iload_n hx hb dX11_basket_13 rfl (lv_at hl 2 rfl) ?_
      refine c_goi (va_runS (As := [.int a2]) (rest := []) ⟨hx, hb, hml, hown, hts⟩ (kX11_isElder (T := TC) (g := g) rfl) (va_cwS 1 hts gX11_basket_X11_isElder rfl rfl rfl (by decide +kernel) ⟨Nat.le_of_ble_eq_true rfl, Nat.le_of_ble_eq_true rfl⟩) (c_preS hK hP hE hS) rfl rfl hl.1 rfl (lv_room (Nat.le_of_ble_eq_true rfl)) dX11_basket_14 ⟨Nat.zero_le _, Nat.zero_le _⟩) hS (fun H locs hP hS => ?_)
      refine lv_if_ne (tgt := 22) hx hb dX11_basket_17 (by decide) (fun c5 => ?_) (fun c5 => ?_)
      · have hf := c_ie c5 hf
        exact jX11_basket_22 C hD a1 a2 g hf _ _ hP hS _ (lv_sub hl [0, 1, 2] rfl)
      · have hf := c_it c5 hf
        refine lv_iconst (v := (-1 : Int32)) hx hb dX11_basket_20 (by decide) ?_
        exact c_iret hx hb hr hlk hP hS rfl (c_inj hf) dX11_basket_21
theorem i_X11_take_X11 : ∀ w ∈ u_ws RX11 TX11 19, w ∈ wsX11_take := c_inP [103, 104, 105, 106, 107, 108, 109, 110, 111, 112, 113, 114, 115, 116, 117, 118, 119, 120, 121] (by decide +kernel)
theorem dX11_take_0 : decode cX11_take 0 = .ok (.aload_n 0, 1) := by decide +kernel
theorem dX11_take_1 : decode cX11_take 1 = .ok (.iload_n 1, 1) := by decide +kernel
theorem dX11_take_2 : decode cX11_take 2 = .ok (.invokevirtual 117, 3) := by decide +kernel
theorem dX11_take_5 : decode cX11_take 5 = .ok (.ifCond .eq 10, 3) := by decide +kernel
theorem dX11_take_8 : decode cX11_take 8 = .ok (.iload_n 2, 1) := by decide +kernel
theorem dX11_take_9 : decode cX11_take 9 = .ok (.invokestatic 139, 3) := by decide +kernel
theorem dX11_take_12 : decode cX11_take 12 = .ok (.ifCond .ne 5, 3) := by decide +kernel
theorem dX11_take_15 : decode cX11_take 15 = .ok (.iconst (-1), 1) := by decide +kernel
theorem dX11_take_16 : decode cX11_take 16 = .ok (.ireturn, 1) := by decide +kernel
theorem dX11_take_17 : decode cX11_take 17 = .ok (.aload_n 0, 1) := by decide +kernel
theorem dX11_take_18 : decode cX11_take 18 = .ok (.aload_n 0, 1) := by decide +kernel
theorem dX11_take_19 : decode cX11_take 19 = .ok (.getfield 86, 3) := by decide +kernel
theorem dX11_take_22 : decode cX11_take 22 = .ok (.iload_n 1, 1) := by decide +kernel
theorem dX11_take_23 : decode cX11_take 23 = .ok (.iload_n 2, 1) := by decide +kernel
theorem dX11_take_24 : decode cX11_take 24 = .ok (.invokevirtual 169, 3) := by decide +kernel
theorem dX11_take_27 : decode cX11_take 27 = .ok (.ireturn, 1) := by decide +kernel
set_option maxRecDepth 20000 in
theorem ggX11_take_X11_isChild : GoodIn wsX11_take wsX11_isChild := goodIn_r _ [6, 1, 7, 103, 104, 105, 106, 107, 108, 109, 110, 111, 112, 113, 114, 115, 116, 117, 118, 119, 120, 121, 122, 123, 124, 125, 126, 127, 128, 129, 130, 131, 132, 133, 134, 135, 136, 137, 138] (by decide +kernel) (by decide +kernel)
set_option maxRecDepth 20000 in
theorem gX11_take_X11_isChild : GoodIn wsX11_take (wsV RX11 117 RX11 yX11_isChild wsX11_isChild) := goodIn_app (goodIn_of _ (by decide +kernel)) ggX11_take_X11_isChild
set_option maxRecDepth 20000 in
theorem ggX11_take_X11_isElder : GoodIn wsX11_take wsX11_isElder := goodIn_r _ [10] (by decide +kernel) (by decide +kernel)
set_option maxRecDepth 20000 in
theorem gX11_take_X11_isElder : GoodIn wsX11_take (va_wsS RX11 139 yX11_isElder wsX11_isElder) := goodIn_app (goodIn_of _ (by decide +kernel)) ggX11_take_X11_isElder
set_option maxRecDepth 20000 in
theorem ggX11_take_X11_takeTo : GoodIn wsX11_take wsX11_takeTo := goodIn_r _ [14, 15, 16, 17, 18, 19, 20, 21, 5, 22, 23, 24, 25, 26, 27, 28, 29, 30, 31, 32, 33, 34, 35, 36, 37, 38, 39, 40, 41, 42, 43, 44, 45, 46, 47, 48, 49, 50, 51, 52, 53, 54, 55, 56, 57, 58, 59, 60, 61, 62, 63, 64, 65, 66, 67, 68, 69, 70, 71, 72, 73, 74, 75, 76, 77, 78, 79, 80, 81, 82, 83, 84, 85, 86, 87, 88, 89, 90, 91, 92, 93, 94, 95, 96, 97, 98, 99, 100, 101, 102, 122, 123, 124, 125, 126, 127, 128, 129, 130, 131, 132, 133, 134, 135, 136, 137, 138, 103, 104, 105, 106, 107, 108, 109, 110, 111, 112, 113, 114, 115, 116, 117, 118, 119, 120, 121, 139, 140, 141, 142, 143, 144, 145, 146] (by decide +kernel) (by decide +kernel)
set_option maxRecDepth 20000 in
theorem gX11_take_X11_takeTo : GoodIn wsX11_take (wsV RX11 169 RX11 yX11_takeTo wsX11_takeTo) := goodIn_app (goodIn_of _ (by decide +kernel)) ggX11_take_X11_takeTo
def fX11_take (g : c_G) (a1 : Int32) (a2 : Int32) : Option (c_G × Int32) :=
  (fX11_isChild g a1).bind fun r1 => if r1 = 0 then (some (g, (-1 : Int32))) else (if (fX11_isElder a2) = 0 then (some (g, (-1 : Int32))) else (c_b2 (fX11_takeTo g 55 a1 a2) fun g6 r7 => some (g6, r7)))
set_option maxRecDepth 100000 in
set_option maxHeartbeats 4000000 in
theorem kX11_take {l : Launch} {D : va_G} {tc : Nat → ClassId} {ad : Nat → Nat} {A : Nat → Prop} {E : (Nat → Nat) × (Nat → Nat) × Nat} (hD : c_D A ad TC) {a1 : Int32} {a2 : Int32} {g g' : c_G} {r : Int32} (hf : fX11_take g a1 a2 = some (g', r)) : c_Mi l yX11_take wsX11_take (c_rm 5) D tc ad A E TC ([.ref (ad 0), .int a1, .int a2] : List Value) g g' r := by
  refine c_ofW (bytes := cX11_take) (maxL := 3) (ret := (some .int)) (by decide) rfl (Nat.le_of_ble_eq_true rfl) ?_
  intro p e s m below meth c ls C hP hS hl
  unfold fX11_take at hf
  obtain ⟨hx, hb, hr, hml, hts, hown, hlk, hK, hE⟩ := id C
  have hl : lv_has ls 3 [(0, .ref (ad 0)), (1, .int a1), (2, .int a2)] := hl
  refine lv_aload_n hx hb dX11_take_0 rfl (lv_at hl 0 rfl) ?_
  refine lv_iload_n hx hb dX11_take_1 rfl (lv_at hl 1 rfl) ?_
  obtain ⟨r1, hc2, hf⟩ := c_bd hf
  refine c_goi (va_runV (As := [.int a1]) (rest := []) ⟨hx, hb, hml, hown, hts⟩ (kX11_isChild hD hc2) (cwV 1 hts gX11_take_X11_isChild rfl rfl rfl (by decide +kernel) ⟨Nat.le_of_ble_eq_true rfl, Nat.le_of_ble_eq_true rfl⟩) (c_preV hK hP hE hS tC0 rfl) rfl rfl hl.1 rfl (lv_room (Nat.le_of_ble_eq_true rfl)) dX11_take_2 ⟨Nat.zero_le _, Nat.zero_le _⟩) hS (fun H locs hP hS => ?_)
  refine lv_if_eq (tgt := 15) hx hb dX11_take_5 (by decide) (fun c3 => ?_) (fun c3 => ?_)
  · have hf := c_it c3 hf
    refine lv_iconst (v := (-1 : Int32)) hx hb dX11_take_15 (by decide) ?_
    exact c_iret hx hb hr hlk hP hS rfl (c_inj hf) dX11_take_16
  · have hf := c_ie c3 hf
    refine lv_iload_n hx hb dX11_take_8 rfl (lv_at hl 2 rfl) ?_
    refine c_goi (va_runS (As := [.int a2]) (rest := []) ⟨hx, hb, hml, hown, hts⟩ (kX11_isElder (T := TC) (g := g) rfl) (va_cwS 1 hts gX11_take_X11_isElder rfl rfl rfl (by decide +kernel) ⟨Nat.le_of_ble_eq_true rfl, Nat.le_of_ble_eq_true rfl⟩) (c_preS hK hP hE hS) rfl rfl hl.1 rfl (lv_room (Nat.le_of_ble_eq_true rfl)) dX11_take_9 ⟨Nat.zero_le _, Nat.zero_le _⟩) hS (fun H locs hP hS => ?_)
    refine lv_if_ne (tgt := 17) hx hb dX11_take_12 (by decide) (fun c4 => ?_) (fun c4 => ?_)
    · have hf := c_ie c4 hf
      refine lv_aload_n hx hb dX11_take_17 rfl (lv_at hl 0 rfl) ?_
      refine lv_aload_n hx hb dX11_take_18 rfl (lv_at hl 0 rfl) ?_
      refine c_get hx hb hts i_X11_take_X11 hown hK hP 0 tC0 rfl 5 (by decide) (hts _ (List.mem_of_getElem? (i := 1) rfl)) (fun _ h9 => h9) rfl (v := .ref (ad 55)) rfl dX11_take_19 ?_
      refine lv_iload_n hx hb dX11_take_22 rfl (lv_at hl 1 rfl) ?_
      refine lv_iload_n hx hb dX11_take_23 rfl (lv_at hl 2 rfl) ?_
      obtain ⟨g6, r7, hc5, hf⟩ := c_b2E hf
      refine c_goi (va_runV (As := [.ref (ad 55), .int a1, .int a2]) (rest := []) ⟨hx, hb, hml, hown, hts⟩ (kX11_takeTo hD hc5) (cwV 3 hts gX11_take_X11_takeTo rfl rfl rfl (by decide +kernel) ⟨Nat.le_of_ble_eq_true rfl, Nat.le_of_ble_eq_true rfl⟩) (c_preV hK hP hE hS tC0 rfl) rfl rfl hl.1 rfl (lv_room (Nat.le_of_ble_eq_true rfl)) dX11_take_24 ⟨Nat.zero_le _, Nat.zero_le _⟩) hS (fun H locs hP hS => ?_)
      exact c_iret hx hb hr hlk hP hS rfl (c_inj hf) dX11_take_27
    · have hf := c_it c4 hf
      refine lv_iconst (v := (-1 : Int32)) hx hb dX11_take_15 (by decide) ?_
      exact c_iret hx hb hr hlk hP hS rfl (c_inj hf) dX11_take_16
theorem i_X11_set_X7 : ∀ w ∈ u_ws RX7 TX7 17, w ∈ wsX11_set := c_inP [27, 28, 29, 30, 31, 32, 33, 34, 35, 36, 37, 38, 39, 40, 41, 42, 43] (by decide +kernel)
theorem i_X11_set_X11 : ∀ w ∈ u_ws RX11 TX11 19, w ∈ wsX11_set := c_inP [8, 9, 10, 11, 12, 13, 14, 15, 16, 17, 18, 19, 20, 21, 22, 23, 24, 25, 26] (by decide +kernel)
theorem dX11_set_0 : decode cX11_set 0 = .ok (.iload_n 1, 1) := by decide +kernel
theorem dX11_set_1 : decode cX11_set 1 = .ok (.invokestatic 139, 3) := by decide +kernel
theorem dX11_set_4 : decode cX11_set 4 = .ok (.ifCond .eq 12, 3) := by decide +kernel
theorem dX11_set_7 : decode cX11_set 7 = .ok (.iload_n 2, 1) := by decide +kernel
theorem dX11_set_8 : decode cX11_set 8 = .ok (.ifCond .lt 8, 3) := by decide +kernel
theorem dX11_set_11 : decode cX11_set 11 = .ok (.iload_n 2, 1) := by decide +kernel
theorem dX11_set_12 : decode cX11_set 12 = .ok (.iconst 1, 1) := by decide +kernel
theorem dX11_set_13 : decode cX11_set 13 = .ok (.if_icmp .le 5, 3) := by decide +kernel
theorem dX11_set_16 : decode cX11_set 16 = .ok (.iconst (-1), 1) := by decide +kernel
theorem dX11_set_17 : decode cX11_set 17 = .ok (.ireturn, 1) := by decide +kernel
theorem dX11_set_18 : decode cX11_set 18 = .ok (.iload_n 3, 1) := by decide +kernel
theorem dX11_set_19 : decode cX11_set 19 = .ok (.ifCond .lt 17, 3) := by decide +kernel
theorem dX11_set_22 : decode cX11_set 22 = .ok (.iload_n 3, 1) := by decide +kernel
theorem dX11_set_23 : decode cX11_set 23 = .ok (.iload_n 2, 1) := by decide +kernel
theorem dX11_set_24 : decode cX11_set 24 = .ok (.ifCond .ne 8, 3) := by decide +kernel
theorem dX11_set_27 : decode cX11_set 27 = .ok (.bipush 9, 2) := by decide +kernel
theorem dX11_set_29 : decode cX11_set 29 = .ok (.goto 4, 3) := by decide +kernel
theorem dX11_set_32 : decode cX11_set 32 = .ok (.iconst 1, 1) := by decide +kernel
theorem dX11_set_33 : decode cX11_set 33 = .ok (.if_icmp .le 6, 3) := by decide +kernel
theorem dX11_set_36 : decode cX11_set 36 = .ok (.bipush (-2), 2) := by decide +kernel
theorem dX11_set_38 : decode cX11_set 38 = .ok (.ireturn, 1) := by decide +kernel
theorem dX11_set_39 : decode cX11_set 39 = .ok (.iload_n 2, 1) := by decide +kernel
theorem dX11_set_40 : decode cX11_set 40 = .ok (.ifCond .ne 13, 3) := by decide +kernel
theorem dX11_set_43 : decode cX11_set 43 = .ok (.aload_n 0, 1) := by decide +kernel
theorem dX11_set_44 : decode cX11_set 44 = .ok (.getfield 86, 3) := by decide +kernel
theorem dX11_set_47 : decode cX11_set 47 = .ok (.getfield 146, 3) := by decide +kernel
theorem dX11_set_50 : decode cX11_set 50 = .ok (.goto 10, 3) := by decide +kernel
theorem dX11_set_53 : decode cX11_set 53 = .ok (.aload_n 0, 1) := by decide +kernel
theorem dX11_set_54 : decode cX11_set 54 = .ok (.getfield 86, 3) := by decide +kernel
theorem dX11_set_57 : decode cX11_set 57 = .ok (.getfield 155, 3) := by decide +kernel
theorem dX11_set_60 : decode cX11_set 60 = .ok (.astore 4, 2) := by decide +kernel
theorem dX11_set_62 : decode cX11_set 62 = .ok (.aload 4, 2) := by decide +kernel
theorem dX11_set_64 : decode cX11_set 64 = .ok (.iload_n 1, 1) := by decide +kernel
theorem dX11_set_65 : decode cX11_set 65 = .ok (.iaload, 1) := by decide +kernel
theorem dX11_set_66 : decode cX11_set 66 = .ok (.istore 5, 2) := by decide +kernel
theorem dX11_set_68 : decode cX11_set 68 = .ok (.aload 4, 2) := by decide +kernel
theorem dX11_set_70 : decode cX11_set 70 = .ok (.iload_n 1, 1) := by decide +kernel
theorem dX11_set_71 : decode cX11_set 71 = .ok (.iload_n 3, 1) := by decide +kernel
theorem dX11_set_72 : decode cX11_set 72 = .ok (.iastore, 1) := by decide +kernel
theorem dX11_set_73 : decode cX11_set 73 = .ok (.iload 5, 2) := by decide +kernel
theorem dX11_set_75 : decode cX11_set 75 = .ok (.ireturn, 1) := by decide +kernel
set_option maxRecDepth 20000 in
theorem ggX11_set_X11_isElder : GoodIn wsX11_set wsX11_isElder := goodIn_r _ [7] (by decide +kernel) (by decide +kernel)
set_option maxRecDepth 20000 in
theorem gX11_set_X11_isElder : GoodIn wsX11_set (va_wsS RX11 139 yX11_isElder wsX11_isElder) := goodIn_app (goodIn_of _ (by decide +kernel)) ggX11_set_X11_isElder
def fX11_set_60  (a1 : Int32) (a2 : Int32) (a3 : Int32) (x1 : Int32) (x3 : Int32) (y0 : Nat) (g : c_G) : Option (c_G × Int32) :=
  (c_ia TC (y0)).bind fun n60002 => if c_in (x1) (n60002) = true then c_let (c_si g y0 (x1).toNatClampNeg x3) fun g60004 => some (g60004, (g.1 y0 (x1).toNatClampNeg)) else none
set_option maxRecDepth 100000 in
set_option maxHeartbeats 4000000 in
theorem jX11_set_60 {p : Program} {l : Launch} {e : Env} {s : State} {m : MethodId} {below : List Frame} {meth : Method} {c : Code} {D : va_G} {tc : Nat → ClassId} {ad : Nat → Nat} {A : Nat → Prop} {E : (Nat → Nat) × (Nat → Nat) × Nat} {a1 : Int32} {a2 : Int32} {a3 : Int32} {g' : c_G} {r : Int32} (C : c_C p s m meth c D tc A E RX11 wsX11_set cX11_set 6 (some .int) ([.ref (ad 0), .int a1, .int a2, .int a3] : List Value).toArray) (hD : c_D A ad TC)  : ∀ (x1 : Int32) (x3 : Int32) (y0 : Nat) (g : c_G), fX11_set_60 a1 a2 a3 x1 x3 y0 g = some (g', r) → ∀ (H : Heap) (locs : List Loc), va_P D vwCl (c_ws tc ad TC g) H → va_S A s.heap H locs → ∀ ls : Array Slot, lv_has ls 6 [(1, .int x1), (3, .int x3)] → W p l e (c_rm 1) s m ([.ref (ad 0), .int a1, .int a2, .int a3] : List Value).toArray below meth c H locs 0 0 (MQ below (va_Qi (fun (x : Int32) (_ : Unit) => x = r) (fun _ t => va_P D vwCl (c_ws tc ad TC g') t.heap) A) ([.ref (ad 0), .int a1, .int a2, .int a3] : List Value).toArray s 0 0 A) (F0 m 60 ls [.ref (ad y0)]) := by
  obtain ⟨hx, hb, hr, hml, hts, hown, hlk, hK, hE⟩ := id C
  intro x1 x3 y0 g hf H locs hP hS ls hl
  unfold fX11_set_60 at hf
  refine lv_astore (lv' := [(4, .ref (ad y0)), (1, .int x1), (3, .int x3)]) hx hb dX11_set_60 hl (by decide) rfl (fun ls hl => ?_)
  refine lv_aload hx hb dX11_set_62 (lv_at hl 0 rfl) ?_
  refine lv_iload_n hx hb dX11_set_64 rfl (lv_at hl 1 rfl) ?_
  obtain ⟨n60002, ha60001, hf⟩ := c_bd hf
  have ha60001T := c_iaE ha60001
  obtain ⟨hi60003, hf⟩ := c_gd hf
  refine c_iald (j := (x1).toNatClampNeg) hx hb hK hP y0 ha60001T rfl (c_inV hi60003) dX11_set_65 ?_
  refine lv_istore (lv' := [(5, .int (g.1 y0 (x1).toNatClampNeg)), (4, .ref (ad y0)), (1, .int x1), (3, .int x3)]) hx hb dX11_set_66 hl (by decide) rfl (fun ls hl => ?_)
  refine lv_aload hx hb dX11_set_68 (lv_at hl 1 rfl) ?_
  refine lv_iload_n hx hb dX11_set_70 rfl (lv_at hl 2 rfl) ?_
  refine lv_iload_n hx hb dX11_set_71 rfl (lv_at hl 3 rfl) ?_
  obtain ⟨g60004, eg60004, hf⟩ := c_letE hf
  refine c_iast (j := (x1).toNatClampNeg) hx hb hK hP hD hS y0 ha60001T rfl (c_inV hi60003) eg60004 dX11_set_72 (fun H locs hP hS => ?_)
  refine lv_iload hx hb dX11_set_73 (lv_at hl 0 rfl) ?_
  exact c_iret hx hb hr hlk hP hS rfl (c_inj hf) dX11_set_75
def fX11_set_33  (a1 : Int32) (a2 : Int32) (a3 : Int32) (x1 : Int32) (x2 : Int32) (x3 : Int32) (y0 : Int32) (y1 : Int32) (g : c_G) : Option (c_G × Int32) :=
  if y0 ≤ y1 then (if x2 = 0 then (fX11_set_60 a1 a2 a3 x1 x3 56 g) else (fX11_set_60 a1 a2 a3 x1 x3 59 g)) else (some (g, (-2 : Int32)))
set_option maxRecDepth 100000 in
set_option maxHeartbeats 4000000 in
theorem jX11_set_33 {p : Program} {l : Launch} {e : Env} {s : State} {m : MethodId} {below : List Frame} {meth : Method} {c : Code} {D : va_G} {tc : Nat → ClassId} {ad : Nat → Nat} {A : Nat → Prop} {E : (Nat → Nat) × (Nat → Nat) × Nat} {a1 : Int32} {a2 : Int32} {a3 : Int32} {g' : c_G} {r : Int32} (C : c_C p s m meth c D tc A E RX11 wsX11_set cX11_set 6 (some .int) ([.ref (ad 0), .int a1, .int a2, .int a3] : List Value).toArray) (hD : c_D A ad TC)  : ∀ (x1 : Int32) (x2 : Int32) (x3 : Int32) (y0 : Int32) (y1 : Int32) (g : c_G), fX11_set_33 a1 a2 a3 x1 x2 x3 y0 y1 g = some (g', r) → ∀ (H : Heap) (locs : List Loc), va_P D vwCl (c_ws tc ad TC g) H → va_S A s.heap H locs → ∀ ls : Array Slot, lv_has ls 6 [(0, .ref (ad 0)), (1, .int x1), (2, .int x2), (3, .int x3)] → W p l e (c_rm 1) s m ([.ref (ad 0), .int a1, .int a2, .int a3] : List Value).toArray below meth c H locs 0 0 (MQ below (va_Qi (fun (x : Int32) (_ : Unit) => x = r) (fun _ t => va_P D vwCl (c_ws tc ad TC g') t.heap) A) ([.ref (ad 0), .int a1, .int a2, .int a3] : List Value).toArray s 0 0 A) (F0 m 33 ls [.int y1, .int y0]) := by
  obtain ⟨hx, hb, hr, hml, hts, hown, hlk, hK, hE⟩ := id C
  intro x1 x2 x3 y0 y1 g hf H locs hP hS ls hl
  unfold fX11_set_33 at hf
  refine lv_icmp_le (tgt := 39) hx hb dX11_set_33 (by decide) (fun c33001 => ?_) (fun c33001 => ?_)
  · have hf := c_it c33001 hf
    refine lv_iload_n hx hb dX11_set_39 rfl (lv_at hl 2 rfl) ?_
    refine lv_if_ne (tgt := 53) hx hb dX11_set_40 (by decide) (fun c33002 => ?_) (fun c33002 => ?_)
    · have hf := c_ie c33002 hf
      refine lv_aload_n hx hb dX11_set_53 rfl (lv_at hl 0 rfl) ?_
      refine c_get hx hb hts i_X11_set_X11 hown hK hP 0 tC0 rfl 5 (by decide) (hts _ (List.mem_of_getElem? (i := 1) rfl)) (fun _ h9 => h9) rfl (v := .ref (ad 55)) rfl dX11_set_54 ?_
      refine c_get hx hb hts i_X11_set_X7 hown hK hP 55 tC55 rfl 3 (by decide) (hts _ (List.mem_of_getElem? (i := 3) rfl)) (fun _ h9 => h9) rfl (v := .ref (ad 59)) rfl dX11_set_57 ?_
      exact jX11_set_60 C hD x1 x3 59 g hf _ _ hP hS _ (lv_sub hl [1, 3] rfl)
    · have hf := c_it c33002 hf
      refine lv_aload_n hx hb dX11_set_43 rfl (lv_at hl 0 rfl) ?_
      refine c_get hx hb hts i_X11_set_X11 hown hK hP 0 tC0 rfl 5 (by decide) (hts _ (List.mem_of_getElem? (i := 1) rfl)) (fun _ h9 => h9) rfl (v := .ref (ad 55)) rfl dX11_set_44 ?_
      refine c_get hx hb hts i_X11_set_X7 hown hK hP 55 tC55 rfl 0 (by decide) (hts _ (List.mem_of_getElem? (i := 2) rfl)) (fun _ h9 => h9) rfl (v := .ref (ad 56)) rfl dX11_set_47 ?_
      refine lv_goto (tgt := 60) hx hb dX11_set_50 (by decide) ?_
      exact jX11_set_60 C hD x1 x3 56 g hf _ _ hP hS _ (lv_sub hl [1, 3] rfl)
  · have hf := c_ie c33001 hf
    refine lv_bipush (v := (-2 : Int32)) hx hb dX11_set_36 (by decide) ?_
    exact c_iret hx hb hr hlk hP hS rfl (c_inj hf) dX11_set_38
def fX11_set (g : c_G) (a1 : Int32) (a2 : Int32) (a3 : Int32) : Option (c_G × Int32) :=
  if (fX11_isElder a1) = 0 then (some (g, (-1 : Int32))) else (if a2 < 0 then (some (g, (-1 : Int32))) else (if a2 ≤ (1 : Int32) then (if a3 < 0 then (some (g, (-2 : Int32))) else (if a2 = 0 then (fX11_set_33 a1 a2 a3 a1 a2 a3 a3 ((9 : Int32)) g) else (fX11_set_33 a1 a2 a3 a1 a2 a3 a3 ((1 : Int32)) g))) else (some (g, (-1 : Int32)))))
set_option maxRecDepth 100000 in
set_option maxHeartbeats 4000000 in
theorem kX11_set {l : Launch} {D : va_G} {tc : Nat → ClassId} {ad : Nat → Nat} {A : Nat → Prop} {E : (Nat → Nat) × (Nat → Nat) × Nat} (hD : c_D A ad TC) {a1 : Int32} {a2 : Int32} {a3 : Int32} {g g' : c_G} {r : Int32} (hf : fX11_set g a1 a2 a3 = some (g', r)) : c_Mi l yX11_set wsX11_set (c_rm 1) D tc ad A E TC ([.ref (ad 0), .int a1, .int a2, .int a3] : List Value) g g' r := by
  refine c_ofW (bytes := cX11_set) (maxL := 6) (ret := (some .int)) (by decide) rfl (Nat.le_of_ble_eq_true rfl) ?_
  intro p e s m below meth c ls C hP hS hl
  unfold fX11_set at hf
  obtain ⟨hx, hb, hr, hml, hts, hown, hlk, hK, hE⟩ := id C
  have hl : lv_has ls 6 [(0, .ref (ad 0)), (1, .int a1), (2, .int a2), (3, .int a3)] := hl
  refine lv_iload_n hx hb dX11_set_0 rfl (lv_at hl 1 rfl) ?_
  refine c_goi (va_runS (As := [.int a1]) (rest := []) ⟨hx, hb, hml, hown, hts⟩ (kX11_isElder (T := TC) (g := g) rfl) (va_cwS 1 hts gX11_set_X11_isElder rfl rfl rfl (by decide +kernel) ⟨Nat.le_of_ble_eq_true rfl, Nat.le_of_ble_eq_true rfl⟩) (c_preS hK hP hE hS) rfl rfl hl.1 rfl (lv_room (Nat.le_of_ble_eq_true rfl)) dX11_set_1 ⟨Nat.zero_le _, Nat.zero_le _⟩) hS (fun H locs hP hS => ?_)
  refine lv_if_eq (tgt := 16) hx hb dX11_set_4 (by decide) (fun c1 => ?_) (fun c1 => ?_)
  · have hf := c_it c1 hf
    refine lv_iconst (v := (-1 : Int32)) hx hb dX11_set_16 (by decide) ?_
    exact c_iret hx hb hr hlk hP hS rfl (c_inj hf) dX11_set_17
  · have hf := c_ie c1 hf
    refine lv_iload_n hx hb dX11_set_7 rfl (lv_at hl 2 rfl) ?_
    refine lv_if_lt (tgt := 16) hx hb dX11_set_8 (by decide) (fun c2 => ?_) (fun c2 => ?_)
    · have hf := c_it c2 hf
      refine lv_iconst (v := (-1 : Int32)) hx hb dX11_set_16 (by decide) ?_
      exact c_iret hx hb hr hlk hP hS rfl (c_inj hf) dX11_set_17
    · have hf := c_ie c2 hf
      refine lv_iload_n hx hb dX11_set_11 rfl (lv_at hl 2 rfl) ?_
      refine lv_iconst (v := (1 : Int32)) hx hb dX11_set_12 (by decide) ?_
      refine lv_icmp_le (tgt := 18) hx hb dX11_set_13 (by decide) (fun c3 => ?_) (fun c3 => ?_)
      · have hf := c_it c3 hf
        refine lv_iload_n hx hb dX11_set_18 rfl (lv_at hl 3 rfl) ?_
        refine lv_if_lt (tgt := 36) hx hb dX11_set_19 (by decide) (fun c4 => ?_) (fun c4 => ?_)
        · have hf := c_it c4 hf
          refine lv_bipush (v := (-2 : Int32)) hx hb dX11_set_36 (by decide) ?_
          exact c_iret hx hb hr hlk hP hS rfl (c_inj hf) dX11_set_38
        · have hf := c_ie c4 hf
          refine lv_iload_n hx hb dX11_set_22 rfl (lv_at hl 3 rfl) ?_
          refine lv_iload_n hx hb dX11_set_23 rfl (lv_at hl 2 rfl) ?_
          refine lv_if_ne (tgt := 32) hx hb dX11_set_24 (by decide) (fun c5 => ?_) (fun c5 => ?_)
          · have hf := c_ie c5 hf
            refine lv_iconst (v := (1 : Int32)) hx hb dX11_set_32 (by decide) ?_
            exact jX11_set_33 C hD a1 a2 a3 a3 ((1 : Int32)) g hf _ _ hP hS _ (lv_sub hl [0, 1, 2, 3] rfl)
          · have hf := c_it c5 hf
            refine lv_bipush (v := (9 : Int32)) hx hb dX11_set_27 (by decide) ?_
            refine lv_goto (tgt := 33) hx hb dX11_set_29 (by decide) ?_
            exact jX11_set_33 C hD a1 a2 a3 a3 ((9 : Int32)) g hf _ _ hP hS _ (lv_sub hl [0, 1, 2, 3] rfl)
      · have hf := c_ie c3 hf
        refine lv_iconst (v := (-1 : Int32)) hx hb dX11_set_16 (by decide) ?_
        exact c_iret hx hb hr hlk hP hS rfl (c_inj hf) dX11_set_17
theorem i_X11_forget_X7 : ∀ w ∈ u_ws RX7 TX7 17, w ∈ wsX11_forget := c_inP [33, 34, 35, 36, 37, 38, 39, 40, 41, 42, 43, 44, 45, 46, 47, 48, 49] (by decide +kernel)
theorem i_X11_forget_X11 : ∀ w ∈ u_ws RX11 TX11 19, w ∈ wsX11_forget := c_inP [14, 15, 16, 17, 18, 19, 20, 21, 22, 23, 24, 25, 26, 27, 28, 29, 30, 31, 32] (by decide +kernel)
theorem dX11_forget_0 : decode cX11_forget 0 = .ok (.iload_n 1, 1) := by decide +kernel
theorem dX11_forget_1 : decode cX11_forget 1 = .ok (.invokestatic 139, 3) := by decide +kernel
theorem dX11_forget_4 : decode cX11_forget 4 = .ok (.ifCond .ne 5, 3) := by decide +kernel
theorem dX11_forget_7 : decode cX11_forget 7 = .ok (.iconst (-1), 1) := by decide +kernel
theorem dX11_forget_8 : decode cX11_forget 8 = .ok (.ireturn, 1) := by decide +kernel
theorem dX11_forget_9 : decode cX11_forget 9 = .ok (.aload_n 0, 1) := by decide +kernel
theorem dX11_forget_10 : decode cX11_forget 10 = .ok (.getfield 86, 3) := by decide +kernel
theorem dX11_forget_13 : decode cX11_forget 13 = .ok (.getfield 149, 3) := by decide +kernel
theorem dX11_forget_16 : decode cX11_forget 16 = .ok (.iload_n 1, 1) := by decide +kernel
theorem dX11_forget_17 : decode cX11_forget 17 = .ok (.iaload, 1) := by decide +kernel
theorem dX11_forget_18 : decode cX11_forget 18 = .ok (.istore_n 2, 1) := by decide +kernel
theorem dX11_forget_19 : decode cX11_forget 19 = .ok (.aload_n 0, 1) := by decide +kernel
theorem dX11_forget_20 : decode cX11_forget 20 = .ok (.getfield 86, 3) := by decide +kernel
theorem dX11_forget_23 : decode cX11_forget 23 = .ok (.iload_n 1, 1) := by decide +kernel
theorem dX11_forget_24 : decode cX11_forget 24 = .ok (.invokevirtual 173, 3) := by decide +kernel
theorem dX11_forget_27 : decode cX11_forget 27 = .ok (.iload_n 2, 1) := by decide +kernel
theorem dX11_forget_28 : decode cX11_forget 28 = .ok (.ireturn, 1) := by decide +kernel
set_option maxRecDepth 20000 in
theorem ggX11_forget_X11_isElder : GoodIn wsX11_forget wsX11_isElder := goodIn_r _ [6] (by decide +kernel) (by decide +kernel)
set_option maxRecDepth 20000 in
theorem gX11_forget_X11_isElder : GoodIn wsX11_forget (va_wsS RX11 139 yX11_isElder wsX11_isElder) := goodIn_app (goodIn_of _ (by decide +kernel)) ggX11_forget_X11_isElder
set_option maxRecDepth 20000 in
theorem ggX11_forget_X7_unname : GoodIn wsX11_forget wsX7_unname := goodIn_r _ [11, 12, 13, 33, 34, 35, 36, 37, 38, 39, 40, 41, 42, 43, 44, 45, 46, 47, 48, 49] (by decide +kernel) (by decide +kernel)
set_option maxRecDepth 20000 in
theorem gX11_forget_X7_unname : GoodIn wsX11_forget (wsV RX11 173 RX7 yX7_unname wsX7_unname) := goodIn_app (goodIn_of _ (by decide +kernel)) ggX11_forget_X7_unname
def fX11_forget (g : c_G) (a1 : Int32) : Option (c_G × Int32) :=
  if (fX11_isElder a1) = 0 then (some (g, (-1 : Int32))) else (if c_in (a1) (6) = true then (fX7_unname g 55 a1).bind fun g4 => some (g4, (g.1 57 (a1).toNatClampNeg)) else none)
set_option maxRecDepth 100000 in
set_option maxHeartbeats 4000000 in
theorem kX11_forget {l : Launch} {D : va_G} {tc : Nat → ClassId} {ad : Nat → Nat} {A : Nat → Prop} {E : (Nat → Nat) × (Nat → Nat) × Nat} (hD : c_D A ad TC) {a1 : Int32} {g g' : c_G} {r : Int32} (hf : fX11_forget g a1 = some (g', r)) : c_Mi l yX11_forget wsX11_forget (c_rm 1) D tc ad A E TC ([.ref (ad 0), .int a1] : List Value) g g' r := by
  refine c_ofW (bytes := cX11_forget) (maxL := 3) (ret := (some .int)) (by decide) rfl (Nat.le_of_ble_eq_true rfl) ?_
  intro p e s m below meth c ls C hP hS hl
  unfold fX11_forget at hf
  obtain ⟨hx, hb, hr, hml, hts, hown, hlk, hK, hE⟩ := id C
  have hl : lv_has ls 3 [(0, .ref (ad 0)), (1, .int a1)] := hl
  refine lv_iload_n hx hb dX11_forget_0 rfl (lv_at hl 1 rfl) ?_
  refine c_goi (va_runS (As := [.int a1]) (rest := []) ⟨hx, hb, hml, hown, hts⟩ (kX11_isElder (T := TC) (g := g) rfl) (va_cwS 1 hts gX11_forget_X11_isElder rfl rfl rfl (by decide +kernel) ⟨Nat.le_of_ble_eq_true rfl, Nat.le_of_ble_eq_true rfl⟩) (c_preS hK hP hE hS) rfl rfl hl.1 rfl (lv_room (Nat.le_of_ble_eq_true rfl)) dX11_forget_1 ⟨Nat.zero_le _, Nat.zero_le _⟩) hS (fun H locs hP hS => ?_)
  refine lv_if_ne (tgt := 9) hx hb dX11_forget_4 (by decide) (fun c1 => ?_) (fun c1 => ?_)
  · have hf := c_ie c1 hf
    refine lv_aload_n hx hb dX11_forget_9 rfl (lv_at hl 0 rfl) ?_
    refine c_get hx hb hts i_X11_forget_X11 hown hK hP 0 tC0 rfl 5 (by decide) (hts _ (List.mem_of_getElem? (i := 1) rfl)) (fun _ h9 => h9) rfl (v := .ref (ad 55)) rfl dX11_forget_10 ?_
    refine c_get hx hb hts i_X11_forget_X7 hown hK hP 55 tC55 rfl 1 (by decide) (hts _ (List.mem_of_getElem? (i := 2) rfl)) (fun _ h9 => h9) rfl (v := .ref (ad 57)) rfl dX11_forget_13 ?_
    refine lv_iload_n hx hb dX11_forget_16 rfl (lv_at hl 1 rfl) ?_
    obtain ⟨hi2, hf⟩ := c_gd hf
    refine c_iald (j := (a1).toNatClampNeg) hx hb hK hP 57 tC57 rfl (c_inV hi2) dX11_forget_17 ?_
    refine lv_istore_n (lv' := [(2, .int (g.1 57 (a1).toNatClampNeg)), (0, .ref (ad 0)), (1, .int a1)]) hx hb dX11_forget_18 rfl hl (by decide) rfl (fun ls hl => ?_)
    refine lv_aload_n hx hb dX11_forget_19 rfl (lv_at hl 1 rfl) ?_
    refine c_get hx hb hts i_X11_forget_X11 hown hK hP 0 tC0 rfl 5 (by decide) (hts _ (List.mem_of_getElem? (i := 1) rfl)) (fun _ h9 => h9) rfl (v := .ref (ad 55)) rfl dX11_forget_20 ?_
    refine lv_iload_n hx hb dX11_forget_23 rfl (lv_at hl 2 rfl) ?_
    obtain ⟨g4, hc3, hf⟩ := c_bd hf
    refine c_gov (va_runV (As := [.int a1]) (rest := []) ⟨hx, hb, hml, hown, hts⟩ (kX7_unname hD hc3) (cwV 1 hts gX11_forget_X7_unname rfl rfl rfl (by decide +kernel) ⟨Nat.le_of_ble_eq_true rfl, Nat.le_of_ble_eq_true rfl⟩) (c_preV hK hP hE hS tC55 rfl) rfl rfl hl.1 rfl (lv_room (Nat.le_of_ble_eq_true rfl)) dX11_forget_24 ⟨Nat.zero_le _, Nat.zero_le _⟩) hS (fun H locs hP hS => ?_)
    refine lv_iload_n hx hb dX11_forget_27 rfl (lv_at hl 0 rfl) ?_
    exact c_iret hx hb hr hlk hP hS rfl (c_inj hf) dX11_forget_28
  · have hf := c_it c1 hf
    refine lv_iconst (v := (-1 : Int32)) hx hb dX11_forget_7 (by decide) ?_
    exact c_iret hx hb hr hlk hP hS rfl (c_inj hf) dX11_forget_8
theorem i_X11_bar_X7 : ∀ w ∈ u_ws RX7 TX7 17, w ∈ wsX11_bar := c_inP [26, 27, 28, 29, 30, 31, 32, 33, 34, 35, 36, 37, 38, 39, 40, 41, 42] (by decide +kernel)
theorem i_X11_bar_X11 : ∀ w ∈ u_ws RX11 TX11 19, w ∈ wsX11_bar := c_inP [7, 8, 9, 10, 11, 12, 13, 14, 15, 16, 17, 18, 19, 20, 21, 22, 23, 24, 25] (by decide +kernel)
theorem dX11_bar_0 : decode cX11_bar 0 = .ok (.iload_n 1, 1) := by decide +kernel
theorem dX11_bar_1 : decode cX11_bar 1 = .ok (.invokestatic 106, 3) := by decide +kernel
theorem dX11_bar_4 : decode cX11_bar 4 = .ok (.ifCond .ne 6, 3) := by decide +kernel
theorem dX11_bar_7 : decode cX11_bar 7 = .ok (.bipush (-2), 2) := by decide +kernel
theorem dX11_bar_9 : decode cX11_bar 9 = .ok (.ireturn, 1) := by decide +kernel
theorem dX11_bar_10 : decode cX11_bar 10 = .ok (.aload_n 0, 1) := by decide +kernel
theorem dX11_bar_11 : decode cX11_bar 11 = .ok (.getfield 86, 3) := by decide +kernel
theorem dX11_bar_14 : decode cX11_bar 14 = .ok (.getfield 177, 3) := by decide +kernel
theorem dX11_bar_17 : decode cX11_bar 17 = .ok (.istore_n 2, 1) := by decide +kernel
theorem dX11_bar_18 : decode cX11_bar 18 = .ok (.aload_n 0, 1) := by decide +kernel
theorem dX11_bar_19 : decode cX11_bar 19 = .ok (.getfield 86, 3) := by decide +kernel
theorem dX11_bar_22 : decode cX11_bar 22 = .ok (.iload_n 1, 1) := by decide +kernel
theorem dX11_bar_23 : decode cX11_bar 23 = .ok (.putfield 177, 3) := by decide +kernel
theorem dX11_bar_26 : decode cX11_bar 26 = .ok (.iload_n 2, 1) := by decide +kernel
theorem dX11_bar_27 : decode cX11_bar 27 = .ok (.ireturn, 1) := by decide +kernel
set_option maxRecDepth 20000 in
theorem ggX11_bar_X11_areWords : GoodIn wsX11_bar wsX11_areWords := goodIn_r _ [6] (by decide +kernel) (by decide +kernel)
set_option maxRecDepth 20000 in
theorem gX11_bar_X11_areWords : GoodIn wsX11_bar (va_wsS RX11 106 yX11_areWords wsX11_areWords) := goodIn_app (goodIn_of _ (by decide +kernel)) ggX11_bar_X11_areWords
def fX11_bar (g : c_G) (a1 : Int32) : Option (c_G × Int32) :=
  if (fX11_areWords a1) = 0 then (some (g, (-2 : Int32))) else (c_let (c_si g 55 4 a1) fun g2 => some (g2, (g.1 55 4)))
set_option maxRecDepth 100000 in
set_option maxHeartbeats 4000000 in
theorem kX11_bar {l : Launch} {D : va_G} {tc : Nat → ClassId} {ad : Nat → Nat} {A : Nat → Prop} {E : (Nat → Nat) × (Nat → Nat) × Nat} (hD : c_D A ad TC) {a1 : Int32} {g g' : c_G} {r : Int32} (hf : fX11_bar g a1 = some (g', r)) : c_Mi l yX11_bar wsX11_bar (c_rm 1) D tc ad A E TC ([.ref (ad 0), .int a1] : List Value) g g' r := by
  refine c_ofW (bytes := cX11_bar) (maxL := 3) (ret := (some .int)) (by decide) rfl (Nat.le_of_ble_eq_true rfl) ?_
  intro p e s m below meth c ls C hP hS hl
  unfold fX11_bar at hf
  obtain ⟨hx, hb, hr, hml, hts, hown, hlk, hK, hE⟩ := id C
  have hl : lv_has ls 3 [(0, .ref (ad 0)), (1, .int a1)] := hl
  refine lv_iload_n hx hb dX11_bar_0 rfl (lv_at hl 1 rfl) ?_
  refine c_goi (va_runS (As := [.int a1]) (rest := []) ⟨hx, hb, hml, hown, hts⟩ (kX11_areWords (T := TC) (g := g) rfl) (va_cwS 1 hts gX11_bar_X11_areWords rfl rfl rfl (by decide +kernel) ⟨Nat.le_of_ble_eq_true rfl, Nat.le_of_ble_eq_true rfl⟩) (c_preS hK hP hE hS) rfl rfl hl.1 rfl (lv_room (Nat.le_of_ble_eq_true rfl)) dX11_bar_1 ⟨Nat.zero_le _, Nat.zero_le _⟩) hS (fun H locs hP hS => ?_)
  refine lv_if_ne (tgt := 10) hx hb dX11_bar_4 (by decide) (fun c1 => ?_) (fun c1 => ?_)
  · have hf := c_ie c1 hf
    refine lv_aload_n hx hb dX11_bar_10 rfl (lv_at hl 0 rfl) ?_
    refine c_get hx hb hts i_X11_bar_X11 hown hK hP 0 tC0 rfl 5 (by decide) (hts _ (List.mem_of_getElem? (i := 1) rfl)) (fun _ h9 => h9) rfl (v := .ref (ad 55)) rfl dX11_bar_11 ?_
    refine c_get hx hb hts i_X11_bar_X7 hown hK hP 55 tC55 rfl 4 (by decide) (hts _ (List.mem_of_getElem? (i := 2) rfl)) (fun _ h9 => h9) rfl (v := .int (g.1 55 4)) rfl dX11_bar_14 ?_
    refine lv_istore_n (lv' := [(2, .int (g.1 55 4)), (0, .ref (ad 0)), (1, .int a1)]) hx hb dX11_bar_17 rfl hl (by decide) rfl (fun ls hl => ?_)
    refine lv_aload_n hx hb dX11_bar_18 rfl (lv_at hl 1 rfl) ?_
    refine c_get hx hb hts i_X11_bar_X11 hown hK hP 0 tC0 rfl 5 (by decide) (hts _ (List.mem_of_getElem? (i := 1) rfl)) (fun _ h9 => h9) rfl (v := .ref (ad 55)) rfl dX11_bar_19 ?_
    refine lv_iload_n hx hb dX11_bar_22 rfl (lv_at hl 2 rfl) ?_
    obtain ⟨g2, eg2, hf⟩ := c_letE hf
    refine c_put hx hb hts i_X11_bar_X7 tyX7 tyX7_ok nmX7 hown hK hP hD hS 55 tC55 rfl 4 (by decide) (hts _ (List.mem_of_getElem? (i := 2) rfl)) (fun _ h9 => h9) rfl (ty := .int) (by decide +kernel) rfl rfl rfl eg2 dX11_bar_23 (fun H locs hP hS => ?_)
    refine lv_iload_n hx hb dX11_bar_26 rfl (lv_at hl 0 rfl) ?_
    exact c_iret hx hb hr hlk hP hS rfl (c_inj hf) dX11_bar_27
  · have hf := c_it c1 hf
    refine lv_bipush (v := (-2 : Int32)) hx hb dX11_bar_7 (by decide) ?_
    exact c_iret hx hb hr hlk hP hS rfl (c_inj hf) dX11_bar_9
theorem i_X11_row_X7 : ∀ w ∈ u_ws RX7 TX7 17, w ∈ wsX11_row := c_inP [32, 33, 34, 35, 36, 37, 38, 39, 40, 41, 42, 43, 44, 45, 46, 47, 48] (by decide +kernel)
theorem i_X11_row_X11 : ∀ w ∈ u_ws RX11 TX11 19, w ∈ wsX11_row := c_inP [13, 14, 15, 16, 17, 18, 19, 20, 21, 22, 23, 24, 25, 26, 27, 28, 29, 30, 31] (by decide +kernel)
theorem dX11_row_0 : decode cX11_row 0 = .ok (.aload_n 0, 1) := by decide +kernel
theorem dX11_row_1 : decode cX11_row 1 = .ok (.iload_n 1, 1) := by decide +kernel
theorem dX11_row_2 : decode cX11_row 2 = .ok (.invokevirtual 117, 3) := by decide +kernel
theorem dX11_row_5 : decode cX11_row 5 = .ok (.ifCond .eq 12, 3) := by decide +kernel
theorem dX11_row_8 : decode cX11_row 8 = .ok (.iload_n 2, 1) := by decide +kernel
theorem dX11_row_9 : decode cX11_row 9 = .ok (.ifCond .lt 8, 3) := by decide +kernel
theorem dX11_row_12 : decode cX11_row 12 = .ok (.iload_n 2, 1) := by decide +kernel
theorem dX11_row_13 : decode cX11_row 13 = .ok (.iconst 4, 1) := by decide +kernel
theorem dX11_row_14 : decode cX11_row 14 = .ok (.if_icmp .lt 5, 3) := by decide +kernel
theorem dX11_row_17 : decode cX11_row 17 = .ok (.iconst (-1), 1) := by decide +kernel
theorem dX11_row_18 : decode cX11_row 18 = .ok (.ireturn, 1) := by decide +kernel
theorem dX11_row_19 : decode cX11_row 19 = .ok (.iload_n 3, 1) := by decide +kernel
theorem dX11_row_20 : decode cX11_row 20 = .ok (.invokestatic 102, 3) := by decide +kernel
theorem dX11_row_23 : decode cX11_row 23 = .ok (.ifCond .ne 6, 3) := by decide +kernel
theorem dX11_row_26 : decode cX11_row 26 = .ok (.bipush (-2), 2) := by decide +kernel
theorem dX11_row_28 : decode cX11_row 28 = .ok (.ireturn, 1) := by decide +kernel
theorem dX11_row_29 : decode cX11_row 29 = .ok (.aload_n 0, 1) := by decide +kernel
theorem dX11_row_30 : decode cX11_row 30 = .ok (.getfield 86, 3) := by decide +kernel
theorem dX11_row_33 : decode cX11_row 33 = .ok (.getfield 120, 3) := by decide +kernel
theorem dX11_row_36 : decode cX11_row 36 = .ok (.iload_n 1, 1) := by decide +kernel
theorem dX11_row_37 : decode cX11_row 37 = .ok (.iaload, 1) := by decide +kernel
theorem dX11_row_38 : decode cX11_row 38 = .ok (.bipush 6, 2) := by decide +kernel
theorem dX11_row_40 : decode cX11_row 40 = .ok (.if_icmp .eq 6, 3) := by decide +kernel
theorem dX11_row_43 : decode cX11_row 43 = .ok (.bipush (-3), 2) := by decide +kernel
theorem dX11_row_45 : decode cX11_row 45 = .ok (.ireturn, 1) := by decide +kernel
theorem dX11_row_46 : decode cX11_row 46 = .ok (.aload_n 0, 1) := by decide +kernel
theorem dX11_row_47 : decode cX11_row 47 = .ok (.getfield 86, 3) := by decide +kernel
theorem dX11_row_50 : decode cX11_row 50 = .ok (.getfield 180, 3) := by decide +kernel
theorem dX11_row_53 : decode cX11_row 53 = .ok (.iload_n 1, 1) := by decide +kernel
theorem dX11_row_54 : decode cX11_row 54 = .ok (.iconst 4, 1) := by decide +kernel
theorem dX11_row_55 : decode cX11_row 55 = .ok (.imul, 1) := by decide +kernel
theorem dX11_row_56 : decode cX11_row 56 = .ok (.iload_n 2, 1) := by decide +kernel
theorem dX11_row_57 : decode cX11_row 57 = .ok (.iadd, 1) := by decide +kernel
theorem dX11_row_58 : decode cX11_row 58 = .ok (.iaload, 1) := by decide +kernel
theorem dX11_row_59 : decode cX11_row 59 = .ok (.istore 4, 2) := by decide +kernel
theorem dX11_row_61 : decode cX11_row 61 = .ok (.aload_n 0, 1) := by decide +kernel
theorem dX11_row_62 : decode cX11_row 62 = .ok (.getfield 86, 3) := by decide +kernel
theorem dX11_row_65 : decode cX11_row 65 = .ok (.getfield 180, 3) := by decide +kernel
theorem dX11_row_68 : decode cX11_row 68 = .ok (.iload_n 1, 1) := by decide +kernel
theorem dX11_row_69 : decode cX11_row 69 = .ok (.iconst 4, 1) := by decide +kernel
theorem dX11_row_70 : decode cX11_row 70 = .ok (.imul, 1) := by decide +kernel
theorem dX11_row_71 : decode cX11_row 71 = .ok (.iload_n 2, 1) := by decide +kernel
theorem dX11_row_72 : decode cX11_row 72 = .ok (.iadd, 1) := by decide +kernel
theorem dX11_row_73 : decode cX11_row 73 = .ok (.iload_n 3, 1) := by decide +kernel
theorem dX11_row_74 : decode cX11_row 74 = .ok (.iastore, 1) := by decide +kernel
theorem dX11_row_75 : decode cX11_row 75 = .ok (.iload 4, 2) := by decide +kernel
theorem dX11_row_77 : decode cX11_row 77 = .ok (.ireturn, 1) := by decide +kernel
set_option maxRecDepth 20000 in
theorem ggX11_row_X11_isChild : GoodIn wsX11_row wsX11_isChild := goodIn_r _ [8, 1, 9, 13, 14, 15, 16, 17, 18, 19, 20, 21, 22, 23, 24, 25, 26, 27, 28, 29, 30, 31, 32, 33, 34, 35, 36, 37, 38, 39, 40, 41, 42, 43, 44, 45, 46, 47, 48] (by decide +kernel) (by decide +kernel)
set_option maxRecDepth 20000 in
theorem gX11_row_X11_isChild : GoodIn wsX11_row (wsV RX11 117 RX11 yX11_isChild wsX11_isChild) := goodIn_app (goodIn_of _ (by decide +kernel)) ggX11_row_X11_isChild
set_option maxRecDepth 20000 in
theorem ggX11_row_X11_isDigit : GoodIn wsX11_row wsX11_isDigit := goodIn_r _ [12] (by decide +kernel) (by decide +kernel)
set_option maxRecDepth 20000 in
theorem gX11_row_X11_isDigit : GoodIn wsX11_row (va_wsS RX11 102 yX11_isDigit wsX11_isDigit) := goodIn_app (goodIn_of _ (by decide +kernel)) ggX11_row_X11_isDigit
def fX11_row (g : c_G) (a1 : Int32) (a2 : Int32) (a3 : Int32) : Option (c_G × Int32) :=
  (fX11_isChild g a1).bind fun r1 => if r1 = 0 then (some (g, (-1 : Int32))) else (if a2 < 0 then (some (g, (-1 : Int32))) else (if a2 < (4 : Int32) then (if (fX11_isDigit a3) = 0 then (some (g, (-2 : Int32))) else (if c_in (a1) (6) = true then if (g.1 60 (a1).toNatClampNeg) = (6 : Int32) then (if c_in (((a1 * (4 : Int32)) + a2)) (24) = true then c_let (c_si g 65 (((a1 * (4 : Int32)) + a2)).toNatClampNeg a3) fun g10 => some (g10, (g.1 65 (((a1 * (4 : Int32)) + a2)).toNatClampNeg)) else none) else (some (g, (-3 : Int32))) else none)) else (some (g, (-1 : Int32)))))
set_option maxRecDepth 100000 in
set_option maxHeartbeats 4000000 in
theorem kX11_row {l : Launch} {D : va_G} {tc : Nat → ClassId} {ad : Nat → Nat} {A : Nat → Prop} {E : (Nat → Nat) × (Nat → Nat) × Nat} (hD : c_D A ad TC) {a1 : Int32} {a2 : Int32} {a3 : Int32} {g g' : c_G} {r : Int32} (hf : fX11_row g a1 a2 a3 = some (g', r)) : c_Mi l yX11_row wsX11_row (c_rm 1) D tc ad A E TC ([.ref (ad 0), .int a1, .int a2, .int a3] : List Value) g g' r := by
  refine c_ofW (bytes := cX11_row) (maxL := 5) (ret := (some .int)) (by decide) rfl (Nat.le_of_ble_eq_true rfl) ?_
  intro p e s m below meth c ls C hP hS hl
  unfold fX11_row at hf
  obtain ⟨hx, hb, hr, hml, hts, hown, hlk, hK, hE⟩ := id C
  have hl : lv_has ls 5 [(0, .ref (ad 0)), (1, .int a1), (2, .int a2), (3, .int a3)] := hl
  refine lv_aload_n hx hb dX11_row_0 rfl (lv_at hl 0 rfl) ?_
  refine lv_iload_n hx hb dX11_row_1 rfl (lv_at hl 1 rfl) ?_
  obtain ⟨r1, hc2, hf⟩ := c_bd hf
  refine c_goi (va_runV (As := [.int a1]) (rest := []) ⟨hx, hb, hml, hown, hts⟩ (kX11_isChild hD hc2) (cwV 1 hts gX11_row_X11_isChild rfl rfl rfl (by decide +kernel) ⟨Nat.le_of_ble_eq_true rfl, Nat.le_of_ble_eq_true rfl⟩) (c_preV hK hP hE hS tC0 rfl) rfl rfl hl.1 rfl (lv_room (Nat.le_of_ble_eq_true rfl)) dX11_row_2 ⟨Nat.zero_le _, Nat.zero_le _⟩) hS (fun H locs hP hS => ?_)
  refine lv_if_eq (tgt := 17) hx hb dX11_row_5 (by decide) (fun c3 => ?_) (fun c3 => ?_)
  · have hf := c_it c3 hf
    refine lv_iconst (v := (-1 : Int32)) hx hb dX11_row_17 (by decide) ?_
    exact c_iret hx hb hr hlk hP hS rfl (c_inj hf) dX11_row_18
  · have hf := c_ie c3 hf
    refine lv_iload_n hx hb dX11_row_8 rfl (lv_at hl 2 rfl) ?_
    refine lv_if_lt (tgt := 17) hx hb dX11_row_9 (by decide) (fun c4 => ?_) (fun c4 => ?_)
    · have hf := c_it c4 hf
      refine lv_iconst (v := (-1 : Int32)) hx hb dX11_row_17 (by decide) ?_
      exact c_iret hx hb hr hlk hP hS rfl (c_inj hf) dX11_row_18
    · have hf := c_ie c4 hf
      refine lv_iload_n hx hb dX11_row_12 rfl (lv_at hl 2 rfl) ?_
      refine lv_iconst (v := (4 : Int32)) hx hb dX11_row_13 (by decide) ?_
      refine lv_icmp_lt (tgt := 19) hx hb dX11_row_14 (by decide) (fun c5 => ?_) (fun c5 => ?_)
      · have hf := c_it c5 hf
        refine lv_iload_n hx hb dX11_row_19 rfl (lv_at hl 3 rfl) ?_
        refine c_goi (va_runS (As := [.int a3]) (rest := []) ⟨hx, hb, hml, hown, hts⟩ (kX11_isDigit (T := TC) (g := g) rfl) (va_cwS 1 hts gX11_row_X11_isDigit rfl rfl rfl (by decide +kernel) ⟨Nat.le_of_ble_eq_true rfl, Nat.le_of_ble_eq_true rfl⟩) (c_preS hK hP hE hS) rfl rfl hl.1 rfl (lv_room (Nat.le_of_ble_eq_true rfl)) dX11_row_20 ⟨Nat.zero_le _, Nat.zero_le _⟩) hS (fun H locs hP hS => ?_)
        refine lv_if_ne (tgt := 29) hx hb dX11_row_23 (by decide) (fun c6 => ?_) (fun c6 => ?_)
        · have hf := c_ie c6 hf
          refine lv_aload_n hx hb dX11_row_29 rfl (lv_at hl 0 rfl) ?_
          refine c_get hx hb hts i_X11_row_X11 hown hK hP 0 tC0 rfl 5 (by decide) (hts _ (List.mem_of_getElem? (i := 1) rfl)) (fun _ h9 => h9) rfl (v := .ref (ad 55)) rfl dX11_row_30 ?_
          refine c_get hx hb hts i_X11_row_X7 hown hK hP 55 tC55 rfl 7 (by decide) (hts _ (List.mem_of_getElem? (i := 2) rfl)) (fun _ h9 => h9) rfl (v := .ref (ad 60)) rfl dX11_row_33 ?_
          refine lv_iload_n hx hb dX11_row_36 rfl (lv_at hl 1 rfl) ?_
          obtain ⟨hi7, hf⟩ := c_gd hf
          refine c_iald (j := (a1).toNatClampNeg) hx hb hK hP 60 tC60 rfl (c_inV hi7) dX11_row_37 ?_
          refine lv_bipush (v := (6 : Int32)) hx hb dX11_row_38 (by decide) ?_
          refine lv_icmp_eq (tgt := 46) hx hb dX11_row_40 (by decide) (fun c8 => ?_) (fun c8 => ?_)
          · have hf := c_it c8 hf
            refine lv_aload_n hx hb dX11_row_46 rfl (lv_at hl 0 rfl) ?_
            refine c_get hx hb hts i_X11_row_X11 hown hK hP 0 tC0 rfl 5 (by decide) (hts _ (List.mem_of_getElem? (i := 1) rfl)) (fun _ h9 => h9) rfl (v := .ref (ad 55)) rfl dX11_row_47 ?_
            refine c_get hx hb hts i_X11_row_X7 hown hK hP 55 tC55 rfl 12 (by decide) (hts _ (List.mem_of_getElem? (i := 3) rfl)) (fun _ h9 => h9) rfl (v := .ref (ad 65)) rfl dX11_row_50 ?_
            refine lv_iload_n hx hb dX11_row_53 rfl (lv_at hl 1 rfl) ?_
            refine lv_iconst (v := (4 : Int32)) hx hb dX11_row_54 (by decide) ?_
            refine lv_imul hx hb dX11_row_55 ?_
            refine lv_iload_n hx hb dX11_row_56 rfl (lv_at hl 2 rfl) ?_
            refine lv_iadd hx hb dX11_row_57 ?_
            obtain ⟨hi9, hf⟩ := c_gd hf
            refine c_iald (j := (((a1 * (4 : Int32)) + a2)).toNatClampNeg) hx hb hK hP 65 tC65 rfl (c_inV hi9) dX11_row_58 ?_
            refine lv_istore (lv' := [(4, .int (g.1 65 (((a1 * (4 : Int32)) + a2)).toNatClampNeg)), (0, .ref (ad 0)), (1, .int a1), (2, .int a2), (3, .int a3)]) hx hb dX11_row_59 hl (by decide) rfl (fun ls hl => ?_)
            refine lv_aload_n hx hb dX11_row_61 rfl (lv_at hl 1 rfl) ?_
            refine c_get hx hb hts i_X11_row_X11 hown hK hP 0 tC0 rfl 5 (by decide) (hts _ (List.mem_of_getElem? (i := 1) rfl)) (fun _ h9 => h9) rfl (v := .ref (ad 55)) rfl dX11_row_62 ?_
            refine c_get hx hb hts i_X11_row_X7 hown hK hP 55 tC55 rfl 12 (by decide) (hts _ (List.mem_of_getElem? (i := 3) rfl)) (fun _ h9 => h9) rfl (v := .ref (ad 65)) rfl dX11_row_65 ?_
            refine lv_iload_n hx hb dX11_row_68 rfl (lv_at hl 2 rfl) ?_
            refine lv_iconst (v := (4 : Int32)) hx hb dX11_row_69 (by decide) ?_
            refine lv_imul hx hb dX11_row_70 ?_
            refine lv_iload_n hx hb dX11_row_71 rfl (lv_at hl 3 rfl) ?_
            refine lv_iadd hx hb dX11_row_72 ?_
            refine lv_iload_n hx hb dX11_row_73 rfl (lv_at hl 4 rfl) ?_
            obtain ⟨g10, eg10, hf⟩ := c_letE hf
            refine c_iast (j := (((a1 * (4 : Int32)) + a2)).toNatClampNeg) hx hb hK hP hD hS 65 tC65 rfl (c_inV hi9) eg10 dX11_row_74 (fun H locs hP hS => ?_)
            refine lv_iload hx hb dX11_row_75 (lv_at hl 0 rfl) ?_
            exact c_iret hx hb hr hlk hP hS rfl (c_inj hf) dX11_row_77
          · have hf := c_ie c8 hf
            refine lv_bipush (v := (-3 : Int32)) hx hb dX11_row_43 (by decide) ?_
            exact c_iret hx hb hr hlk hP hS rfl (c_inj hf) dX11_row_45
        · have hf := c_it c6 hf
          refine lv_bipush (v := (-2 : Int32)) hx hb dX11_row_26 (by decide) ?_
          exact c_iret hx hb hr hlk hP hS rfl (c_inj hf) dX11_row_28
      · have hf := c_ie c5 hf
        refine lv_iconst (v := (-1 : Int32)) hx hb dX11_row_17 (by decide) ?_
        exact c_iret hx hb hr hlk hP hS rfl (c_inj hf) dX11_row_18
theorem i_X11_feed_X11 : ∀ w ∈ u_ws RX11 TX11 19, w ∈ wsX11_feed := c_inP [3, 4, 5, 6, 7, 8, 9, 10, 11, 12, 13, 14, 15, 16, 17, 18, 19, 20, 21] (by decide +kernel)
theorem dX11_feed_0 : decode cX11_feed 0 = .ok (.iload_n 1, 1) := by decide +kernel
theorem dX11_feed_1 : decode cX11_feed 1 = .ok (.ifCond .lt 9, 3) := by decide +kernel
theorem dX11_feed_4 : decode cX11_feed 4 = .ok (.iload_n 1, 1) := by decide +kernel
theorem dX11_feed_5 : decode cX11_feed 5 = .ok (.bipush 127, 2) := by decide +kernel
theorem dX11_feed_7 : decode cX11_feed 7 = .ok (.if_icmp .le 6, 3) := by decide +kernel
theorem dX11_feed_10 : decode cX11_feed 10 = .ok (.bipush (-2), 2) := by decide +kernel
theorem dX11_feed_12 : decode cX11_feed 12 = .ok (.ireturn, 1) := by decide +kernel
theorem dX11_feed_13 : decode cX11_feed 13 = .ok (.aload_n 0, 1) := by decide +kernel
theorem dX11_feed_14 : decode cX11_feed 14 = .ok (.getfield 183, 3) := by decide +kernel
theorem dX11_feed_17 : decode cX11_feed 17 = .ok (.bipush 100, 2) := by decide +kernel
theorem dX11_feed_19 : decode cX11_feed 19 = .ok (.if_icmp .lt 6, 3) := by decide +kernel
theorem dX11_feed_22 : decode cX11_feed 22 = .ok (.bipush (-4), 2) := by decide +kernel
theorem dX11_feed_24 : decode cX11_feed 24 = .ok (.ireturn, 1) := by decide +kernel
theorem dX11_feed_25 : decode cX11_feed 25 = .ok (.aload_n 0, 1) := by decide +kernel
theorem dX11_feed_26 : decode cX11_feed 26 = .ok (.getfield 11, 3) := by decide +kernel
theorem dX11_feed_29 : decode cX11_feed 29 = .ok (.aload_n 0, 1) := by decide +kernel
theorem dX11_feed_30 : decode cX11_feed 30 = .ok (.getfield 183, 3) := by decide +kernel
theorem dX11_feed_33 : decode cX11_feed 33 = .ok (.iload_n 1, 1) := by decide +kernel
theorem dX11_feed_34 : decode cX11_feed 34 = .ok (.i2b, 1) := by decide +kernel
theorem dX11_feed_35 : decode cX11_feed 35 = .ok (.bastore, 1) := by decide +kernel
theorem dX11_feed_36 : decode cX11_feed 36 = .ok (.aload_n 0, 1) := by decide +kernel
theorem dX11_feed_37 : decode cX11_feed 37 = .ok (.dup, 1) := by decide +kernel
theorem dX11_feed_38 : decode cX11_feed 38 = .ok (.getfield 183, 3) := by decide +kernel
theorem dX11_feed_41 : decode cX11_feed 41 = .ok (.iconst 1, 1) := by decide +kernel
theorem dX11_feed_42 : decode cX11_feed 42 = .ok (.iadd, 1) := by decide +kernel
theorem dX11_feed_43 : decode cX11_feed 43 = .ok (.putfield 183, 3) := by decide +kernel
theorem dX11_feed_46 : decode cX11_feed 46 = .ok (.aload_n 0, 1) := by decide +kernel
theorem dX11_feed_47 : decode cX11_feed 47 = .ok (.getfield 183, 3) := by decide +kernel
theorem dX11_feed_50 : decode cX11_feed 50 = .ok (.ireturn, 1) := by decide +kernel
def fX11_feed (g : c_G) (a1 : Int32) : Option (c_G × Int32) :=
  if a1 < 0 then (some (g, (-2 : Int32))) else (if a1 ≤ (127 : Int32) then (if (g.1 0 2) < (100 : Int32) then (c_let (((a1).toInt8.toInt32)) fun v4 => if c_in ((g.1 0 2)) (100) = true then c_let (c_si g 1 ((g.1 0 2)).toNatClampNeg (vp_nar .byte v4)) fun g6 => c_let (((g6.1 0 2) + (1 : Int32))) fun v7 => c_let (c_si g6 0 2 v7) fun g8 => some (g8, (g8.1 0 2)) else none) else (some (g, (-4 : Int32)))) else (some (g, (-2 : Int32))))
set_option maxRecDepth 100000 in
set_option maxHeartbeats 4000000 in
theorem kX11_feed {l : Launch} {D : va_G} {tc : Nat → ClassId} {ad : Nat → Nat} {A : Nat → Prop} {E : (Nat → Nat) × (Nat → Nat) × Nat} (hD : c_D A ad TC) {a1 : Int32} {g g' : c_G} {r : Int32} (hf : fX11_feed g a1 = some (g', r)) : c_Mi l yX11_feed wsX11_feed (c_rm 0) D tc ad A E TC ([.ref (ad 0), .int a1] : List Value) g g' r := by
  refine c_ofW (bytes := cX11_feed) (maxL := 2) (ret := (some .int)) (by decide) rfl (Nat.le_of_ble_eq_true rfl) ?_
  intro p e s m below meth c ls C hP hS hl
  unfold fX11_feed at hf
  obtain ⟨hx, hb, hr, hml, hts, hown, hlk, hK, hE⟩ := id C
  have hl : lv_has ls 2 [(0, .ref (ad 0)), (1, .int a1)] := hl
  refine lv_iload_n hx hb dX11_feed_0 rfl (lv_at hl 1 rfl) ?_
  refine lv_if_lt (tgt := 10) hx hb dX11_feed_1 (by decide) (fun c1 => ?_) (fun c1 => ?_)
  · have hf := c_it c1 hf
    refine lv_bipush (v := (-2 : Int32)) hx hb dX11_feed_10 (by decide) ?_
    exact c_iret hx hb hr hlk hP hS rfl (c_inj hf) dX11_feed_12
  · have hf := c_ie c1 hf
    refine lv_iload_n hx hb dX11_feed_4 rfl (lv_at hl 1 rfl) ?_
    refine lv_bipush (v := (127 : Int32)) hx hb dX11_feed_5 (by decide) ?_
    refine lv_icmp_le (tgt := 13) hx hb dX11_feed_7 (by decide) (fun c2 => ?_) (fun c2 => ?_)
    · have hf := c_it c2 hf
      refine lv_aload_n hx hb dX11_feed_13 rfl (lv_at hl 0 rfl) ?_
      refine c_get hx hb hts i_X11_feed_X11 hown hK hP 0 tC0 rfl 2 (by decide) (hts _ (List.mem_of_getElem? (i := 1) rfl)) (fun _ h9 => h9) rfl (v := .int (g.1 0 2)) rfl dX11_feed_14 ?_
      refine lv_bipush (v := (100 : Int32)) hx hb dX11_feed_17 (by decide) ?_
      refine lv_icmp_lt (tgt := 25) hx hb dX11_feed_19 (by decide) (fun c3 => ?_) (fun c3 => ?_)
      · have hf := c_it c3 hf
        refine lv_aload_n hx hb dX11_feed_25 rfl (lv_at hl 0 rfl) ?_
        refine c_get hx hb hts i_X11_feed_X11 hown hK hP 0 tC0 rfl 1 (by decide) (hts _ (List.mem_of_getElem? (i := 2) rfl)) (fun _ h9 => h9) rfl (v := .ref (ad 1)) rfl dX11_feed_26 ?_
        refine lv_aload_n hx hb dX11_feed_29 rfl (lv_at hl 0 rfl) ?_
        refine c_get hx hb hts i_X11_feed_X11 hown hK hP 0 tC0 rfl 2 (by decide) (hts _ (List.mem_of_getElem? (i := 1) rfl)) (fun _ h9 => h9) rfl (v := .int (g.1 0 2)) rfl dX11_feed_30 ?_
        refine lv_iload_n hx hb dX11_feed_33 rfl (lv_at hl 1 rfl) ?_
        refine lv_i2b hx hb dX11_feed_34 rfl ?_
        obtain ⟨v4, ev4, hf⟩ := c_letE hf
        refine c_topi ev4 ?_
        obtain ⟨hi5, hf⟩ := c_gd hf
        obtain ⟨g6, eg6, hf⟩ := c_letE hf
        refine c_bast (j := ((g.1 0 2)).toNatClampNeg) hx hb hK hP hD hS 1 tC1 rfl (c_inV hi5) eg6 dX11_feed_35 (fun H locs hP hS => ?_)
        refine lv_aload_n hx hb dX11_feed_36 rfl (lv_at hl 0 rfl) ?_
        refine lv_dup hx hb dX11_feed_37 rfl ?_
        refine c_get hx hb hts i_X11_feed_X11 hown hK hP 0 tC0 rfl 2 (by decide) (hts _ (List.mem_of_getElem? (i := 1) rfl)) (fun _ h9 => h9) rfl (v := .int (g6.1 0 2)) rfl dX11_feed_38 ?_
        refine lv_iconst (v := (1 : Int32)) hx hb dX11_feed_41 (by decide) ?_
        refine lv_iadd hx hb dX11_feed_42 ?_
        obtain ⟨v7, ev7, hf⟩ := c_letE hf
        refine c_topi ev7 ?_
        obtain ⟨g8, eg8, hf⟩ := c_letE hf
        refine c_put hx hb hts i_X11_feed_X11 tyX11 tyX11_ok nmX11 hown hK hP hD hS 0 tC0 rfl 2 (by decide) (hts _ (List.mem_of_getElem? (i := 1) rfl)) (fun _ h9 => h9) rfl (ty := .int) (by decide +kernel) rfl rfl rfl eg8 dX11_feed_43 (fun H locs hP hS => ?_)
        refine lv_aload_n hx hb dX11_feed_46 rfl (lv_at hl 0 rfl) ?_
        refine c_get hx hb hts i_X11_feed_X11 hown hK hP 0 tC0 rfl 2 (by decide) (hts _ (List.mem_of_getElem? (i := 1) rfl)) (fun _ h9 => h9) rfl (v := .int (g8.1 0 2)) rfl dX11_feed_47 ?_
        exact c_iret hx hb hr hlk hP hS rfl (c_inj hf) dX11_feed_50
      · have hf := c_ie c3 hf
        refine lv_bipush (v := (-4 : Int32)) hx hb dX11_feed_22 (by decide) ?_
        exact c_iret hx hb hr hlk hP hS rfl (c_inj hf) dX11_feed_24
    · have hf := c_ie c2 hf
      refine lv_bipush (v := (-2 : Int32)) hx hb dX11_feed_10 (by decide) ?_
      exact c_iret hx hb hr hlk hP hS rfl (c_inj hf) dX11_feed_12
theorem dX11_areSundays_0 : decode cX11_areSundays 0 = .ok (.iload_n 0, 1) := by decide +kernel
theorem dX11_areSundays_1 : decode cX11_areSundays 1 = .ok (.ifCond .lt 13, 3) := by decide +kernel
theorem dX11_areSundays_4 : decode cX11_areSundays 4 = .ok (.iload_n 0, 1) := by decide +kernel
theorem dX11_areSundays_5 : decode cX11_areSundays 5 = .ok (.bipush 60, 2) := by decide +kernel
theorem dX11_areSundays_7 : decode cX11_areSundays 7 = .ok (.if_icmp .gt 7, 3) := by decide +kernel
theorem dX11_areSundays_10 : decode cX11_areSundays 10 = .ok (.iconst 1, 1) := by decide +kernel
theorem dX11_areSundays_11 : decode cX11_areSundays 11 = .ok (.goto 4, 3) := by decide +kernel
theorem dX11_areSundays_14 : decode cX11_areSundays 14 = .ok (.iconst 0, 1) := by decide +kernel
theorem dX11_areSundays_15 : decode cX11_areSundays 15 = .ok (.ireturn, 1) := by decide +kernel
def fX11_areSundays (a1 : Int32) : Int32 :=
  if a1 < 0 then ((0 : Int32)) else (if (60 : Int32) < a1 then ((0 : Int32)) else ((1 : Int32)))
set_option maxRecDepth 100000 in
set_option maxHeartbeats 4000000 in
theorem kX11_areSundays {l : Launch} {D : va_G} {tc : Nat → ClassId} {ad : Nat → Nat} {A : Nat → Prop} {E : (Nat → Nat) × (Nat → Nat) × Nat} {T : List c_T} {a1 : Int32} {g : c_G} {r : Int32} (hf : fX11_areSundays a1 = r) : c_Mi l yX11_areSundays wsX11_areSundays (c_rm 0) D tc ad A E T ([.int a1] : List Value) g g r := by
  refine c_ofW (bytes := cX11_areSundays) (maxL := 1) (ret := (some .boolean)) (by decide) rfl (Nat.le_of_ble_eq_true rfl) ?_
  intro p e s m below meth c ls C hP hS hl
  unfold fX11_areSundays at hf
  obtain ⟨hx, hb, hr, hml, hts, hown, hlk, hK, hE⟩ := id C
  have hl : lv_has ls 1 [(0, .int a1)] := hl
  refine lv_iload_n hx hb dX11_areSundays_0 rfl (lv_at hl 0 rfl) ?_
  refine lv_if_lt (tgt := 14) hx hb dX11_areSundays_1 (by decide) (fun c1 => ?_) (fun c1 => ?_)
  · have hf := c_it c1 hf
    refine lv_iconst (v := (0 : Int32)) hx hb dX11_areSundays_14 (by decide) ?_
    exact c_iret hx hb hr hlk hP hS rfl ⟨rfl, hf⟩ dX11_areSundays_15
  · have hf := c_ie c1 hf
    refine lv_iload_n hx hb dX11_areSundays_4 rfl (lv_at hl 0 rfl) ?_
    refine lv_bipush (v := (60 : Int32)) hx hb dX11_areSundays_5 (by decide) ?_
    refine lv_icmp_gt (tgt := 14) hx hb dX11_areSundays_7 (by decide) (fun c2 => ?_) (fun c2 => ?_)
    · have hf := c_it c2 hf
      refine lv_iconst (v := (0 : Int32)) hx hb dX11_areSundays_14 (by decide) ?_
      exact c_iret hx hb hr hlk hP hS rfl ⟨rfl, hf⟩ dX11_areSundays_15
    · have hf := c_ie c2 hf
      refine lv_iconst (v := (1 : Int32)) hx hb dX11_areSundays_10 (by decide) ?_
      refine lv_goto (tgt := 15) hx hb dX11_areSundays_11 (by decide) ?_
      exact c_iret hx hb hr hlk hP hS rfl ⟨rfl, hf⟩ dX11_areSundays_15
theorem bX11_areSundays (a1 : Int32) : fX11_areSundays a1 = 0 ∨ fX11_areSundays a1 = 1 := by
  unfold fX11_areSundays
  first | (repeat' split) <;> first | exact Or.inl rfl | exact Or.inr rfl
theorem i_X11_pass_X7 : ∀ w ∈ u_ws RX7 TX7 17, w ∈ wsX11_pass := c_inP [134, 135, 136, 137, 138, 139, 140, 141, 142, 143, 144, 145, 146, 147, 148, 149, 150] (by decide +kernel)
theorem i_X11_pass_X11 : ∀ w ∈ u_ws RX11 TX11 19, w ∈ wsX11_pass := c_inP [115, 116, 117, 118, 119, 120, 121, 122, 123, 124, 125, 126, 127, 128, 129, 130, 131, 132, 133] (by decide +kernel)
theorem dX11_pass_0 : decode cX11_pass 0 = .ok (.iload_n 1, 1) := by decide +kernel
theorem dX11_pass_1 : decode cX11_pass 1 = .ok (.invokestatic 216, 3) := by decide +kernel
theorem dX11_pass_4 : decode cX11_pass 4 = .ok (.ifCond .ne 6, 3) := by decide +kernel
theorem dX11_pass_7 : decode cX11_pass 7 = .ok (.bipush (-2), 2) := by decide +kernel
theorem dX11_pass_9 : decode cX11_pass 9 = .ok (.ireturn, 1) := by decide +kernel
theorem dX11_pass_10 : decode cX11_pass 10 = .ok (.aload_n 0, 1) := by decide +kernel
theorem dX11_pass_11 : decode cX11_pass 11 = .ok (.getfield 86, 3) := by decide +kernel
theorem dX11_pass_14 : decode cX11_pass 14 = .ok (.getfield 197, 3) := by decide +kernel
theorem dX11_pass_17 : decode cX11_pass 17 = .ok (.iload_n 1, 1) := by decide +kernel
theorem dX11_pass_18 : decode cX11_pass 18 = .ok (.iadd, 1) := by decide +kernel
theorem dX11_pass_19 : decode cX11_pass 19 = .ok (.sipush 9999, 3) := by decide +kernel
theorem dX11_pass_22 : decode cX11_pass 22 = .ok (.if_icmp .le 6, 3) := by decide +kernel
theorem dX11_pass_25 : decode cX11_pass 25 = .ok (.bipush (-3), 2) := by decide +kernel
theorem dX11_pass_27 : decode cX11_pass 27 = .ok (.ireturn, 1) := by decide +kernel
theorem dX11_pass_28 : decode cX11_pass 28 = .ok (.aload_n 0, 1) := by decide +kernel
theorem dX11_pass_29 : decode cX11_pass 29 = .ok (.aload_n 0, 1) := by decide +kernel
theorem dX11_pass_30 : decode cX11_pass 30 = .ok (.getfield 86, 3) := by decide +kernel
theorem dX11_pass_33 : decode cX11_pass 33 = .ok (.iload_n 1, 1) := by decide +kernel
theorem dX11_pass_34 : decode cX11_pass 34 = .ok (.sipush 9999, 3) := by decide +kernel
theorem dX11_pass_37 : decode cX11_pass 37 = .ok (.invokevirtual 219, 3) := by decide +kernel
theorem dX11_pass_40 : decode cX11_pass 40 = .ok (.aload_n 0, 1) := by decide +kernel
theorem dX11_pass_41 : decode cX11_pass 41 = .ok (.getfield 86, 3) := by decide +kernel
theorem dX11_pass_44 : decode cX11_pass 44 = .ok (.getfield 197, 3) := by decide +kernel
theorem dX11_pass_47 : decode cX11_pass 47 = .ok (.ireturn, 1) := by decide +kernel
set_option maxRecDepth 20000 in
theorem ggX11_pass_X11_areSundays : GoodIn wsX11_pass wsX11_areSundays := goodIn_r _ [6] (by decide +kernel) (by decide +kernel)
set_option maxRecDepth 20000 in
theorem gX11_pass_X11_areSundays : GoodIn wsX11_pass (va_wsS RX11 216 yX11_areSundays wsX11_areSundays) := goodIn_app (goodIn_of _ (by decide +kernel)) ggX11_pass_X11_areSundays
set_option maxRecDepth 20000 in
theorem ggX11_pass_X11_letGo : GoodIn wsX11_pass wsX11_letGo := goodIn_r _ [10, 11, 12, 13, 14, 15, 5, 16, 17, 18, 19, 20, 21, 22, 23, 24, 25, 26, 27, 28, 29, 30, 31, 32, 33, 34, 35, 36, 37, 38, 39, 40, 41, 42, 43, 44, 45, 46, 47, 48, 49, 50, 51, 52, 53, 54, 55, 56, 57, 58, 59, 60, 61, 62, 63, 64, 65, 66, 67, 68, 69, 70, 71, 72, 73, 74, 75, 76, 77, 78, 79, 80, 81, 82, 83, 84, 85, 86, 87, 88, 89, 90, 91, 92, 93, 94, 95, 96, 97, 98, 99, 100, 101, 102, 103, 104, 105, 106, 107, 108, 109, 110, 111, 112, 113, 114, 134, 135, 136, 137, 138, 139, 140, 141, 142, 143, 144, 145, 146, 147, 148, 149, 150, 115, 116, 117, 118, 119, 120, 121, 122, 123, 124, 125, 126, 127, 128, 129, 130, 131, 132, 133, 151, 152, 153, 154, 155, 156, 157, 158] (by decide +kernel) (by decide +kernel)
set_option maxRecDepth 20000 in
theorem gX11_pass_X11_letGo : GoodIn wsX11_pass (wsV RX11 219 RX11 yX11_letGo wsX11_letGo) := goodIn_app (goodIn_of _ (by decide +kernel)) ggX11_pass_X11_letGo
def fX11_pass (g : c_G) (a1 : Int32) : Option (c_G × Int32) :=
  if (fX11_areSundays a1) = 0 then (some (g, (-2 : Int32))) else (if ((g.1 55 5) + a1) ≤ (9999 : Int32) then ((fX11_letGo g 55 a1 ((9999 : Int32))).bind fun g4 => some (g4, (g4.1 55 5))) else (some (g, (-3 : Int32))))
set_option maxRecDepth 100000 in
set_option maxHeartbeats 4000000 in
theorem kX11_pass {l : Launch} {D : va_G} {tc : Nat → ClassId} {ad : Nat → Nat} {A : Nat → Prop} {E : (Nat → Nat) × (Nat → Nat) × Nat} (hD : c_D A ad TC) {a1 : Int32} {g g' : c_G} {r : Int32} (hf : fX11_pass g a1 = some (g', r)) : c_Mi l yX11_pass wsX11_pass (c_rm 6) D tc ad A E TC ([.ref (ad 0), .int a1] : List Value) g g' r := by
  refine c_ofW (bytes := cX11_pass) (maxL := 2) (ret := (some .int)) (by decide) rfl (Nat.le_of_ble_eq_true rfl) ?_
  intro p e s m below meth c ls C hP hS hl
  unfold fX11_pass at hf
  obtain ⟨hx, hb, hr, hml, hts, hown, hlk, hK, hE⟩ := id C
  have hl : lv_has ls 2 [(0, .ref (ad 0)), (1, .int a1)] := hl
  refine lv_iload_n hx hb dX11_pass_0 rfl (lv_at hl 1 rfl) ?_
  refine c_goi (va_runS (As := [.int a1]) (rest := []) ⟨hx, hb, hml, hown, hts⟩ (kX11_areSundays (T := TC) (g := g) rfl) (va_cwS 1 hts gX11_pass_X11_areSundays rfl rfl rfl (by decide +kernel) ⟨Nat.le_of_ble_eq_true rfl, Nat.le_of_ble_eq_true rfl⟩) (c_preS hK hP hE hS) rfl rfl hl.1 rfl (lv_room (Nat.le_of_ble_eq_true rfl)) dX11_pass_1 ⟨Nat.zero_le _, Nat.zero_le _⟩) hS (fun H locs hP hS => ?_)
  refine lv_if_ne (tgt := 10) hx hb dX11_pass_4 (by decide) (fun c1 => ?_) (fun c1 => ?_)
  · have hf := c_ie c1 hf
    refine lv_aload_n hx hb dX11_pass_10 rfl (lv_at hl 0 rfl) ?_
    refine c_get hx hb hts i_X11_pass_X11 hown hK hP 0 tC0 rfl 5 (by decide) (hts _ (List.mem_of_getElem? (i := 1) rfl)) (fun _ h9 => h9) rfl (v := .ref (ad 55)) rfl dX11_pass_11 ?_
    refine c_get hx hb hts i_X11_pass_X7 hown hK hP 55 tC55 rfl 5 (by decide) (hts _ (List.mem_of_getElem? (i := 2) rfl)) (fun _ h9 => h9) rfl (v := .int (g.1 55 5)) rfl dX11_pass_14 ?_
    refine lv_iload_n hx hb dX11_pass_17 rfl (lv_at hl 1 rfl) ?_
    refine lv_iadd hx hb dX11_pass_18 ?_
    refine lv_sipush (v := (9999 : Int32)) hx hb dX11_pass_19 (by decide) ?_
    refine lv_icmp_le (tgt := 28) hx hb dX11_pass_22 (by decide) (fun c2 => ?_) (fun c2 => ?_)
    · have hf := c_it c2 hf
      refine lv_aload_n hx hb dX11_pass_28 rfl (lv_at hl 0 rfl) ?_
      refine lv_aload_n hx hb dX11_pass_29 rfl (lv_at hl 0 rfl) ?_
      refine c_get hx hb hts i_X11_pass_X11 hown hK hP 0 tC0 rfl 5 (by decide) (hts _ (List.mem_of_getElem? (i := 1) rfl)) (fun _ h9 => h9) rfl (v := .ref (ad 55)) rfl dX11_pass_30 ?_
      refine lv_iload_n hx hb dX11_pass_33 rfl (lv_at hl 1 rfl) ?_
      refine lv_sipush (v := (9999 : Int32)) hx hb dX11_pass_34 (by decide) ?_
      obtain ⟨g4, hc3, hf⟩ := c_bd hf
      refine c_gov (va_runV (As := [.ref (ad 55), .int a1, .int (9999 : Int32)]) (rest := []) ⟨hx, hb, hml, hown, hts⟩ (kX11_letGo hD hc3) (cwV 3 hts gX11_pass_X11_letGo rfl rfl rfl (by decide +kernel) ⟨Nat.le_of_ble_eq_true rfl, Nat.le_of_ble_eq_true rfl⟩) (c_preV hK hP hE hS tC0 rfl) rfl rfl hl.1 rfl (lv_room (Nat.le_of_ble_eq_true rfl)) dX11_pass_37 ⟨Nat.zero_le _, Nat.zero_le _⟩) hS (fun H locs hP hS => ?_)
      refine lv_aload_n hx hb dX11_pass_40 rfl (lv_at hl 0 rfl) ?_
      refine c_get hx hb hts i_X11_pass_X11 hown hK hP 0 tC0 rfl 5 (by decide) (hts _ (List.mem_of_getElem? (i := 1) rfl)) (fun _ h9 => h9) rfl (v := .ref (ad 55)) rfl dX11_pass_41 ?_
      refine c_get hx hb hts i_X11_pass_X7 hown hK hP 55 tC55 rfl 5 (by decide) (hts _ (List.mem_of_getElem? (i := 2) rfl)) (fun _ h9 => h9) rfl (v := .int (g4.1 55 5)) rfl dX11_pass_44 ?_
      exact c_iret hx hb hr hlk hP hS rfl (c_inj hf) dX11_pass_47
    · have hf := c_ie c2 hf
      refine lv_bipush (v := (-3 : Int32)) hx hb dX11_pass_25 (by decide) ?_
      exact c_iret hx hb hr hlk hP hS rfl (c_inj hf) dX11_pass_27
  · have hf := c_it c1 hf
    refine lv_bipush (v := (-2 : Int32)) hx hb dX11_pass_7 (by decide) ?_
    exact c_iret hx hb hr hlk hP hS rfl (c_inj hf) dX11_pass_9
theorem i_X11_on_X7 : ∀ w ∈ u_ws RX7 TX7 17, w ∈ wsX11_on := c_inP [173, 174, 175, 176, 177, 178, 179, 180, 181, 182, 183, 184, 185, 186, 187, 188, 189] (by decide +kernel)
theorem i_X11_on_X11 : ∀ w ∈ u_ws RX11 TX11 19, w ∈ wsX11_on := c_inP [154, 155, 156, 157, 158, 159, 160, 161, 162, 163, 164, 165, 166, 167, 168, 169, 170, 171, 172] (by decide +kernel)
theorem dX11_on_0 : decode cX11_on 0 = .ok (.iload_n 2, 1) := by decide +kernel
theorem dX11_on_1 : decode cX11_on 1 = .ok (.bipush 10, 2) := by decide +kernel
theorem dX11_on_3 : decode cX11_on 3 = .ok (.isub, 1) := by decide +kernel
theorem dX11_on_4 : decode cX11_on 4 = .ok (.invokestatic 139, 3) := by decide +kernel
theorem dX11_on_7 : decode cX11_on 7 = .ok (.istore_n 3, 1) := by decide +kernel
theorem dX11_on_8 : decode cX11_on 8 = .ok (.aload_n 0, 1) := by decide +kernel
theorem dX11_on_9 : decode cX11_on 9 = .ok (.iload_n 2, 1) := by decide +kernel
theorem dX11_on_10 : decode cX11_on 10 = .ok (.bipush 20, 2) := by decide +kernel
theorem dX11_on_12 : decode cX11_on 12 = .ok (.isub, 1) := by decide +kernel
theorem dX11_on_13 : decode cX11_on 13 = .ok (.invokevirtual 117, 3) := by decide +kernel
theorem dX11_on_16 : decode cX11_on 16 = .ok (.istore 4, 2) := by decide +kernel
theorem dX11_on_18 : decode cX11_on 18 = .ok (.iload_n 2, 1) := by decide +kernel
theorem dX11_on_19 : decode cX11_on 19 = .ok (.ifCond .eq 14, 3) := by decide +kernel
theorem dX11_on_22 : decode cX11_on 22 = .ok (.iload_n 3, 1) := by decide +kernel
theorem dX11_on_23 : decode cX11_on 23 = .ok (.ifCond .ne 10, 3) := by decide +kernel
theorem dX11_on_26 : decode cX11_on 26 = .ok (.iload 4, 2) := by decide +kernel
theorem dX11_on_28 : decode cX11_on 28 = .ok (.ifCond .ne 5, 3) := by decide +kernel
theorem dX11_on_31 : decode cX11_on 31 = .ok (.iconst (-1), 1) := by decide +kernel
theorem dX11_on_32 : decode cX11_on 32 = .ok (.ireturn, 1) := by decide +kernel
theorem dX11_on_33 : decode cX11_on 33 = .ok (.iload_n 1, 1) := by decide +kernel
theorem dX11_on_34 : decode cX11_on 34 = .ok (.invokestatic 216, 3) := by decide +kernel
theorem dX11_on_37 : decode cX11_on 37 = .ok (.ifCond .ne 6, 3) := by decide +kernel
theorem dX11_on_40 : decode cX11_on 40 = .ok (.bipush (-2), 2) := by decide +kernel
theorem dX11_on_42 : decode cX11_on 42 = .ok (.ireturn, 1) := by decide +kernel
theorem dX11_on_43 : decode cX11_on 43 = .ok (.aload_n 0, 1) := by decide +kernel
theorem dX11_on_44 : decode cX11_on 44 = .ok (.getfield 93, 3) := by decide +kernel
theorem dX11_on_47 : decode cX11_on 47 = .ok (.aload_n 0, 1) := by decide +kernel
theorem dX11_on_48 : decode cX11_on 48 = .ok (.getfield 86, 3) := by decide +kernel
theorem dX11_on_51 : decode cX11_on 51 = .ok (.invokevirtual 223, 3) := by decide +kernel
theorem dX11_on_54 : decode cX11_on 54 = .ok (.aload_n 0, 1) := by decide +kernel
theorem dX11_on_55 : decode cX11_on 55 = .ok (.aload_n 0, 1) := by decide +kernel
theorem dX11_on_56 : decode cX11_on 56 = .ok (.getfield 93, 3) := by decide +kernel
theorem dX11_on_59 : decode cX11_on 59 = .ok (.iload_n 1, 1) := by decide +kernel
theorem dX11_on_60 : decode cX11_on 60 = .ok (.ldc 227, 2) := by decide +kernel
theorem dX11_on_62 : decode cX11_on 62 = .ok (.invokevirtual 219, 3) := by decide +kernel
theorem dX11_on_65 : decode cX11_on 65 = .ok (.iload_n 3, 1) := by decide +kernel
theorem dX11_on_66 : decode cX11_on 66 = .ok (.ifCond .eq 16, 3) := by decide +kernel
theorem dX11_on_69 : decode cX11_on 69 = .ok (.aload_n 0, 1) := by decide +kernel
theorem dX11_on_70 : decode cX11_on 70 = .ok (.getfield 93, 3) := by decide +kernel
theorem dX11_on_73 : decode cX11_on 73 = .ok (.getfield 149, 3) := by decide +kernel
theorem dX11_on_76 : decode cX11_on 76 = .ok (.iload_n 2, 1) := by decide +kernel
theorem dX11_on_77 : decode cX11_on 77 = .ok (.bipush 10, 2) := by decide +kernel
theorem dX11_on_79 : decode cX11_on 79 = .ok (.isub, 1) := by decide +kernel
theorem dX11_on_80 : decode cX11_on 80 = .ok (.iaload, 1) := by decide +kernel
theorem dX11_on_81 : decode cX11_on 81 = .ok (.ireturn, 1) := by decide +kernel
theorem dX11_on_82 : decode cX11_on 82 = .ok (.iload 4, 2) := by decide +kernel
theorem dX11_on_84 : decode cX11_on 84 = .ok (.ifCond .eq 18, 3) := by decide +kernel
theorem dX11_on_87 : decode cX11_on 87 = .ok (.aload_n 0, 1) := by decide +kernel
theorem dX11_on_88 : decode cX11_on 88 = .ok (.getfield 93, 3) := by decide +kernel
theorem dX11_on_91 : decode cX11_on 91 = .ok (.getfield 126, 3) := by decide +kernel
theorem dX11_on_94 : decode cX11_on 94 = .ok (.iload_n 2, 1) := by decide +kernel
theorem dX11_on_95 : decode cX11_on 95 = .ok (.bipush 20, 2) := by decide +kernel
theorem dX11_on_97 : decode cX11_on 97 = .ok (.isub, 1) := by decide +kernel
theorem dX11_on_98 : decode cX11_on 98 = .ok (.iaload, 1) := by decide +kernel
theorem dX11_on_99 : decode cX11_on 99 = .ok (.goto 10, 3) := by decide +kernel
theorem dX11_on_102 : decode cX11_on 102 = .ok (.aload_n 0, 1) := by decide +kernel
theorem dX11_on_103 : decode cX11_on 103 = .ok (.getfield 93, 3) := by decide +kernel
theorem dX11_on_106 : decode cX11_on 106 = .ok (.invokevirtual 207, 3) := by decide +kernel
theorem dX11_on_109 : decode cX11_on 109 = .ok (.ireturn, 1) := by decide +kernel
set_option maxRecDepth 20000 in
theorem ggX11_on_X11_isElder : GoodIn wsX11_on wsX11_isElder := goodIn_r _ [9] (by decide +kernel) (by decide +kernel)
set_option maxRecDepth 20000 in
theorem gX11_on_X11_isElder : GoodIn wsX11_on (va_wsS RX11 139 yX11_isElder wsX11_isElder) := goodIn_app (goodIn_of _ (by decide +kernel)) ggX11_on_X11_isElder
set_option maxRecDepth 20000 in
theorem ggX11_on_X11_isChild : GoodIn wsX11_on wsX11_isChild := goodIn_r _ [13, 2, 14, 154, 155, 156, 157, 158, 159, 160, 161, 162, 163, 164, 165, 166, 167, 168, 169, 170, 171, 172, 173, 174, 175, 176, 177, 178, 179, 180, 181, 182, 183, 184, 185, 186, 187, 188, 189] (by decide +kernel) (by decide +kernel)
set_option maxRecDepth 20000 in
theorem gX11_on_X11_isChild : GoodIn wsX11_on (wsV RX11 117 RX11 yX11_isChild wsX11_isChild) := goodIn_app (goodIn_of _ (by decide +kernel)) ggX11_on_X11_isChild
set_option maxRecDepth 20000 in
theorem ggX11_on_X11_areSundays : GoodIn wsX11_on wsX11_areSundays := goodIn_r _ [17] (by decide +kernel) (by decide +kernel)
set_option maxRecDepth 20000 in
theorem gX11_on_X11_areSundays : GoodIn wsX11_on (va_wsS RX11 216 yX11_areSundays wsX11_areSundays) := goodIn_app (goodIn_of _ (by decide +kernel)) ggX11_on_X11_areSundays
set_option maxRecDepth 20000 in
theorem ggX11_on_X7_copyFrom : GoodIn wsX11_on wsX7_copyFrom := goodIn_r _ [22, 23, 24, 25, 26, 27, 28, 29, 30, 31, 32, 33, 34, 35, 36, 37, 38, 39, 40, 41, 42, 43, 44, 45, 46, 47, 48, 49, 50, 51, 52, 53, 173, 174, 175, 176, 177, 178, 179, 180, 181, 182, 183, 184, 185, 186, 187, 188, 189, 190, 191, 192, 193] (by decide +kernel) (by decide +kernel)
set_option maxRecDepth 20000 in
theorem gX11_on_X7_copyFrom : GoodIn wsX11_on (wsV RX11 223 RX7 yX7_copyFrom wsX7_copyFrom) := goodIn_app (goodIn_of _ (by decide +kernel)) ggX11_on_X7_copyFrom
set_option maxRecDepth 20000 in
theorem ggX11_on_X11_letGo : GoodIn wsX11_on wsX11_letGo := goodIn_r _ [57, 14, 58, 59, 60, 61, 8, 62, 63, 5, 4, 64, 65, 66, 67, 68, 69, 70, 71, 72, 21, 73, 28, 30, 74, 75, 76, 77, 78, 79, 80, 81, 82, 83, 84, 85, 86, 87, 88, 89, 90, 91, 92, 93, 94, 95, 96, 97, 98, 99, 100, 101, 102, 103, 104, 105, 106, 107, 108, 109, 110, 111, 112, 113, 114, 115, 116, 117, 118, 119, 120, 121, 122, 123, 124, 125, 126, 127, 128, 129, 130, 131, 132, 133, 134, 135, 136, 137, 138, 139, 140, 141, 31, 142, 143, 144, 145, 146, 147, 148, 43, 149, 33, 37, 36, 32, 173, 174, 175, 176, 177, 178, 179, 180, 181, 182, 183, 184, 185, 186, 187, 188, 189, 154, 155, 156, 157, 158, 159, 160, 161, 162, 163, 164, 165, 166, 167, 168, 169, 170, 171, 172, 194, 195, 196, 197, 198, 199, 200, 201] (by decide +kernel) (by decide +kernel)
set_option maxRecDepth 20000 in
theorem gX11_on_X11_letGo : GoodIn wsX11_on (wsV RX11 219 RX11 yX11_letGo wsX11_letGo) := goodIn_app (goodIn_of _ (by decide +kernel)) ggX11_on_X11_letGo
set_option maxRecDepth 20000 in
theorem ggX11_on_X7_named : GoodIn wsX11_on wsX7_named := goodIn_r _ [153, 28, 173, 174, 175, 176, 177, 178, 179, 180, 181, 182, 183, 184, 185, 186, 187, 188, 189] (by decide +kernel) (by decide +kernel)
set_option maxRecDepth 20000 in
theorem gX11_on_X7_named : GoodIn wsX11_on (wsV RX11 207 RX7 yX7_named wsX7_named) := goodIn_app (goodIn_of _ (by decide +kernel)) ggX11_on_X7_named
def fX11_on_33  (a1 : Int32) (a2 : Int32) (x1 : Int32) (x2 : Int32) (x3 : Int32) (x4 : Int32) (g : c_G) : Option (c_G × Int32) :=
  if (fX11_areSundays x1) = 0 then (some (g, (-2 : Int32))) else ((fX7_copyFrom g 101 55).bind fun g33003 => (fX11_letGo g33003 101 x1 ((1000000 : Int32))).bind fun g33005 => if x3 = 0 then (if x4 = 0 then ((fX7_named g33005 101).bind fun r33008 => some (g33005, r33008)) else (if c_in ((x2 - (20 : Int32))) (6) = true then some (g33005, (g33005.1 108 ((x2 - (20 : Int32))).toNatClampNeg)) else none)) else (if c_in ((x2 - (10 : Int32))) (6) = true then some (g33005, (g33005.1 103 ((x2 - (10 : Int32))).toNatClampNeg)) else none))
set_option maxRecDepth 100000 in
set_option maxHeartbeats 4000000 in
theorem jX11_on_33 {p : Program} {l : Launch} {e : Env} {s : State} {m : MethodId} {below : List Frame} {meth : Method} {c : Code} {D : va_G} {tc : Nat → ClassId} {ad : Nat → Nat} {A : Nat → Prop} {E : (Nat → Nat) × (Nat → Nat) × Nat} {a1 : Int32} {a2 : Int32} {g' : c_G} {r : Int32} (C : c_C p s m meth c D tc A E RX11 wsX11_on cX11_on 5 (some .int) ([.ref (ad 0), .int a1, .int a2] : List Value).toArray) (hD : c_D A ad TC)  : ∀ (x1 : Int32) (x2 : Int32) (x3 : Int32) (x4 : Int32) (g : c_G), fX11_on_33 a1 a2 x1 x2 x3 x4 g = some (g', r) → ∀ (H : Heap) (locs : List Loc), va_P D vwCl (c_ws tc ad TC g) H → va_S A s.heap H locs → ∀ ls : Array Slot, lv_has ls 5 [(0, .ref (ad 0)), (1, .int x1), (2, .int x2), (3, .int x3), (4, .int x4)] → W p l e (c_rm 6) s m ([.ref (ad 0), .int a1, .int a2] : List Value).toArray below meth c H locs 0 0 (MQ below (va_Qi (fun (x : Int32) (_ : Unit) => x = r) (fun _ t => va_P D vwCl (c_ws tc ad TC g') t.heap) A) ([.ref (ad 0), .int a1, .int a2] : List Value).toArray s 0 0 A) (F0 m 33 ls []) := by
  obtain ⟨hx, hb, hr, hml, hts, hown, hlk, hK, hE⟩ := id C
  intro x1 x2 x3 x4 g hf H locs hP hS ls hl
  unfold fX11_on_33 at hf
  refine lv_iload_n hx hb dX11_on_33 rfl (lv_at hl 1 rfl) ?_
  refine c_goi (va_runS (As := [.int x1]) (rest := []) ⟨hx, hb, hml, hown, hts⟩ (kX11_areSundays (T := TC) (g := g) rfl) (va_cwS 1 hts gX11_on_X11_areSundays rfl rfl rfl (by decide +kernel) ⟨Nat.le_of_ble_eq_true rfl, Nat.le_of_ble_eq_true rfl⟩) (c_preS hK hP hE hS) rfl rfl hl.1 rfl (lv_room (Nat.le_of_ble_eq_true rfl)) dX11_on_34 ⟨Nat.zero_le _, Nat.zero_le _⟩) hS (fun H locs hP hS => ?_)
  refine lv_if_ne (tgt := 43) hx hb dX11_on_37 (by decide) (fun c33001 => ?_) (fun c33001 => ?_)
  · have hf := c_ie c33001 hf
    refine lv_aload_n hx hb dX11_on_43 rfl (lv_at hl 0 rfl) ?_
    refine c_get hx hb hts i_X11_on_X11 hown hK hP 0 tC0 rfl 7 (by decide) (hts _ (List.mem_of_getElem? (i := 1) rfl)) (fun _ h9 => h9) rfl (v := .ref (ad 101)) rfl dX11_on_44 ?_
    refine lv_aload_n hx hb dX11_on_47 rfl (lv_at hl 0 rfl) ?_
    refine c_get hx hb hts i_X11_on_X11 hown hK hP 0 tC0 rfl 5 (by decide) (hts _ (List.mem_of_getElem? (i := 2) rfl)) (fun _ h9 => h9) rfl (v := .ref (ad 55)) rfl dX11_on_48 ?_
    obtain ⟨g33003, hc33002, hf⟩ := c_bd hf
    refine c_gov (va_runV (As := [.ref (ad 55)]) (rest := []) ⟨hx, hb, hml, hown, hts⟩ (kX7_copyFrom hD hc33002) (cwV 1 hts gX11_on_X7_copyFrom rfl rfl rfl (by decide +kernel) ⟨Nat.le_of_ble_eq_true rfl, Nat.le_of_ble_eq_true rfl⟩) (c_preV hK hP hE hS tC101 rfl) rfl rfl hl.1 rfl (lv_room (Nat.le_of_ble_eq_true rfl)) dX11_on_51 ⟨Nat.zero_le _, Nat.zero_le _⟩) hS (fun H locs hP hS => ?_)
    refine lv_aload_n hx hb dX11_on_54 rfl (lv_at hl 0 rfl) ?_
    refine lv_aload_n hx hb dX11_on_55 rfl (lv_at hl 0 rfl) ?_
    refine c_get hx hb hts i_X11_on_X11 hown hK hP 0 tC0 rfl 7 (by decide) (hts _ (List.mem_of_getElem? (i := 1) rfl)) (fun _ h9 => h9) rfl (v := .ref (ad 101)) rfl dX11_on_56 ?_
    refine lv_iload_n hx hb dX11_on_59 rfl (lv_at hl 1 rfl) ?_
    refine lv_ldc hx hb hown (v := (1000000 : Int32)) (hts _ (List.mem_of_getElem? (i := 3) rfl)) dX11_on_60 ?_
    obtain ⟨g33005, hc33004, hf⟩ := c_bd hf
    refine c_gov (va_runV (As := [.ref (ad 101), .int x1, .int (1000000 : Int32)]) (rest := []) ⟨hx, hb, hml, hown, hts⟩ (kX11_letGo hD hc33004) (cwV 3 hts gX11_on_X11_letGo rfl rfl rfl (by decide +kernel) ⟨Nat.le_of_ble_eq_true rfl, Nat.le_of_ble_eq_true rfl⟩) (c_preV hK hP hE hS tC0 rfl) rfl rfl hl.1 rfl (lv_room (Nat.le_of_ble_eq_true rfl)) dX11_on_62 ⟨Nat.zero_le _, Nat.zero_le _⟩) hS (fun H locs hP hS => ?_)
    refine lv_iload_n hx hb dX11_on_65 rfl (lv_at hl 3 rfl) ?_
    refine lv_if_eq (tgt := 82) hx hb dX11_on_66 (by decide) (fun c33006 => ?_) (fun c33006 => ?_)
    · have hf := c_it c33006 hf
      refine lv_iload hx hb dX11_on_82 (lv_at hl 4 rfl) ?_
      refine lv_if_eq (tgt := 102) hx hb dX11_on_84 (by decide) (fun c33007 => ?_) (fun c33007 => ?_)
      · have hf := c_it c33007 hf
        refine lv_aload_n hx hb dX11_on_102 rfl (lv_at hl 0 rfl) ?_
        refine c_get hx hb hts i_X11_on_X11 hown hK hP 0 tC0 rfl 7 (by decide) (hts _ (List.mem_of_getElem? (i := 1) rfl)) (fun _ h9 => h9) rfl (v := .ref (ad 101)) rfl dX11_on_103 ?_
        obtain ⟨r33008, hc33009, hf⟩ := c_bd hf
        refine c_goi (va_runV (As := []) (rest := []) ⟨hx, hb, hml, hown, hts⟩ (kX7_named hD hc33009) (cwV 0 hts gX11_on_X7_named rfl rfl rfl (by decide +kernel) ⟨Nat.le_of_ble_eq_true rfl, Nat.le_of_ble_eq_true rfl⟩) (c_preV hK hP hE hS tC101 rfl) rfl rfl hl.1 rfl (lv_room (Nat.le_of_ble_eq_true rfl)) dX11_on_106 ⟨Nat.zero_le _, Nat.zero_le _⟩) hS (fun H locs hP hS => ?_)
        exact c_iret hx hb hr hlk hP hS rfl (c_inj hf) dX11_on_109
      · have hf := c_ie c33007 hf
        refine lv_aload_n hx hb dX11_on_87 rfl (lv_at hl 0 rfl) ?_
        refine c_get hx hb hts i_X11_on_X11 hown hK hP 0 tC0 rfl 7 (by decide) (hts _ (List.mem_of_getElem? (i := 1) rfl)) (fun _ h9 => h9) rfl (v := .ref (ad 101)) rfl dX11_on_88 ?_
        refine c_get hx hb hts i_X11_on_X7 hown hK hP 101 tC101 rfl 9 (by decide) (hts _ (List.mem_of_getElem? (i := 5) rfl)) (fun _ h9 => h9) rfl (v := .ref (ad 108)) rfl dX11_on_91 ?_
        refine lv_iload_n hx hb dX11_on_94 rfl (lv_at hl 2 rfl) ?_
        refine lv_bipush (v := (20 : Int32)) hx hb dX11_on_95 (by decide) ?_
        refine lv_isub hx hb dX11_on_97 ?_
        obtain ⟨hi33010, hf⟩ := c_gd hf
        refine c_iald (j := ((x2 - (20 : Int32))).toNatClampNeg) hx hb hK hP 108 tC108 rfl (c_inV hi33010) dX11_on_98 ?_
        refine lv_goto (tgt := 109) hx hb dX11_on_99 (by decide) ?_
        exact c_iret hx hb hr hlk hP hS rfl (c_inj hf) dX11_on_109
    · have hf := c_ie c33006 hf
      refine lv_aload_n hx hb dX11_on_69 rfl (lv_at hl 0 rfl) ?_
      refine c_get hx hb hts i_X11_on_X11 hown hK hP 0 tC0 rfl 7 (by decide) (hts _ (List.mem_of_getElem? (i := 1) rfl)) (fun _ h9 => h9) rfl (v := .ref (ad 101)) rfl dX11_on_70 ?_
      refine c_get hx hb hts i_X11_on_X7 hown hK hP 101 tC101 rfl 1 (by decide) (hts _ (List.mem_of_getElem? (i := 4) rfl)) (fun _ h9 => h9) rfl (v := .ref (ad 103)) rfl dX11_on_73 ?_
      refine lv_iload_n hx hb dX11_on_76 rfl (lv_at hl 2 rfl) ?_
      refine lv_bipush (v := (10 : Int32)) hx hb dX11_on_77 (by decide) ?_
      refine lv_isub hx hb dX11_on_79 ?_
      obtain ⟨hi33011, hf⟩ := c_gd hf
      refine c_iald (j := ((x2 - (10 : Int32))).toNatClampNeg) hx hb hK hP 103 tC103 rfl (c_inV hi33011) dX11_on_80 ?_
      exact c_iret hx hb hr hlk hP hS rfl (c_inj hf) dX11_on_81
  · have hf := c_it c33001 hf
    refine lv_bipush (v := (-2 : Int32)) hx hb dX11_on_40 (by decide) ?_
    exact c_iret hx hb hr hlk hP hS rfl (c_inj hf) dX11_on_42
def fX11_on (g : c_G) (a1 : Int32) (a2 : Int32) : Option (c_G × Int32) :=
  c_let ((fX11_isElder ((a2 - (10 : Int32))))) fun v1 => (fX11_isChild g ((a2 - (20 : Int32)))).bind fun r2 => if a2 = 0 then (fX11_on_33 a1 a2 a1 a2 v1 r2 g) else (if v1 = 0 then (if r2 = 0 then (some (g, (-1 : Int32))) else (fX11_on_33 a1 a2 a1 a2 v1 r2 g)) else (fX11_on_33 a1 a2 a1 a2 v1 r2 g))
set_option maxRecDepth 100000 in
set_option maxHeartbeats 4000000 in
theorem kX11_on {l : Launch} {D : va_G} {tc : Nat → ClassId} {ad : Nat → Nat} {A : Nat → Prop} {E : (Nat → Nat) × (Nat → Nat) × Nat} (hD : c_D A ad TC) {a1 : Int32} {a2 : Int32} {g g' : c_G} {r : Int32} (hf : fX11_on g a1 a2 = some (g', r)) : c_Mi l yX11_on wsX11_on (c_rm 6) D tc ad A E TC ([.ref (ad 0), .int a1, .int a2] : List Value) g g' r := by
  refine c_ofW (bytes := cX11_on) (maxL := 5) (ret := (some .int)) (by decide) rfl (Nat.le_of_ble_eq_true rfl) ?_
  intro p e s m below meth c ls C hP hS hl
  unfold fX11_on at hf
  obtain ⟨hx, hb, hr, hml, hts, hown, hlk, hK, hE⟩ := id C
  have hl : lv_has ls 5 [(0, .ref (ad 0)), (1, .int a1), (2, .int a2)] := hl
  refine lv_iload_n hx hb dX11_on_0 rfl (lv_at hl 2 rfl) ?_
  refine lv_bipush (v := (10 : Int32)) hx hb dX11_on_1 (by decide) ?_
  refine lv_isub hx hb dX11_on_3 ?_
  refine c_goi (va_runS (As := [.int (a2 - (10 : Int32))]) (rest := []) ⟨hx, hb, hml, hown, hts⟩ (kX11_isElder (T := TC) (g := g) rfl) (va_cwS 1 hts gX11_on_X11_isElder rfl rfl rfl (by decide +kernel) ⟨Nat.le_of_ble_eq_true rfl, Nat.le_of_ble_eq_true rfl⟩) (c_preS hK hP hE hS) rfl rfl hl.1 rfl (lv_room (Nat.le_of_ble_eq_true rfl)) dX11_on_4 ⟨Nat.zero_le _, Nat.zero_le _⟩) hS (fun H locs hP hS => ?_)
  obtain ⟨v1, ev1, hf⟩ := c_letE hf
  refine c_topi ev1 ?_
  refine lv_istore_n (lv' := [(3, .int v1), (0, .ref (ad 0)), (1, .int a1), (2, .int a2)]) hx hb dX11_on_7 rfl hl (by decide) rfl (fun ls hl => ?_)
  refine lv_aload_n hx hb dX11_on_8 rfl (lv_at hl 1 rfl) ?_
  refine lv_iload_n hx hb dX11_on_9 rfl (lv_at hl 3 rfl) ?_
  refine lv_bipush (v := (20 : Int32)) hx hb dX11_on_10 (by decide) ?_
  refine lv_isub hx hb dX11_on_12 ?_
  obtain ⟨r2, hc3, hf⟩ := c_bd hf
  refine c_goi (va_runV (As := [.int (a2 - (20 : Int32))]) (rest := []) ⟨hx, hb, hml, hown, hts⟩ (kX11_isChild hD hc3) (cwV 1 hts gX11_on_X11_isChild rfl rfl rfl (by decide +kernel) ⟨Nat.le_of_ble_eq_true rfl, Nat.le_of_ble_eq_true rfl⟩) (c_preV hK hP hE hS tC0 rfl) rfl rfl hl.1 rfl (lv_room (Nat.le_of_ble_eq_true rfl)) dX11_on_13 ⟨Nat.zero_le _, Nat.zero_le _⟩) hS (fun H locs hP hS => ?_)
  refine lv_istore (lv' := [(4, .int r2), (3, .int v1), (0, .ref (ad 0)), (1, .int a1), (2, .int a2)]) hx hb dX11_on_16 hl (by decide) rfl (fun ls hl => ?_)
  refine lv_iload_n hx hb dX11_on_18 rfl (lv_at hl 4 rfl) ?_
  refine lv_if_eq (tgt := 33) hx hb dX11_on_19 (by decide) (fun c4 => ?_) (fun c4 => ?_)
  · have hf := c_it c4 hf
    exact jX11_on_33 C hD a1 a2 v1 r2 g hf _ _ hP hS _ (lv_sub hl [2, 3, 4, 1, 0] rfl)
  · have hf := c_ie c4 hf
    refine lv_iload_n hx hb dX11_on_22 rfl (lv_at hl 1 rfl) ?_
    refine lv_if_ne (tgt := 33) hx hb dX11_on_23 (by decide) (fun c5 => ?_) (fun c5 => ?_)
    · have hf := c_ie c5 hf
      exact jX11_on_33 C hD a1 a2 v1 r2 g hf _ _ hP hS _ (lv_sub hl [2, 3, 4, 1, 0] rfl)
    · have hf := c_it c5 hf
      refine lv_iload hx hb dX11_on_26 (lv_at hl 0 rfl) ?_
      refine lv_if_ne (tgt := 33) hx hb dX11_on_28 (by decide) (fun c6 => ?_) (fun c6 => ?_)
      · have hf := c_ie c6 hf
        exact jX11_on_33 C hD a1 a2 v1 r2 g hf _ _ hP hS _ (lv_sub hl [2, 3, 4, 1, 0] rfl)
      · have hf := c_it c6 hf
        refine lv_iconst (v := (-1 : Int32)) hx hb dX11_on_31 (by decide) ?_
        exact c_iret hx hb hr hlk hP hS rfl (c_inj hf) dX11_on_32
theorem i_X11_teach_X7 : ∀ w ∈ u_ws RX7 TX7 17, w ∈ wsX11_teach := c_inP [119, 120, 121, 122, 123, 124, 125, 126, 127, 128, 129, 130, 131, 132, 133, 134, 135] (by decide +kernel)
theorem i_X11_teach_X11 : ∀ w ∈ u_ws RX11 TX11 19, w ∈ wsX11_teach := c_inP [100, 101, 102, 103, 104, 105, 106, 107, 108, 109, 110, 111, 112, 113, 114, 115, 116, 117, 118] (by decide +kernel)
theorem dX11_teach_0 : decode cX11_teach 0 = .ok (.aload_n 0, 1) := by decide +kernel
theorem dX11_teach_1 : decode cX11_teach 1 = .ok (.iload_n 1, 1) := by decide +kernel
theorem dX11_teach_2 : decode cX11_teach 2 = .ok (.invokevirtual 117, 3) := by decide +kernel
theorem dX11_teach_5 : decode cX11_teach 5 = .ok (.ifCond .eq 17, 3) := by decide +kernel
theorem dX11_teach_8 : decode cX11_teach 8 = .ok (.iload_n 2, 1) := by decide +kernel
theorem dX11_teach_9 : decode cX11_teach 9 = .ok (.invokestatic 139, 3) := by decide +kernel
theorem dX11_teach_12 : decode cX11_teach 12 = .ok (.ifCond .eq 10, 3) := by decide +kernel
theorem dX11_teach_15 : decode cX11_teach 15 = .ok (.iload_n 3, 1) := by decide +kernel
theorem dX11_teach_16 : decode cX11_teach 16 = .ok (.invokestatic 162, 3) := by decide +kernel
theorem dX11_teach_19 : decode cX11_teach 19 = .ok (.ifCond .ne 5, 3) := by decide +kernel
theorem dX11_teach_22 : decode cX11_teach 22 = .ok (.iconst (-1), 1) := by decide +kernel
theorem dX11_teach_23 : decode cX11_teach 23 = .ok (.ireturn, 1) := by decide +kernel
theorem dX11_teach_24 : decode cX11_teach 24 = .ok (.iconst 1, 1) := by decide +kernel
theorem dX11_teach_25 : decode cX11_teach 25 = .ok (.iload_n 3, 1) := by decide +kernel
theorem dX11_teach_26 : decode cX11_teach 26 = .ok (.ishl, 1) := by decide +kernel
theorem dX11_teach_27 : decode cX11_teach 27 = .ok (.aload_n 0, 1) := by decide +kernel
theorem dX11_teach_28 : decode cX11_teach 28 = .ok (.getfield 86, 3) := by decide +kernel
theorem dX11_teach_31 : decode cX11_teach 31 = .ok (.getfield 126, 3) := by decide +kernel
theorem dX11_teach_34 : decode cX11_teach 34 = .ok (.iload_n 1, 1) := by decide +kernel
theorem dX11_teach_35 : decode cX11_teach 35 = .ok (.iaload, 1) := by decide +kernel
theorem dX11_teach_36 : decode cX11_teach 36 = .ok (.iconst (-1), 1) := by decide +kernel
theorem dX11_teach_37 : decode cX11_teach 37 = .ok (.ixor, 1) := by decide +kernel
theorem dX11_teach_38 : decode cX11_teach 38 = .ok (.iand, 1) := by decide +kernel
theorem dX11_teach_39 : decode cX11_teach 39 = .ok (.istore 4, 2) := by decide +kernel
theorem dX11_teach_41 : decode cX11_teach 41 = .ok (.aload_n 0, 1) := by decide +kernel
theorem dX11_teach_42 : decode cX11_teach 42 = .ok (.aload_n 0, 1) := by decide +kernel
theorem dX11_teach_43 : decode cX11_teach 43 = .ok (.getfield 86, 3) := by decide +kernel
theorem dX11_teach_46 : decode cX11_teach 46 = .ok (.iload_n 1, 1) := by decide +kernel
theorem dX11_teach_47 : decode cX11_teach 47 = .ok (.aload_n 0, 1) := by decide +kernel
theorem dX11_teach_48 : decode cX11_teach 48 = .ok (.getfield 86, 3) := by decide +kernel
theorem dX11_teach_51 : decode cX11_teach 51 = .ok (.getfield 123, 3) := by decide +kernel
theorem dX11_teach_54 : decode cX11_teach 54 = .ok (.iload_n 1, 1) := by decide +kernel
theorem dX11_teach_55 : decode cX11_teach 55 = .ok (.iaload, 1) := by decide +kernel
theorem dX11_teach_56 : decode cX11_teach 56 = .ok (.aload_n 0, 1) := by decide +kernel
theorem dX11_teach_57 : decode cX11_teach 57 = .ok (.getfield 86, 3) := by decide +kernel
theorem dX11_teach_60 : decode cX11_teach 60 = .ok (.getfield 126, 3) := by decide +kernel
theorem dX11_teach_63 : decode cX11_teach 63 = .ok (.iload_n 1, 1) := by decide +kernel
theorem dX11_teach_64 : decode cX11_teach 64 = .ok (.iaload, 1) := by decide +kernel
theorem dX11_teach_65 : decode cX11_teach 65 = .ok (.iload 4, 2) := by decide +kernel
theorem dX11_teach_67 : decode cX11_teach 67 = .ok (.ior, 1) := by decide +kernel
theorem dX11_teach_68 : decode cX11_teach 68 = .ok (.iload_n 2, 1) := by decide +kernel
theorem dX11_teach_69 : decode cX11_teach 69 = .ok (.invokevirtual 228, 3) := by decide +kernel
theorem dX11_teach_72 : decode cX11_teach 72 = .ok (.iload_n 3, 1) := by decide +kernel
theorem dX11_teach_73 : decode cX11_teach 73 = .ok (.if_icmp .ne 8, 3) := by decide +kernel
theorem dX11_teach_76 : decode cX11_teach 76 = .ok (.iload 4, 2) := by decide +kernel
theorem dX11_teach_78 : decode cX11_teach 78 = .ok (.goto 5, 3) := by decide +kernel
theorem dX11_teach_81 : decode cX11_teach 81 = .ok (.bipush (-5), 2) := by decide +kernel
theorem dX11_teach_83 : decode cX11_teach 83 = .ok (.ireturn, 1) := by decide +kernel
set_option maxRecDepth 20000 in
theorem ggX11_teach_X11_isChild : GoodIn wsX11_teach wsX11_isChild := goodIn_r _ [8, 1, 9, 100, 101, 102, 103, 104, 105, 106, 107, 108, 109, 110, 111, 112, 113, 114, 115, 116, 117, 118, 119, 120, 121, 122, 123, 124, 125, 126, 127, 128, 129, 130, 131, 132, 133, 134, 135] (by decide +kernel) (by decide +kernel)
set_option maxRecDepth 20000 in
theorem gX11_teach_X11_isChild : GoodIn wsX11_teach (wsV RX11 117 RX11 yX11_isChild wsX11_isChild) := goodIn_app (goodIn_of _ (by decide +kernel)) ggX11_teach_X11_isChild
set_option maxRecDepth 20000 in
theorem ggX11_teach_X11_isElder : GoodIn wsX11_teach wsX11_isElder := goodIn_r _ [12] (by decide +kernel) (by decide +kernel)
set_option maxRecDepth 20000 in
theorem gX11_teach_X11_isElder : GoodIn wsX11_teach (va_wsS RX11 139 yX11_isElder wsX11_isElder) := goodIn_app (goodIn_of _ (by decide +kernel)) ggX11_teach_X11_isElder
set_option maxRecDepth 20000 in
theorem ggX11_teach_X11_isWord : GoodIn wsX11_teach wsX11_isWord := goodIn_r _ [15] (by decide +kernel) (by decide +kernel)
set_option maxRecDepth 20000 in
theorem gX11_teach_X11_isWord : GoodIn wsX11_teach (va_wsS RX11 162 yX11_isWord wsX11_isWord) := goodIn_app (goodIn_of _ (by decide +kernel)) ggX11_teach_X11_isWord
set_option maxRecDepth 20000 in
theorem ggX11_teach_X11_says : GoodIn wsX11_teach wsX11_says := goodIn_r _ [19, 20, 21, 22, 23, 24, 25, 26, 27, 28, 29, 30, 7, 31, 32, 33, 34, 35, 36, 37, 38, 39, 40, 41, 42, 43, 44, 45, 46, 47, 48, 49, 50, 51, 52, 53, 54, 55, 56, 57, 58, 59, 60, 61, 62, 63, 64, 65, 66, 67, 68, 69, 70, 71, 72, 73, 74, 75, 76, 77, 78, 79, 80, 81, 82, 83, 84, 85, 86, 87, 88, 89, 90, 91, 92, 93, 94, 95, 96, 97, 98, 99, 100, 101, 102, 103, 104, 105, 106, 107, 108, 109, 110, 111, 112, 113, 114, 115, 116, 117, 118, 119, 120, 121, 122, 123, 124, 125, 126, 127, 128, 129, 130, 131, 132, 133, 134, 135, 136, 137, 138, 139, 140, 141, 142, 143] (by decide +kernel) (by decide +kernel)
set_option maxRecDepth 20000 in
theorem gX11_teach_X11_says : GoodIn wsX11_teach (wsV RX11 228 RX11 yX11_says wsX11_says) := goodIn_app (goodIn_of _ (by decide +kernel)) ggX11_teach_X11_says
def fX11_teach (g : c_G) (a1 : Int32) (a2 : Int32) (a3 : Int32) : Option (c_G × Int32) :=
  (fX11_isChild g a1).bind fun r1 => if r1 = 0 then (some (g, (-1 : Int32))) else (if (fX11_isElder a2) = 0 then (some (g, (-1 : Int32))) else (if (fX11_isWord a3) = 0 then (some (g, (-1 : Int32))) else (if c_in (a1) (6) = true then c_let ((((1 : Int32) <<< (a3 &&& 31)) &&& ((g.1 62 (a1).toNatClampNeg) ^^^ (-1 : Int32)))) fun v7 => c_b2 (fX11_says g 55 a1 ((g.1 61 (a1).toNatClampNeg)) (((g.1 62 (a1).toNatClampNeg) ||| v7)) a2) fun g9 r10 => if r10 = a3 then (some (g9, v7)) else (some (g9, (-5 : Int32))) else none)))
set_option maxRecDepth 100000 in
set_option maxHeartbeats 4000000 in
theorem kX11_teach {l : Launch} {D : va_G} {tc : Nat → ClassId} {ad : Nat → Nat} {A : Nat → Prop} {E : (Nat → Nat) × (Nat → Nat) × Nat} (hD : c_D A ad TC) {a1 : Int32} {a2 : Int32} {a3 : Int32} {g g' : c_G} {r : Int32} (hf : fX11_teach g a1 a2 a3 = some (g', r)) : c_Mi l yX11_teach wsX11_teach (c_rm 4) D tc ad A E TC ([.ref (ad 0), .int a1, .int a2, .int a3] : List Value) g g' r := by
  refine c_ofW (bytes := cX11_teach) (maxL := 5) (ret := (some .int)) (by decide) rfl (Nat.le_of_ble_eq_true rfl) ?_
  intro p e s m below meth c ls C hP hS hl
  unfold fX11_teach at hf
  obtain ⟨hx, hb, hr, hml, hts, hown, hlk, hK, hE⟩ := id C
  have hl : lv_has ls 5 [(0, .ref (ad 0)), (1, .int a1), (2, .int a2), (3, .int a3)] := hl
  refine lv_aload_n hx hb dX11_teach_0 rfl (lv_at hl 0 rfl) ?_
  refine lv_iload_n hx hb dX11_teach_1 rfl (lv_at hl 1 rfl) ?_
  obtain ⟨r1, hc2, hf⟩ := c_bd hf
  refine c_goi (va_runV (As := [.int a1]) (rest := []) ⟨hx, hb, hml, hown, hts⟩ (kX11_isChild hD hc2) (cwV 1 hts gX11_teach_X11_isChild rfl rfl rfl (by decide +kernel) ⟨Nat.le_of_ble_eq_true rfl, Nat.le_of_ble_eq_true rfl⟩) (c_preV hK hP hE hS tC0 rfl) rfl rfl hl.1 rfl (lv_room (Nat.le_of_ble_eq_true rfl)) dX11_teach_2 ⟨Nat.zero_le _, Nat.zero_le _⟩) hS (fun H locs hP hS => ?_)
  refine lv_if_eq (tgt := 22) hx hb dX11_teach_5 (by decide) (fun c3 => ?_) (fun c3 => ?_)
  · have hf := c_it c3 hf
    refine lv_iconst (v := (-1 : Int32)) hx hb dX11_teach_22 (by decide) ?_
    exact c_iret hx hb hr hlk hP hS rfl (c_inj hf) dX11_teach_23
  · have hf := c_ie c3 hf
    refine lv_iload_n hx hb dX11_teach_8 rfl (lv_at hl 2 rfl) ?_
    refine c_goi (va_runS (As := [.int a2]) (rest := []) ⟨hx, hb, hml, hown, hts⟩ (kX11_isElder (T := TC) (g := g) rfl) (va_cwS 1 hts gX11_teach_X11_isElder rfl rfl rfl (by decide +kernel) ⟨Nat.le_of_ble_eq_true rfl, Nat.le_of_ble_eq_true rfl⟩) (c_preS hK hP hE hS) rfl rfl hl.1 rfl (lv_room (Nat.le_of_ble_eq_true rfl)) dX11_teach_9 ⟨Nat.zero_le _, Nat.zero_le _⟩) hS (fun H locs hP hS => ?_)
    refine lv_if_eq (tgt := 22) hx hb dX11_teach_12 (by decide) (fun c4 => ?_) (fun c4 => ?_)
    · have hf := c_it c4 hf
      refine lv_iconst (v := (-1 : Int32)) hx hb dX11_teach_22 (by decide) ?_
      exact c_iret hx hb hr hlk hP hS rfl (c_inj hf) dX11_teach_23
    · have hf := c_ie c4 hf
      refine lv_iload_n hx hb dX11_teach_15 rfl (lv_at hl 3 rfl) ?_
      refine c_goi (va_runS (As := [.int a3]) (rest := []) ⟨hx, hb, hml, hown, hts⟩ (kX11_isWord (T := TC) (g := g) rfl) (va_cwS 1 hts gX11_teach_X11_isWord rfl rfl rfl (by decide +kernel) ⟨Nat.le_of_ble_eq_true rfl, Nat.le_of_ble_eq_true rfl⟩) (c_preS hK hP hE hS) rfl rfl hl.1 rfl (lv_room (Nat.le_of_ble_eq_true rfl)) dX11_teach_16 ⟨Nat.zero_le _, Nat.zero_le _⟩) hS (fun H locs hP hS => ?_)
      refine lv_if_ne (tgt := 24) hx hb dX11_teach_19 (by decide) (fun c5 => ?_) (fun c5 => ?_)
      · have hf := c_ie c5 hf
        refine lv_iconst (v := (1 : Int32)) hx hb dX11_teach_24 (by decide) ?_
        refine lv_iload_n hx hb dX11_teach_25 rfl (lv_at hl 3 rfl) ?_
        refine lv_ishl hx hb dX11_teach_26 ?_
        refine lv_aload_n hx hb dX11_teach_27 rfl (lv_at hl 0 rfl) ?_
        refine c_get hx hb hts i_X11_teach_X11 hown hK hP 0 tC0 rfl 5 (by decide) (hts _ (List.mem_of_getElem? (i := 1) rfl)) (fun _ h9 => h9) rfl (v := .ref (ad 55)) rfl dX11_teach_28 ?_
        refine c_get hx hb hts i_X11_teach_X7 hown hK hP 55 tC55 rfl 9 (by decide) (hts _ (List.mem_of_getElem? (i := 2) rfl)) (fun _ h9 => h9) rfl (v := .ref (ad 62)) rfl dX11_teach_31 ?_
        refine lv_iload_n hx hb dX11_teach_34 rfl (lv_at hl 1 rfl) ?_
        obtain ⟨hi6, hf⟩ := c_gd hf
        refine c_iald (j := (a1).toNatClampNeg) hx hb hK hP 62 tC62 rfl (c_inV hi6) dX11_teach_35 ?_
        refine lv_iconst (v := (-1 : Int32)) hx hb dX11_teach_36 (by decide) ?_
        refine lv_ixor hx hb dX11_teach_37 ?_
        refine lv_iand hx hb dX11_teach_38 ?_
        obtain ⟨v7, ev7, hf⟩ := c_letE hf
        refine c_topi ev7 ?_
        refine lv_istore (lv' := [(4, .int v7), (0, .ref (ad 0)), (1, .int a1), (2, .int a2), (3, .int a3)]) hx hb dX11_teach_39 hl (by decide) rfl (fun ls hl => ?_)
        refine lv_aload_n hx hb dX11_teach_41 rfl (lv_at hl 1 rfl) ?_
        refine lv_aload_n hx hb dX11_teach_42 rfl (lv_at hl 1 rfl) ?_
        refine c_get hx hb hts i_X11_teach_X11 hown hK hP 0 tC0 rfl 5 (by decide) (hts _ (List.mem_of_getElem? (i := 1) rfl)) (fun _ h9 => h9) rfl (v := .ref (ad 55)) rfl dX11_teach_43 ?_
        refine lv_iload_n hx hb dX11_teach_46 rfl (lv_at hl 2 rfl) ?_
        refine lv_aload_n hx hb dX11_teach_47 rfl (lv_at hl 1 rfl) ?_
        refine c_get hx hb hts i_X11_teach_X11 hown hK hP 0 tC0 rfl 5 (by decide) (hts _ (List.mem_of_getElem? (i := 1) rfl)) (fun _ h9 => h9) rfl (v := .ref (ad 55)) rfl dX11_teach_48 ?_
        refine c_get hx hb hts i_X11_teach_X7 hown hK hP 55 tC55 rfl 8 (by decide) (hts _ (List.mem_of_getElem? (i := 3) rfl)) (fun _ h9 => h9) rfl (v := .ref (ad 61)) rfl dX11_teach_51 ?_
        refine lv_iload_n hx hb dX11_teach_54 rfl (lv_at hl 2 rfl) ?_
        refine c_iald (j := (a1).toNatClampNeg) hx hb hK hP 61 tC61 rfl (c_inV hi6) dX11_teach_55 ?_
        refine lv_aload_n hx hb dX11_teach_56 rfl (lv_at hl 1 rfl) ?_
        refine c_get hx hb hts i_X11_teach_X11 hown hK hP 0 tC0 rfl 5 (by decide) (hts _ (List.mem_of_getElem? (i := 1) rfl)) (fun _ h9 => h9) rfl (v := .ref (ad 55)) rfl dX11_teach_57 ?_
        refine c_get hx hb hts i_X11_teach_X7 hown hK hP 55 tC55 rfl 9 (by decide) (hts _ (List.mem_of_getElem? (i := 2) rfl)) (fun _ h9 => h9) rfl (v := .ref (ad 62)) rfl dX11_teach_60 ?_
        refine lv_iload_n hx hb dX11_teach_63 rfl (lv_at hl 2 rfl) ?_
        refine c_iald (j := (a1).toNatClampNeg) hx hb hK hP 62 tC62 rfl (c_inV hi6) dX11_teach_64 ?_
        refine lv_iload hx hb dX11_teach_65 (lv_at hl 0 rfl) ?_
        refine lv_ior hx hb dX11_teach_67 ?_
        refine lv_iload_n hx hb dX11_teach_68 rfl (lv_at hl 3 rfl) ?_
        obtain ⟨g9, r10, hc8, hf⟩ := c_b2E hf
        refine c_goi (va_runV (As := [.ref (ad 55), .int a1, .int (g.1 61 (a1).toNatClampNeg), .int ((g.1 62 (a1).toNatClampNeg) ||| v7), .int a2]) (rest := []) ⟨hx, hb, hml, hown, hts⟩ (kX11_says hD hc8) (cwV 5 hts gX11_teach_X11_says rfl rfl rfl (by decide +kernel) ⟨Nat.le_of_ble_eq_true rfl, Nat.le_of_ble_eq_true rfl⟩) (c_preV hK hP hE hS tC0 rfl) rfl rfl hl.1 rfl (lv_room (Nat.le_of_ble_eq_true rfl)) dX11_teach_69 ⟨Nat.zero_le _, Nat.zero_le _⟩) hS (fun H locs hP hS => ?_)
        refine lv_iload_n hx hb dX11_teach_72 rfl (lv_at hl 4 rfl) ?_
        refine lv_icmp_ne (tgt := 81) hx hb dX11_teach_73 (by decide) (fun c11 => ?_) (fun c11 => ?_)
        · have hf := c_ie c11 hf
          refine lv_bipush (v := (-5 : Int32)) hx hb dX11_teach_81 (by decide) ?_
          exact c_iret hx hb hr hlk hP hS rfl (c_inj hf) dX11_teach_83
        · have hf := c_it c11 hf
          refine lv_iload hx hb dX11_teach_76 (lv_at hl 0 rfl) ?_
          refine lv_goto (tgt := 83) hx hb dX11_teach_78 (by decide) ?_
          exact c_iret hx hb hr hlk hP hS rfl (c_inj hf) dX11_teach_83
      · have hf := c_it c5 hf
        refine lv_iconst (v := (-1 : Int32)) hx hb dX11_teach_22 (by decide) ?_
        exact c_iret hx hb hr hlk hP hS rfl (c_inj hf) dX11_teach_23
theorem i_X11_hear_X7 : ∀ w ∈ u_ws RX7 TX7 17, w ∈ wsX11_hear := c_inP [47, 48, 49, 50, 51, 52, 53, 54, 55, 56, 57, 58, 59, 60, 61, 62, 63] (by decide +kernel)
theorem i_X11_hear_X11 : ∀ w ∈ u_ws RX11 TX11 19, w ∈ wsX11_hear := c_inP [28, 29, 30, 31, 32, 33, 34, 35, 36, 37, 38, 39, 40, 41, 42, 43, 44, 45, 46] (by decide +kernel)
theorem dX11_hear_0 : decode cX11_hear 0 = .ok (.iload_n 1, 1) := by decide +kernel
theorem dX11_hear_1 : decode cX11_hear 1 = .ok (.iconst (-1), 1) := by decide +kernel
theorem dX11_hear_2 : decode cX11_hear 2 = .ok (.if_icmp .ne 14, 3) := by decide +kernel
theorem dX11_hear_5 : decode cX11_hear 5 = .ok (.aload_n 0, 1) := by decide +kernel
theorem dX11_hear_6 : decode cX11_hear 6 = .ok (.getfield 86, 3) := by decide +kernel
theorem dX11_hear_9 : decode cX11_hear 9 = .ok (.getfield 232, 3) := by decide +kernel
theorem dX11_hear_12 : decode cX11_hear 12 = .ok (.invokevirtual 236, 3) := by decide +kernel
theorem dX11_hear_15 : decode cX11_hear 15 = .ok (.ireturn, 1) := by decide +kernel
theorem dX11_hear_16 : decode cX11_hear 16 = .ok (.aload_n 0, 1) := by decide +kernel
theorem dX11_hear_17 : decode cX11_hear 17 = .ok (.iload_n 1, 1) := by decide +kernel
theorem dX11_hear_18 : decode cX11_hear 18 = .ok (.invokevirtual 117, 3) := by decide +kernel
theorem dX11_hear_21 : decode cX11_hear 21 = .ok (.ifCond .eq 22, 3) := by decide +kernel
theorem dX11_hear_24 : decode cX11_hear 24 = .ok (.iload_n 2, 1) := by decide +kernel
theorem dX11_hear_25 : decode cX11_hear 25 = .ok (.invokestatic 139, 3) := by decide +kernel
theorem dX11_hear_28 : decode cX11_hear 28 = .ok (.ifCond .eq 15, 3) := by decide +kernel
theorem dX11_hear_31 : decode cX11_hear 31 = .ok (.iload_n 3, 1) := by decide +kernel
theorem dX11_hear_32 : decode cX11_hear 32 = .ok (.iconst (-1), 1) := by decide +kernel
theorem dX11_hear_33 : decode cX11_hear 33 = .ok (.if_icmp .eq 12, 3) := by decide +kernel
theorem dX11_hear_36 : decode cX11_hear 36 = .ok (.iload_n 3, 1) := by decide +kernel
theorem dX11_hear_37 : decode cX11_hear 37 = .ok (.invokestatic 162, 3) := by decide +kernel
theorem dX11_hear_40 : decode cX11_hear 40 = .ok (.ifCond .ne 5, 3) := by decide +kernel
theorem dX11_hear_43 : decode cX11_hear 43 = .ok (.iconst (-1), 1) := by decide +kernel
theorem dX11_hear_44 : decode cX11_hear 44 = .ok (.ireturn, 1) := by decide +kernel
theorem dX11_hear_45 : decode cX11_hear 45 = .ok (.aload_n 0, 1) := by decide +kernel
theorem dX11_hear_46 : decode cX11_hear 46 = .ok (.getfield 86, 3) := by decide +kernel
theorem dX11_hear_49 : decode cX11_hear 49 = .ok (.getfield 232, 3) := by decide +kernel
theorem dX11_hear_52 : decode cX11_hear 52 = .ok (.iload_n 1, 1) := by decide +kernel
theorem dX11_hear_53 : decode cX11_hear 53 = .ok (.iload_n 2, 1) := by decide +kernel
theorem dX11_hear_54 : decode cX11_hear 54 = .ok (.iload_n 3, 1) := by decide +kernel
theorem dX11_hear_55 : decode cX11_hear 55 = .ok (.ifCond .ge 8, 3) := by decide +kernel
theorem dX11_hear_58 : decode cX11_hear 58 = .ok (.bipush (-5), 2) := by decide +kernel
theorem dX11_hear_60 : decode cX11_hear 60 = .ok (.goto 4, 3) := by decide +kernel
theorem dX11_hear_63 : decode cX11_hear 63 = .ok (.iload_n 3, 1) := by decide +kernel
theorem dX11_hear_64 : decode cX11_hear 64 = .ok (.invokevirtual 241, 3) := by decide +kernel
theorem dX11_hear_67 : decode cX11_hear 67 = .ok (.ireturn, 1) := by decide +kernel
set_option maxRecDepth 20000 in
theorem ggX11_hear_X5_clear : GoodIn wsX11_hear wsX5_clear := goodIn_r _ [7, 8, 64, 65, 66, 67] (by decide +kernel) (by decide +kernel)
set_option maxRecDepth 20000 in
theorem gX11_hear_X5_clear : GoodIn wsX11_hear (wsV RX11 236 RX5 yX5_clear wsX5_clear) := goodIn_app (goodIn_of _ (by decide +kernel)) ggX11_hear_X5_clear
set_option maxRecDepth 20000 in
theorem ggX11_hear_X11_isChild : GoodIn wsX11_hear wsX11_isChild := goodIn_r _ [13, 1, 14, 28, 29, 30, 31, 32, 33, 34, 35, 36, 37, 38, 39, 40, 41, 42, 43, 44, 45, 46, 47, 48, 49, 50, 51, 52, 53, 54, 55, 56, 57, 58, 59, 60, 61, 62, 63] (by decide +kernel) (by decide +kernel)
set_option maxRecDepth 20000 in
theorem gX11_hear_X11_isChild : GoodIn wsX11_hear (wsV RX11 117 RX11 yX11_isChild wsX11_isChild) := goodIn_app (goodIn_of _ (by decide +kernel)) ggX11_hear_X11_isChild
set_option maxRecDepth 20000 in
theorem ggX11_hear_X11_isElder : GoodIn wsX11_hear wsX11_isElder := goodIn_r _ [17] (by decide +kernel) (by decide +kernel)
set_option maxRecDepth 20000 in
theorem gX11_hear_X11_isElder : GoodIn wsX11_hear (va_wsS RX11 139 yX11_isElder wsX11_isElder) := goodIn_app (goodIn_of _ (by decide +kernel)) ggX11_hear_X11_isElder
set_option maxRecDepth 20000 in
theorem ggX11_hear_X11_isWord : GoodIn wsX11_hear wsX11_isWord := goodIn_r _ [20] (by decide +kernel) (by decide +kernel)
set_option maxRecDepth 20000 in
theorem gX11_hear_X11_isWord : GoodIn wsX11_hear (va_wsS RX11 162 yX11_isWord wsX11_isWord) := goodIn_app (goodIn_of _ (by decide +kernel)) ggX11_hear_X11_isWord
set_option maxRecDepth 20000 in
theorem ggX11_hear_X5_add : GoodIn wsX11_hear wsX5_add := goodIn_r _ [24, 8, 25, 26, 27, 64, 65, 66, 67] (by decide +kernel) (by decide +kernel)
set_option maxRecDepth 20000 in
theorem gX11_hear_X5_add : GoodIn wsX11_hear (wsV RX11 241 RX5 yX5_add wsX5_add) := goodIn_app (goodIn_of _ (by decide +kernel)) ggX11_hear_X5_add
def fX11_hear_64  (a1 : Int32) (a2 : Int32) (a3 : Int32) (y1 : Int32) (y2 : Int32) (y3 : Int32) (g : c_G) : Option (c_G × Int32) :=
  c_b2 (fX5_add g 66 y1 y2 y3) fun g64002 r64003 => some (g64002, r64003)
set_option maxRecDepth 100000 in
set_option maxHeartbeats 4000000 in
theorem jX11_hear_64 {p : Program} {l : Launch} {e : Env} {s : State} {m : MethodId} {below : List Frame} {meth : Method} {c : Code} {D : va_G} {tc : Nat → ClassId} {ad : Nat → Nat} {A : Nat → Prop} {E : (Nat → Nat) × (Nat → Nat) × Nat} {a1 : Int32} {a2 : Int32} {a3 : Int32} {g' : c_G} {r : Int32} (C : c_C p s m meth c D tc A E RX11 wsX11_hear cX11_hear 4 (some .int) ([.ref (ad 0), .int a1, .int a2, .int a3] : List Value).toArray) (hD : c_D A ad TC)  : ∀ (y1 : Int32) (y2 : Int32) (y3 : Int32) (g : c_G), fX11_hear_64 a1 a2 a3 y1 y2 y3 g = some (g', r) → ∀ (H : Heap) (locs : List Loc), va_P D vwCl (c_ws tc ad TC g) H → va_S A s.heap H locs → ∀ ls : Array Slot, lv_has ls 4 [] → W p l e (c_rm 1) s m ([.ref (ad 0), .int a1, .int a2, .int a3] : List Value).toArray below meth c H locs 0 0 (MQ below (va_Qi (fun (x : Int32) (_ : Unit) => x = r) (fun _ t => va_P D vwCl (c_ws tc ad TC g') t.heap) A) ([.ref (ad 0), .int a1, .int a2, .int a3] : List Value).toArray s 0 0 A) (F0 m 64 ls [.int y3, .int y2, .int y1, .ref (ad 66)]) := by
  obtain ⟨hx, hb, hr, hml, hts, hown, hlk, hK, hE⟩ := id C
  intro y1 y2 y3 g hf H locs hP hS ls hl
  unfold fX11_hear_64 at hf
  obtain ⟨g64002, r64003, hc64001, hf⟩ := c_b2E hf
  refine c_goi (va_runV (As := [.int y1, .int y2, .int y3]) (rest := []) ⟨hx, hb, hml, hown, hts⟩ (kX5_add hD hc64001) (cwV 3 hts gX11_hear_X5_add rfl rfl rfl (by decide +kernel) ⟨Nat.le_of_ble_eq_true rfl, Nat.le_of_ble_eq_true rfl⟩) (c_preV hK hP hE hS tC66 rfl) rfl rfl hl.1 rfl (lv_room (Nat.le_of_ble_eq_true rfl)) dX11_hear_64 ⟨Nat.zero_le _, Nat.zero_le _⟩) hS (fun H locs hP hS => ?_)
  exact c_iret hx hb hr hlk hP hS rfl (c_inj hf) dX11_hear_67
def fX11_hear_45  (a1 : Int32) (a2 : Int32) (a3 : Int32) (x1 : Int32) (x2 : Int32) (x3 : Int32) (g : c_G) : Option (c_G × Int32) :=
  if 0 ≤ x3 then (fX11_hear_64 a1 a2 a3 x1 x2 x3 g) else (fX11_hear_64 a1 a2 a3 x1 x2 ((-5 : Int32)) g)
set_option maxRecDepth 100000 in
set_option maxHeartbeats 4000000 in
theorem jX11_hear_45 {p : Program} {l : Launch} {e : Env} {s : State} {m : MethodId} {below : List Frame} {meth : Method} {c : Code} {D : va_G} {tc : Nat → ClassId} {ad : Nat → Nat} {A : Nat → Prop} {E : (Nat → Nat) × (Nat → Nat) × Nat} {a1 : Int32} {a2 : Int32} {a3 : Int32} {g' : c_G} {r : Int32} (C : c_C p s m meth c D tc A E RX11 wsX11_hear cX11_hear 4 (some .int) ([.ref (ad 0), .int a1, .int a2, .int a3] : List Value).toArray) (hD : c_D A ad TC)  : ∀ (x1 : Int32) (x2 : Int32) (x3 : Int32) (g : c_G), fX11_hear_45 a1 a2 a3 x1 x2 x3 g = some (g', r) → ∀ (H : Heap) (locs : List Loc), va_P D vwCl (c_ws tc ad TC g) H → va_S A s.heap H locs → ∀ ls : Array Slot, lv_has ls 4 [(0, .ref (ad 0)), (1, .int x1), (2, .int x2), (3, .int x3)] → W p l e (c_rm 1) s m ([.ref (ad 0), .int a1, .int a2, .int a3] : List Value).toArray below meth c H locs 0 0 (MQ below (va_Qi (fun (x : Int32) (_ : Unit) => x = r) (fun _ t => va_P D vwCl (c_ws tc ad TC g') t.heap) A) ([.ref (ad 0), .int a1, .int a2, .int a3] : List Value).toArray s 0 0 A) (F0 m 45 ls []) := by
  obtain ⟨hx, hb, hr, hml, hts, hown, hlk, hK, hE⟩ := id C
  intro x1 x2 x3 g hf H locs hP hS ls hl
  unfold fX11_hear_45 at hf
  refine lv_aload_n hx hb dX11_hear_45 rfl (lv_at hl 0 rfl) ?_
  refine c_get hx hb hts i_X11_hear_X11 hown hK hP 0 tC0 rfl 5 (by decide) (hts _ (List.mem_of_getElem? (i := 1) rfl)) (fun _ h9 => h9) rfl (v := .ref (ad 55)) rfl dX11_hear_46 ?_
  refine c_get hx hb hts i_X11_hear_X7 hown hK hP 55 tC55 rfl 13 (by decide) (hts _ (List.mem_of_getElem? (i := 2) rfl)) (fun _ h9 => h9) rfl (v := .ref (ad 66)) rfl dX11_hear_49 ?_
  refine lv_iload_n hx hb dX11_hear_52 rfl (lv_at hl 1 rfl) ?_
  refine lv_iload_n hx hb dX11_hear_53 rfl (lv_at hl 2 rfl) ?_
  refine lv_iload_n hx hb dX11_hear_54 rfl (lv_at hl 3 rfl) ?_
  refine lv_if_ge (tgt := 63) hx hb dX11_hear_55 (by decide) (fun c45001 => ?_) (fun c45001 => ?_)
  · have hf := c_it c45001 hf
    refine lv_iload_n hx hb dX11_hear_63 rfl (lv_at hl 3 rfl) ?_
    exact jX11_hear_64 C hD x1 x2 x3 g hf _ _ hP hS _ (lv_sub hl [] rfl)
  · have hf := c_ie c45001 hf
    refine lv_bipush (v := (-5 : Int32)) hx hb dX11_hear_58 (by decide) ?_
    refine lv_goto (tgt := 64) hx hb dX11_hear_60 (by decide) ?_
    exact jX11_hear_64 C hD x1 x2 ((-5 : Int32)) g hf _ _ hP hS _ (lv_sub hl [] rfl)
def fX11_hear (g : c_G) (a1 : Int32) (a2 : Int32) (a3 : Int32) : Option (c_G × Int32) :=
  if a1 = (-1 : Int32) then (c_b2 (fX5_clear g 66) fun g9 r10 => some (g9, r10)) else ((fX11_isChild g a1).bind fun r2 => if r2 = 0 then (some (g, (-1 : Int32))) else (if (fX11_isElder a2) = 0 then (some (g, (-1 : Int32))) else (if a3 = (-1 : Int32) then (fX11_hear_45 a1 a2 a3 a1 a2 a3 g) else (if (fX11_isWord a3) = 0 then (some (g, (-1 : Int32))) else (fX11_hear_45 a1 a2 a3 a1 a2 a3 g)))))
set_option maxRecDepth 100000 in
set_option maxHeartbeats 4000000 in
theorem kX11_hear {l : Launch} {D : va_G} {tc : Nat → ClassId} {ad : Nat → Nat} {A : Nat → Prop} {E : (Nat → Nat) × (Nat → Nat) × Nat} (hD : c_D A ad TC) {a1 : Int32} {a2 : Int32} {a3 : Int32} {g g' : c_G} {r : Int32} (hf : fX11_hear g a1 a2 a3 = some (g', r)) : c_Mi l yX11_hear wsX11_hear (c_rm 1) D tc ad A E TC ([.ref (ad 0), .int a1, .int a2, .int a3] : List Value) g g' r := by
  refine c_ofW (bytes := cX11_hear) (maxL := 4) (ret := (some .int)) (by decide) rfl (Nat.le_of_ble_eq_true rfl) ?_
  intro p e s m below meth c ls C hP hS hl
  unfold fX11_hear at hf
  obtain ⟨hx, hb, hr, hml, hts, hown, hlk, hK, hE⟩ := id C
  have hl : lv_has ls 4 [(0, .ref (ad 0)), (1, .int a1), (2, .int a2), (3, .int a3)] := hl
  refine lv_iload_n hx hb dX11_hear_0 rfl (lv_at hl 1 rfl) ?_
  refine lv_iconst (v := (-1 : Int32)) hx hb dX11_hear_1 (by decide) ?_
  refine lv_icmp_ne (tgt := 16) hx hb dX11_hear_2 (by decide) (fun c1 => ?_) (fun c1 => ?_)
  · have hf := c_ie c1 hf
    refine lv_aload_n hx hb dX11_hear_16 rfl (lv_at hl 0 rfl) ?_
    refine lv_iload_n hx hb dX11_hear_17 rfl (lv_at hl 1 rfl) ?_
    obtain ⟨r2, hc3, hf⟩ := c_bd hf
    refine c_goi (va_runV (As := [.int a1]) (rest := []) ⟨hx, hb, hml, hown, hts⟩ (kX11_isChild hD hc3) (cwV 1 hts gX11_hear_X11_isChild rfl rfl rfl (by decide +kernel) ⟨Nat.le_of_ble_eq_true rfl, Nat.le_of_ble_eq_true rfl⟩) (c_preV hK hP hE hS tC0 rfl) rfl rfl hl.1 rfl (lv_room (Nat.le_of_ble_eq_true rfl)) dX11_hear_18 ⟨Nat.zero_le _, Nat.zero_le _⟩) hS (fun H locs hP hS => ?_)
    refine lv_if_eq (tgt := 43) hx hb dX11_hear_21 (by decide) (fun c4 => ?_) (fun c4 => ?_)
    · have hf := c_it c4 hf
      refine lv_iconst (v := (-1 : Int32)) hx hb dX11_hear_43 (by decide) ?_
      exact c_iret hx hb hr hlk hP hS rfl (c_inj hf) dX11_hear_44
    · have hf := c_ie c4 hf
      refine lv_iload_n hx hb dX11_hear_24 rfl (lv_at hl 2 rfl) ?_
      refine c_goi (va_runS (As := [.int a2]) (rest := []) ⟨hx, hb, hml, hown, hts⟩ (kX11_isElder (T := TC) (g := g) rfl) (va_cwS 1 hts gX11_hear_X11_isElder rfl rfl rfl (by decide +kernel) ⟨Nat.le_of_ble_eq_true rfl, Nat.le_of_ble_eq_true rfl⟩) (c_preS hK hP hE hS) rfl rfl hl.1 rfl (lv_room (Nat.le_of_ble_eq_true rfl)) dX11_hear_25 ⟨Nat.zero_le _, Nat.zero_le _⟩) hS (fun H locs hP hS => ?_)
      refine lv_if_eq (tgt := 43) hx hb dX11_hear_28 (by decide) (fun c5 => ?_) (fun c5 => ?_)
      · have hf := c_it c5 hf
        refine lv_iconst (v := (-1 : Int32)) hx hb dX11_hear_43 (by decide) ?_
        exact c_iret hx hb hr hlk hP hS rfl (c_inj hf) dX11_hear_44
      · have hf := c_ie c5 hf
        refine lv_iload_n hx hb dX11_hear_31 rfl (lv_at hl 3 rfl) ?_
        refine lv_iconst (v := (-1 : Int32)) hx hb dX11_hear_32 (by decide) ?_
        refine lv_icmp_eq (tgt := 45) hx hb dX11_hear_33 (by decide) (fun c6 => ?_) (fun c6 => ?_)
        · have hf := c_it c6 hf
          exact jX11_hear_45 C hD a1 a2 a3 g hf _ _ hP hS _ (lv_sub hl [0, 1, 2, 3] rfl)
        · have hf := c_ie c6 hf
          refine lv_iload_n hx hb dX11_hear_36 rfl (lv_at hl 3 rfl) ?_
          refine c_goi (va_runS (As := [.int a3]) (rest := []) ⟨hx, hb, hml, hown, hts⟩ (kX11_isWord (T := TC) (g := g) rfl) (va_cwS 1 hts gX11_hear_X11_isWord rfl rfl rfl (by decide +kernel) ⟨Nat.le_of_ble_eq_true rfl, Nat.le_of_ble_eq_true rfl⟩) (c_preS hK hP hE hS) rfl rfl hl.1 rfl (lv_room (Nat.le_of_ble_eq_true rfl)) dX11_hear_37 ⟨Nat.zero_le _, Nat.zero_le _⟩) hS (fun H locs hP hS => ?_)
          refine lv_if_ne (tgt := 45) hx hb dX11_hear_40 (by decide) (fun c7 => ?_) (fun c7 => ?_)
          · have hf := c_ie c7 hf
            exact jX11_hear_45 C hD a1 a2 a3 g hf _ _ hP hS _ (lv_sub hl [0, 1, 2, 3] rfl)
          · have hf := c_it c7 hf
            refine lv_iconst (v := (-1 : Int32)) hx hb dX11_hear_43 (by decide) ?_
            exact c_iret hx hb hr hlk hP hS rfl (c_inj hf) dX11_hear_44
  · have hf := c_it c1 hf
    refine lv_aload_n hx hb dX11_hear_5 rfl (lv_at hl 0 rfl) ?_
    refine c_get hx hb hts i_X11_hear_X11 hown hK hP 0 tC0 rfl 5 (by decide) (hts _ (List.mem_of_getElem? (i := 1) rfl)) (fun _ h9 => h9) rfl (v := .ref (ad 55)) rfl dX11_hear_6 ?_
    refine c_get hx hb hts i_X11_hear_X7 hown hK hP 55 tC55 rfl 13 (by decide) (hts _ (List.mem_of_getElem? (i := 2) rfl)) (fun _ h9 => h9) rfl (v := .ref (ad 66)) rfl dX11_hear_9 ?_
    obtain ⟨g9, r10, hc8, hf⟩ := c_b2E hf
    refine c_goi (va_runV (As := []) (rest := []) ⟨hx, hb, hml, hown, hts⟩ (kX5_clear hD hc8) (cwV 0 hts gX11_hear_X5_clear rfl rfl rfl (by decide +kernel) ⟨Nat.le_of_ble_eq_true rfl, Nat.le_of_ble_eq_true rfl⟩) (c_preV hK hP hE hS tC66 rfl) rfl rfl hl.1 rfl (lv_room (Nat.le_of_ble_eq_true rfl)) dX11_hear_12 ⟨Nat.zero_le _, Nat.zero_le _⟩) hS (fun H locs hP hS => ?_)
    exact c_iret hx hb hr hlk hP hS rfl (c_inj hf) dX11_hear_15
theorem i_X11_heardIsSo_X5 : ∀ w ∈ u_ws RX5 TX5 4, w ∈ wsX11_heardIsSo := c_inP [129, 130, 131, 132] (by decide +kernel)
theorem i_X11_heardIsSo_X7 : ∀ w ∈ u_ws RX7 TX7 17, w ∈ wsX11_heardIsSo := c_inP [112, 113, 114, 115, 116, 117, 118, 119, 120, 121, 122, 123, 124, 125, 126, 127, 128] (by decide +kernel)
theorem i_X11_heardIsSo_X11 : ∀ w ∈ u_ws RX11 TX11 19, w ∈ wsX11_heardIsSo := c_inP [93, 94, 95, 96, 97, 98, 99, 100, 101, 102, 103, 104, 105, 106, 107, 108, 109, 110, 111] (by decide +kernel)
theorem dX11_heardIsSo_0 : decode cX11_heardIsSo 0 = .ok (.iconst 0, 1) := by decide +kernel
theorem dX11_heardIsSo_1 : decode cX11_heardIsSo 1 = .ok (.istore_n 3, 1) := by decide +kernel
theorem dX11_heardIsSo_2 : decode cX11_heardIsSo 2 = .ok (.iload_n 3, 1) := by decide +kernel
theorem dX11_heardIsSo_3 : decode cX11_heardIsSo 3 = .ok (.aload_n 0, 1) := by decide +kernel
theorem dX11_heardIsSo_4 : decode cX11_heardIsSo 4 = .ok (.getfield 86, 3) := by decide +kernel
theorem dX11_heardIsSo_7 : decode cX11_heardIsSo 7 = .ok (.getfield 232, 3) := by decide +kernel
theorem dX11_heardIsSo_10 : decode cX11_heardIsSo 10 = .ok (.getfield 266, 3) := by decide +kernel
theorem dX11_heardIsSo_13 : decode cX11_heardIsSo 13 = .ok (.if_icmp .ge 80, 3) := by decide +kernel
theorem dX11_heardIsSo_16 : decode cX11_heardIsSo 16 = .ok (.aload_n 0, 1) := by decide +kernel
theorem dX11_heardIsSo_17 : decode cX11_heardIsSo 17 = .ok (.getfield 86, 3) := by decide +kernel
theorem dX11_heardIsSo_20 : decode cX11_heardIsSo 20 = .ok (.getfield 232, 3) := by decide +kernel
theorem dX11_heardIsSo_23 : decode cX11_heardIsSo 23 = .ok (.getfield 272, 3) := by decide +kernel
theorem dX11_heardIsSo_26 : decode cX11_heardIsSo 26 = .ok (.iload_n 3, 1) := by decide +kernel
theorem dX11_heardIsSo_27 : decode cX11_heardIsSo 27 = .ok (.iaload, 1) := by decide +kernel
theorem dX11_heardIsSo_28 : decode cX11_heardIsSo 28 = .ok (.iload_n 1, 1) := by decide +kernel
theorem dX11_heardIsSo_29 : decode cX11_heardIsSo 29 = .ok (.if_icmp .eq 6, 3) := by decide +kernel
theorem dX11_heardIsSo_32 : decode cX11_heardIsSo 32 = .ok (.goto 55, 3) := by decide +kernel
theorem dX11_heardIsSo_35 : decode cX11_heardIsSo 35 = .ok (.aload_n 0, 1) := by decide +kernel
theorem dX11_heardIsSo_36 : decode cX11_heardIsSo 36 = .ok (.aload_n 0, 1) := by decide +kernel
theorem dX11_heardIsSo_37 : decode cX11_heardIsSo 37 = .ok (.getfield 86, 3) := by decide +kernel
theorem dX11_heardIsSo_40 : decode cX11_heardIsSo 40 = .ok (.iload_n 1, 1) := by decide +kernel
theorem dX11_heardIsSo_41 : decode cX11_heardIsSo 41 = .ok (.iload_n 2, 1) := by decide +kernel
theorem dX11_heardIsSo_42 : decode cX11_heardIsSo 42 = .ok (.aload_n 0, 1) := by decide +kernel
theorem dX11_heardIsSo_43 : decode cX11_heardIsSo 43 = .ok (.getfield 86, 3) := by decide +kernel
theorem dX11_heardIsSo_46 : decode cX11_heardIsSo 46 = .ok (.getfield 126, 3) := by decide +kernel
theorem dX11_heardIsSo_49 : decode cX11_heardIsSo 49 = .ok (.iload_n 1, 1) := by decide +kernel
theorem dX11_heardIsSo_50 : decode cX11_heardIsSo 50 = .ok (.iaload, 1) := by decide +kernel
theorem dX11_heardIsSo_51 : decode cX11_heardIsSo 51 = .ok (.aload_n 0, 1) := by decide +kernel
theorem dX11_heardIsSo_52 : decode cX11_heardIsSo 52 = .ok (.getfield 86, 3) := by decide +kernel
theorem dX11_heardIsSo_55 : decode cX11_heardIsSo 55 = .ok (.getfield 232, 3) := by decide +kernel
theorem dX11_heardIsSo_58 : decode cX11_heardIsSo 58 = .ok (.getfield 269, 3) := by decide +kernel
theorem dX11_heardIsSo_61 : decode cX11_heardIsSo 61 = .ok (.iload_n 3, 1) := by decide +kernel
theorem dX11_heardIsSo_62 : decode cX11_heardIsSo 62 = .ok (.iaload, 1) := by decide +kernel
theorem dX11_heardIsSo_63 : decode cX11_heardIsSo 63 = .ok (.invokevirtual 228, 3) := by decide +kernel
theorem dX11_heardIsSo_66 : decode cX11_heardIsSo 66 = .ok (.istore 4, 2) := by decide +kernel
theorem dX11_heardIsSo_68 : decode cX11_heardIsSo 68 = .ok (.iload 4, 2) := by decide +kernel
theorem dX11_heardIsSo_70 : decode cX11_heardIsSo 70 = .ok (.aload_n 0, 1) := by decide +kernel
theorem dX11_heardIsSo_71 : decode cX11_heardIsSo 71 = .ok (.getfield 86, 3) := by decide +kernel
theorem dX11_heardIsSo_74 : decode cX11_heardIsSo 74 = .ok (.getfield 232, 3) := by decide +kernel
theorem dX11_heardIsSo_77 : decode cX11_heardIsSo 77 = .ok (.getfield 347, 3) := by decide +kernel
theorem dX11_heardIsSo_80 : decode cX11_heardIsSo 80 = .ok (.iload_n 3, 1) := by decide +kernel
theorem dX11_heardIsSo_81 : decode cX11_heardIsSo 81 = .ok (.iaload, 1) := by decide +kernel
theorem dX11_heardIsSo_82 : decode cX11_heardIsSo 82 = .ok (.if_icmp .eq 5, 3) := by decide +kernel
theorem dX11_heardIsSo_85 : decode cX11_heardIsSo 85 = .ok (.iconst 0, 1) := by decide +kernel
theorem dX11_heardIsSo_86 : decode cX11_heardIsSo 86 = .ok (.ireturn, 1) := by decide +kernel
theorem dX11_heardIsSo_87 : decode cX11_heardIsSo 87 = .ok (.iinc 3 1, 3) := by decide +kernel
theorem dX11_heardIsSo_90 : decode cX11_heardIsSo 90 = .ok (.goto (-88), 3) := by decide +kernel
theorem dX11_heardIsSo_93 : decode cX11_heardIsSo 93 = .ok (.iconst 1, 1) := by decide +kernel
theorem dX11_heardIsSo_94 : decode cX11_heardIsSo 94 = .ok (.ireturn, 1) := by decide +kernel
set_option maxRecDepth 20000 in
theorem ggX11_heardIsSo_X11_says : GoodIn wsX11_heardIsSo wsX11_says := goodIn_r _ [12, 13, 14, 15, 16, 17, 18, 19, 20, 21, 22, 23, 11, 24, 25, 26, 27, 28, 29, 30, 31, 32, 33, 34, 35, 36, 37, 38, 39, 40, 41, 42, 43, 44, 45, 46, 47, 48, 49, 50, 51, 52, 53, 54, 55, 56, 57, 58, 59, 60, 61, 62, 63, 64, 65, 66, 67, 68, 69, 70, 71, 72, 73, 74, 75, 76, 77, 78, 79, 80, 81, 82, 83, 84, 85, 86, 87, 88, 89, 90, 91, 92, 93, 94, 95, 96, 97, 98, 99, 100, 101, 102, 103, 104, 105, 106, 107, 108, 109, 110, 111, 112, 113, 114, 115, 116, 117, 118, 119, 120, 121, 122, 123, 124, 125, 126, 127, 128, 133, 134, 135, 136, 137, 138, 139, 140] (by decide +kernel) (by decide +kernel)
set_option maxRecDepth 20000 in
theorem gX11_heardIsSo_X11_says : GoodIn wsX11_heardIsSo (wsV RX11 228 RX11 yX11_says wsX11_says) := goodIn_app (goodIn_of _ (by decide +kernel)) ggX11_heardIsSo_X11_says
def fX11_heardIsSo_87 (rec2 : Int32 → Int32 → Int32 → c_G → Option (c_G × Int32)) (a1 : Int32) (a2 : Int32) (x1 : Int32) (x2 : Int32) (x3 : Int32) (g : c_G) : Option (c_G × Int32) :=
  c_let (x3 + (1 : Int32)) fun v87001 => rec2 x1 x2 v87001 g
set_option maxRecDepth 100000 in
set_option maxHeartbeats 4000000 in
theorem jX11_heardIsSo_87 {p : Program} {l : Launch} {e : Env} {s : State} {m : MethodId} {below : List Frame} {meth : Method} {c : Code} {D : va_G} {tc : Nat → ClassId} {ad : Nat → Nat} {A : Nat → Prop} {E : (Nat → Nat) × (Nat → Nat) × Nat} {a1 : Int32} {a2 : Int32} {g' : c_G} {r : Int32} (C : c_C p s m meth c D tc A E RX11 wsX11_heardIsSo cX11_heardIsSo 5 (some .boolean) ([.ref (ad 0), .int a1, .int a2] : List Value).toArray) (hD : c_D A ad TC) {rec2 : Int32 → Int32 → Int32 → c_G → Option (c_G × Int32)} (hrec2 : ∀ (x1 : Int32) (x2 : Int32) (x3 : Int32) (g : c_G), rec2 x1 x2 x3 g = some (g', r) → ∀ (H : Heap) (locs : List Loc), va_P D vwCl (c_ws tc ad TC g) H → va_S A s.heap H locs → ∀ ls : Array Slot, lv_has ls 5 [(0, .ref (ad 0)), (1, .int x1), (2, .int x2), (3, .int x3)] → W p l e (c_rm 4) s m ([.ref (ad 0), .int a1, .int a2] : List Value).toArray below meth c H locs 0 0 (MQ below (va_Qi (fun (x : Int32) (_ : Unit) => x = r) (fun _ t => va_P D vwCl (c_ws tc ad TC g') t.heap) A) ([.ref (ad 0), .int a1, .int a2] : List Value).toArray s 0 0 A) (F0 m 2 ls [])) : ∀ (x1 : Int32) (x2 : Int32) (x3 : Int32) (g : c_G), fX11_heardIsSo_87 rec2 a1 a2 x1 x2 x3 g = some (g', r) → ∀ (H : Heap) (locs : List Loc), va_P D vwCl (c_ws tc ad TC g) H → va_S A s.heap H locs → ∀ ls : Array Slot, lv_has ls 5 [(0, .ref (ad 0)), (1, .int x1), (2, .int x2), (3, .int x3)] → W p l e (c_rm 4) s m ([.ref (ad 0), .int a1, .int a2] : List Value).toArray below meth c H locs 0 0 (MQ below (va_Qi (fun (x : Int32) (_ : Unit) => x = r) (fun _ t => va_P D vwCl (c_ws tc ad TC g') t.heap) A) ([.ref (ad 0), .int a1, .int a2] : List Value).toArray s 0 0 A) (F0 m 87 ls []) := by
  obtain ⟨hx, hb, hr, hml, hts, hown, hlk, hK, hE⟩ := id C
  intro x1 x2 x3 g hf H locs hP hS ls hl
  unfold fX11_heardIsSo_87 at hf
  obtain ⟨v87001, ev87001, hf⟩ := c_letE hf
  refine lv_iinc (v := v87001) (lv' := [(3, .int v87001), (0, .ref (ad 0)), (1, .int x1), (2, .int x2)]) hx hb dX11_heardIsSo_87 hl (k := 3) rfl (by rw [ev87001]; rfl) (by decide) rfl (fun ls hl => ?_)
  refine lv_goto (tgt := 2) hx hb dX11_heardIsSo_90 (by decide) ?_
  exact hrec2 x1 x2 v87001 g hf _ _ hP hS _ (lv_sub hl [1, 2, 3, 0] rfl)
def fX11_heardIsSo_2  (a1 : Int32) (a2 : Int32) : Nat → Int32 → Int32 → Int32 → c_G → Option (c_G × Int32)
  | 0, _, _, _, _ => none
  | n + 1, x1, x2, x3, g => if (g.1 66 3) ≤ x3 then (some (g, (1 : Int32))) else (if c_in (x3) (5) = true then if (g.1 67 (x3).toNatClampNeg) = x1 then (if c_in (x1) (6) = true then c_b2 (fX11_says g 55 x1 x2 ((g.1 62 (x1).toNatClampNeg)) ((g.1 68 (x3).toNatClampNeg))) fun g2006 r2007 => if r2007 = (g2006.1 69 (x3).toNatClampNeg) then (fX11_heardIsSo_87 (fX11_heardIsSo_2 a1 a2 n) a1 a2 x1 x2 x3 g2006) else (some (g2006, (0 : Int32))) else none) else (fX11_heardIsSo_87 (fX11_heardIsSo_2 a1 a2 n) a1 a2 x1 x2 x3 g) else none)
set_option maxRecDepth 100000 in
set_option maxHeartbeats 4000000 in
theorem jX11_heardIsSo_2 {p : Program} {l : Launch} {e : Env} {s : State} {m : MethodId} {below : List Frame} {meth : Method} {c : Code} {D : va_G} {tc : Nat → ClassId} {ad : Nat → Nat} {A : Nat → Prop} {E : (Nat → Nat) × (Nat → Nat) × Nat} {a1 : Int32} {a2 : Int32} {g' : c_G} {r : Int32} (C : c_C p s m meth c D tc A E RX11 wsX11_heardIsSo cX11_heardIsSo 5 (some .boolean) ([.ref (ad 0), .int a1, .int a2] : List Value).toArray) (hD : c_D A ad TC)  : ∀ (n : Nat) (x1 : Int32) (x2 : Int32) (x3 : Int32) (g : c_G), fX11_heardIsSo_2 a1 a2 n x1 x2 x3 g = some (g', r) → ∀ (H : Heap) (locs : List Loc), va_P D vwCl (c_ws tc ad TC g) H → va_S A s.heap H locs → ∀ ls : Array Slot, lv_has ls 5 [(0, .ref (ad 0)), (1, .int x1), (2, .int x2), (3, .int x3)] → W p l e (c_rm 4) s m ([.ref (ad 0), .int a1, .int a2] : List Value).toArray below meth c H locs 0 0 (MQ below (va_Qi (fun (x : Int32) (_ : Unit) => x = r) (fun _ t => va_P D vwCl (c_ws tc ad TC g') t.heap) A) ([.ref (ad 0), .int a1, .int a2] : List Value).toArray s 0 0 A) (F0 m 2 ls []) := by
  obtain ⟨hx, hb, hr, hml, hts, hown, hlk, hK, hE⟩ := id C
  intro n
  induction n with
  | zero =>
    intro x1 x2 x3 g hf
    cases hf
  | succ n ih =>
    intro x1 x2 x3 g hf H locs hP hS ls hl
    unfold fX11_heardIsSo_2 at hf
    refine lv_iload_n hx hb dX11_heardIsSo_2 rfl (lv_at hl 3 rfl) ?_
    refine lv_aload_n hx hb dX11_heardIsSo_3 rfl (lv_at hl 0 rfl) ?_
    refine c_get hx hb hts i_X11_heardIsSo_X11 hown hK hP 0 tC0 rfl 5 (by decide) (hts _ (List.mem_of_getElem? (i := 1) rfl)) (fun _ h9 => h9) rfl (v := .ref (ad 55)) rfl dX11_heardIsSo_4 ?_
    refine c_get hx hb hts i_X11_heardIsSo_X7 hown hK hP 55 tC55 rfl 13 (by decide) (hts _ (List.mem_of_getElem? (i := 2) rfl)) (fun _ h9 => h9) rfl (v := .ref (ad 66)) rfl dX11_heardIsSo_7 ?_
    refine c_get hx hb hts i_X11_heardIsSo_X5 hown hK hP 66 tC66 rfl 3 (by decide) (hts _ (List.mem_of_getElem? (i := 3) rfl)) (fun _ h9 => h9) rfl (v := .int (g.1 66 3)) rfl dX11_heardIsSo_10 ?_
    refine lv_icmp_ge (tgt := 93) hx hb dX11_heardIsSo_13 (by decide) (fun c2001 => ?_) (fun c2001 => ?_)
    · have hf := c_it c2001 hf
      refine lv_iconst (v := (1 : Int32)) hx hb dX11_heardIsSo_93 (by decide) ?_
      exact c_iret hx hb hr hlk hP hS rfl (c_inj hf) dX11_heardIsSo_94
    · have hf := c_ie c2001 hf
      refine lv_aload_n hx hb dX11_heardIsSo_16 rfl (lv_at hl 0 rfl) ?_
      refine c_get hx hb hts i_X11_heardIsSo_X11 hown hK hP 0 tC0 rfl 5 (by decide) (hts _ (List.mem_of_getElem? (i := 1) rfl)) (fun _ h9 => h9) rfl (v := .ref (ad 55)) rfl dX11_heardIsSo_17 ?_
      refine c_get hx hb hts i_X11_heardIsSo_X7 hown hK hP 55 tC55 rfl 13 (by decide) (hts _ (List.mem_of_getElem? (i := 2) rfl)) (fun _ h9 => h9) rfl (v := .ref (ad 66)) rfl dX11_heardIsSo_20 ?_
      refine c_get hx hb hts i_X11_heardIsSo_X5 hown hK hP 66 tC66 rfl 0 (by decide) (hts _ (List.mem_of_getElem? (i := 4) rfl)) (fun _ h9 => h9) rfl (v := .ref (ad 67)) rfl dX11_heardIsSo_23 ?_
      refine lv_iload_n hx hb dX11_heardIsSo_26 rfl (lv_at hl 3 rfl) ?_
      obtain ⟨hi2002, hf⟩ := c_gd hf
      refine c_iald (j := (x3).toNatClampNeg) hx hb hK hP 67 tC67 rfl (c_inV hi2002) dX11_heardIsSo_27 ?_
      refine lv_iload_n hx hb dX11_heardIsSo_28 rfl (lv_at hl 1 rfl) ?_
      refine lv_icmp_eq (tgt := 35) hx hb dX11_heardIsSo_29 (by decide) (fun c2003 => ?_) (fun c2003 => ?_)
      · have hf := c_it c2003 hf
        refine lv_aload_n hx hb dX11_heardIsSo_35 rfl (lv_at hl 0 rfl) ?_
        refine lv_aload_n hx hb dX11_heardIsSo_36 rfl (lv_at hl 0 rfl) ?_
        refine c_get hx hb hts i_X11_heardIsSo_X11 hown hK hP 0 tC0 rfl 5 (by decide) (hts _ (List.mem_of_getElem? (i := 1) rfl)) (fun _ h9 => h9) rfl (v := .ref (ad 55)) rfl dX11_heardIsSo_37 ?_
        refine lv_iload_n hx hb dX11_heardIsSo_40 rfl (lv_at hl 1 rfl) ?_
        refine lv_iload_n hx hb dX11_heardIsSo_41 rfl (lv_at hl 2 rfl) ?_
        refine lv_aload_n hx hb dX11_heardIsSo_42 rfl (lv_at hl 0 rfl) ?_
        refine c_get hx hb hts i_X11_heardIsSo_X11 hown hK hP 0 tC0 rfl 5 (by decide) (hts _ (List.mem_of_getElem? (i := 1) rfl)) (fun _ h9 => h9) rfl (v := .ref (ad 55)) rfl dX11_heardIsSo_43 ?_
        refine c_get hx hb hts i_X11_heardIsSo_X7 hown hK hP 55 tC55 rfl 9 (by decide) (hts _ (List.mem_of_getElem? (i := 5) rfl)) (fun _ h9 => h9) rfl (v := .ref (ad 62)) rfl dX11_heardIsSo_46 ?_
        refine lv_iload_n hx hb dX11_heardIsSo_49 rfl (lv_at hl 1 rfl) ?_
        obtain ⟨hi2004, hf⟩ := c_gd hf
        refine c_iald (j := (x1).toNatClampNeg) hx hb hK hP 62 tC62 rfl (c_inV hi2004) dX11_heardIsSo_50 ?_
        refine lv_aload_n hx hb dX11_heardIsSo_51 rfl (lv_at hl 0 rfl) ?_
        refine c_get hx hb hts i_X11_heardIsSo_X11 hown hK hP 0 tC0 rfl 5 (by decide) (hts _ (List.mem_of_getElem? (i := 1) rfl)) (fun _ h9 => h9) rfl (v := .ref (ad 55)) rfl dX11_heardIsSo_52 ?_
        refine c_get hx hb hts i_X11_heardIsSo_X7 hown hK hP 55 tC55 rfl 13 (by decide) (hts _ (List.mem_of_getElem? (i := 2) rfl)) (fun _ h9 => h9) rfl (v := .ref (ad 66)) rfl dX11_heardIsSo_55 ?_
        refine c_get hx hb hts i_X11_heardIsSo_X5 hown hK hP 66 tC66 rfl 1 (by decide) (hts _ (List.mem_of_getElem? (i := 6) rfl)) (fun _ h9 => h9) rfl (v := .ref (ad 68)) rfl dX11_heardIsSo_58 ?_
        refine lv_iload_n hx hb dX11_heardIsSo_61 rfl (lv_at hl 3 rfl) ?_
        refine c_iald (j := (x3).toNatClampNeg) hx hb hK hP 68 tC68 rfl (c_inV hi2002) dX11_heardIsSo_62 ?_
        obtain ⟨g2006, r2007, hc2005, hf⟩ := c_b2E hf
        refine c_goi (va_runV (As := [.ref (ad 55), .int x1, .int x2, .int (g.1 62 (x1).toNatClampNeg), .int (g.1 68 (x3).toNatClampNeg)]) (rest := []) ⟨hx, hb, hml, hown, hts⟩ (kX11_says hD hc2005) (cwV 5 hts gX11_heardIsSo_X11_says rfl rfl rfl (by decide +kernel) ⟨Nat.le_of_ble_eq_true rfl, Nat.le_of_ble_eq_true rfl⟩) (c_preV hK hP hE hS tC0 rfl) rfl rfl hl.1 rfl (lv_room (Nat.le_of_ble_eq_true rfl)) dX11_heardIsSo_63 ⟨Nat.zero_le _, Nat.zero_le _⟩) hS (fun H locs hP hS => ?_)
        refine lv_istore (lv' := [(4, .int r2007), (0, .ref (ad 0)), (1, .int x1), (2, .int x2), (3, .int x3)]) hx hb dX11_heardIsSo_66 hl (by decide) rfl (fun ls hl => ?_)
        refine lv_iload hx hb dX11_heardIsSo_68 (lv_at hl 0 rfl) ?_
        refine lv_aload_n hx hb dX11_heardIsSo_70 rfl (lv_at hl 1 rfl) ?_
        refine c_get hx hb hts i_X11_heardIsSo_X11 hown hK hP 0 tC0 rfl 5 (by decide) (hts _ (List.mem_of_getElem? (i := 1) rfl)) (fun _ h9 => h9) rfl (v := .ref (ad 55)) rfl dX11_heardIsSo_71 ?_
        refine c_get hx hb hts i_X11_heardIsSo_X7 hown hK hP 55 tC55 rfl 13 (by decide) (hts _ (List.mem_of_getElem? (i := 2) rfl)) (fun _ h9 => h9) rfl (v := .ref (ad 66)) rfl dX11_heardIsSo_74 ?_
        refine c_get hx hb hts i_X11_heardIsSo_X5 hown hK hP 66 tC66 rfl 2 (by decide) (hts _ (List.mem_of_getElem? (i := 7) rfl)) (fun _ h9 => h9) rfl (v := .ref (ad 69)) rfl dX11_heardIsSo_77 ?_
        refine lv_iload_n hx hb dX11_heardIsSo_80 rfl (lv_at hl 4 rfl) ?_
        refine c_iald (j := (x3).toNatClampNeg) hx hb hK hP 69 tC69 rfl (c_inV hi2002) dX11_heardIsSo_81 ?_
        refine lv_icmp_eq (tgt := 87) hx hb dX11_heardIsSo_82 (by decide) (fun c2008 => ?_) (fun c2008 => ?_)
        · have hf := c_it c2008 hf
          exact jX11_heardIsSo_87 C hD ih x1 x2 x3 g2006 hf _ _ hP hS _ (lv_sub hl [1, 2, 3, 4] rfl)
        · have hf := c_ie c2008 hf
          refine lv_iconst (v := (0 : Int32)) hx hb dX11_heardIsSo_85 (by decide) ?_
          exact c_iret hx hb hr hlk hP hS rfl (c_inj hf) dX11_heardIsSo_86
      · have hf := c_ie c2003 hf
        refine lv_goto (tgt := 87) hx hb dX11_heardIsSo_32 (by decide) ?_
        exact jX11_heardIsSo_87 C hD ih x1 x2 x3 g hf _ _ hP hS _ (lv_sub hl [0, 1, 2, 3] rfl)
def fX11_heardIsSo (g : c_G) (a1 : Int32) (a2 : Int32) : Option (c_G × Int32) :=
  fX11_heardIsSo_2 a1 a2 c_F a1 a2 ((0 : Int32)) g
set_option maxRecDepth 100000 in
set_option maxHeartbeats 4000000 in
theorem kX11_heardIsSo {l : Launch} {D : va_G} {tc : Nat → ClassId} {ad : Nat → Nat} {A : Nat → Prop} {E : (Nat → Nat) × (Nat → Nat) × Nat} (hD : c_D A ad TC) {a1 : Int32} {a2 : Int32} {g g' : c_G} {r : Int32} (hf : fX11_heardIsSo g a1 a2 = some (g', r)) : c_Mi l yX11_heardIsSo wsX11_heardIsSo (c_rm 4) D tc ad A E TC ([.ref (ad 0), .int a1, .int a2] : List Value) g g' r := by
  refine c_ofW (bytes := cX11_heardIsSo) (maxL := 5) (ret := (some .boolean)) (by decide) rfl (Nat.le_of_ble_eq_true rfl) ?_
  intro p e s m below meth c ls C hP hS hl
  unfold fX11_heardIsSo at hf
  obtain ⟨hx, hb, hr, hml, hts, hown, hlk, hK, hE⟩ := id C
  have hl : lv_has ls 5 [(0, .ref (ad 0)), (1, .int a1), (2, .int a2)] := hl
  refine lv_iconst (v := (0 : Int32)) hx hb dX11_heardIsSo_0 (by decide) ?_
  refine lv_istore_n (lv' := [(3, .int (0 : Int32)), (0, .ref (ad 0)), (1, .int a1), (2, .int a2)]) hx hb dX11_heardIsSo_1 rfl hl (by decide) rfl (fun ls hl => ?_)
  exact jX11_heardIsSo_2 C hD c_F a1 a2 ((0 : Int32)) g hf _ _ hP hS _ (lv_sub hl [1, 2, 3, 0] rfl)
theorem dX11_can_0 : decode cX11_can 0 = .ok (.aload_n 0, 1) := by decide +kernel
theorem dX11_can_1 : decode cX11_can 1 = .ok (.iload_n 1, 1) := by decide +kernel
theorem dX11_can_2 : decode cX11_can 2 = .ok (.invokevirtual 117, 3) := by decide +kernel
theorem dX11_can_5 : decode cX11_can 5 = .ok (.ifCond .eq 12, 3) := by decide +kernel
theorem dX11_can_8 : decode cX11_can 8 = .ok (.iload_n 2, 1) := by decide +kernel
theorem dX11_can_9 : decode cX11_can 9 = .ok (.ifCond .lt 8, 3) := by decide +kernel
theorem dX11_can_12 : decode cX11_can 12 = .ok (.iload_n 2, 1) := by decide +kernel
theorem dX11_can_13 : decode cX11_can 13 = .ok (.iconst 1, 1) := by decide +kernel
theorem dX11_can_14 : decode cX11_can 14 = .ok (.if_icmp .le 5, 3) := by decide +kernel
theorem dX11_can_17 : decode cX11_can 17 = .ok (.iconst (-1), 1) := by decide +kernel
theorem dX11_can_18 : decode cX11_can 18 = .ok (.ireturn, 1) := by decide +kernel
theorem dX11_can_19 : decode cX11_can 19 = .ok (.iconst 0, 1) := by decide +kernel
theorem dX11_can_20 : decode cX11_can 20 = .ok (.istore_n 3, 1) := by decide +kernel
theorem dX11_can_21 : decode cX11_can 21 = .ok (.bipush (-5), 2) := by decide +kernel
theorem dX11_can_23 : decode cX11_can 23 = .ok (.istore 4, 2) := by decide +kernel
theorem dX11_can_25 : decode cX11_can 25 = .ok (.bipush 9, 2) := by decide +kernel
theorem dX11_can_27 : decode cX11_can 27 = .ok (.istore 5, 2) := by decide +kernel
theorem dX11_can_29 : decode cX11_can 29 = .ok (.iload 5, 2) := by decide +kernel
theorem dX11_can_31 : decode cX11_can 31 = .ok (.ifCond .lt 26, 3) := by decide +kernel
theorem dX11_can_34 : decode cX11_can 34 = .ok (.aload_n 0, 1) := by decide +kernel
theorem dX11_can_35 : decode cX11_can 35 = .ok (.iload_n 1, 1) := by decide +kernel
theorem dX11_can_36 : decode cX11_can 36 = .ok (.iload 5, 2) := by decide +kernel
theorem dX11_can_38 : decode cX11_can 38 = .ok (.invokevirtual 244, 3) := by decide +kernel
theorem dX11_can_41 : decode cX11_can 41 = .ok (.ifCond .eq 10, 3) := by decide +kernel
theorem dX11_can_44 : decode cX11_can 44 = .ok (.iinc 3 1, 3) := by decide +kernel
theorem dX11_can_47 : decode cX11_can 47 = .ok (.iload 5, 2) := by decide +kernel
theorem dX11_can_49 : decode cX11_can 49 = .ok (.istore 4, 2) := by decide +kernel
theorem dX11_can_51 : decode cX11_can 51 = .ok (.iinc 5 (-1), 3) := by decide +kernel
theorem dX11_can_54 : decode cX11_can 54 = .ok (.goto (-25), 3) := by decide +kernel
theorem dX11_can_57 : decode cX11_can 57 = .ok (.iload_n 2, 1) := by decide +kernel
theorem dX11_can_58 : decode cX11_can 58 = .ok (.ifCond .ne 7, 3) := by decide +kernel
theorem dX11_can_61 : decode cX11_can 61 = .ok (.iload_n 3, 1) := by decide +kernel
theorem dX11_can_62 : decode cX11_can 62 = .ok (.goto 5, 3) := by decide +kernel
theorem dX11_can_65 : decode cX11_can 65 = .ok (.iload 4, 2) := by decide +kernel
theorem dX11_can_67 : decode cX11_can 67 = .ok (.ireturn, 1) := by decide +kernel
set_option maxRecDepth 20000 in
theorem ggX11_can_X11_isChild : GoodIn wsX11_can wsX11_isChild := goodIn_r _ [5, 6, 7, 102, 103, 104, 105, 106, 107, 108, 109, 110, 111, 112, 113, 114, 115, 116, 117, 118, 119, 120, 121, 122, 123, 124, 125, 126, 127, 128, 129, 130, 131, 132, 133, 134, 135, 136, 137] (by decide +kernel) (by decide +kernel)
set_option maxRecDepth 20000 in
theorem gX11_can_X11_isChild : GoodIn wsX11_can (wsV RX11 117 RX11 yX11_isChild wsX11_isChild) := goodIn_app (goodIn_of _ (by decide +kernel)) ggX11_can_X11_isChild
set_option maxRecDepth 20000 in
theorem ggX11_can_X11_heardIsSo : GoodIn wsX11_can wsX11_heardIsSo := goodIn_r _ [11, 6, 12, 13, 14, 15, 16, 17, 18, 19, 20, 4, 21, 22, 23, 24, 25, 26, 27, 28, 29, 30, 31, 32, 33, 34, 35, 36, 37, 38, 39, 40, 41, 42, 43, 44, 45, 46, 47, 48, 49, 50, 51, 52, 53, 54, 55, 56, 57, 58, 59, 60, 61, 62, 63, 64, 65, 66, 67, 68, 69, 70, 71, 72, 73, 74, 75, 76, 77, 78, 79, 80, 81, 82, 83, 84, 85, 86, 87, 88, 89, 90, 91, 92, 93, 94, 95, 96, 97, 98, 99, 100, 101, 102, 103, 104, 105, 106, 107, 108, 109, 110, 111, 112, 113, 114, 115, 116, 117, 118, 119, 120, 121, 122, 123, 124, 125, 126, 127, 128, 129, 130, 131, 132, 133, 134, 135, 136, 137, 138, 139, 140, 141, 142, 143, 144, 145, 146, 147, 148, 149] (by decide +kernel) (by decide +kernel)
set_option maxRecDepth 20000 in
theorem gX11_can_X11_heardIsSo : GoodIn wsX11_can (wsV RX11 244 RX11 yX11_heardIsSo wsX11_heardIsSo) := goodIn_app (goodIn_of _ (by decide +kernel)) ggX11_can_X11_heardIsSo
def fX11_can_51 (rec29 : Int32 → Int32 → Int32 → Int32 → Int32 → c_G → Option (c_G × Int32)) (a1 : Int32) (a2 : Int32) (x1 : Int32) (x2 : Int32) (x3 : Int32) (x4 : Int32) (x5 : Int32) (g : c_G) : Option (c_G × Int32) :=
  c_let (x5 + (-1 : Int32)) fun v51001 => rec29 x1 x2 x3 x4 v51001 g
set_option maxRecDepth 100000 in
set_option maxHeartbeats 4000000 in
theorem jX11_can_51 {p : Program} {l : Launch} {e : Env} {s : State} {m : MethodId} {below : List Frame} {meth : Method} {c : Code} {D : va_G} {tc : Nat → ClassId} {ad : Nat → Nat} {A : Nat → Prop} {E : (Nat → Nat) × (Nat → Nat) × Nat} {a1 : Int32} {a2 : Int32} {g' : c_G} {r : Int32} (C : c_C p s m meth c D tc A E RX11 wsX11_can cX11_can 6 (some .int) ([.ref (ad 0), .int a1, .int a2] : List Value).toArray) (hD : c_D A ad TC) {rec29 : Int32 → Int32 → Int32 → Int32 → Int32 → c_G → Option (c_G × Int32)} (hrec29 : ∀ (x1 : Int32) (x2 : Int32) (x3 : Int32) (x4 : Int32) (x5 : Int32) (g : c_G), rec29 x1 x2 x3 x4 x5 g = some (g', r) → ∀ (H : Heap) (locs : List Loc), va_P D vwCl (c_ws tc ad TC g) H → va_S A s.heap H locs → ∀ ls : Array Slot, lv_has ls 6 [(0, .ref (ad 0)), (1, .int x1), (2, .int x2), (3, .int x3), (4, .int x4), (5, .int x5)] → W p l e (c_rm 5) s m ([.ref (ad 0), .int a1, .int a2] : List Value).toArray below meth c H locs 0 0 (MQ below (va_Qi (fun (x : Int32) (_ : Unit) => x = r) (fun _ t => va_P D vwCl (c_ws tc ad TC g') t.heap) A) ([.ref (ad 0), .int a1, .int a2] : List Value).toArray s 0 0 A) (F0 m 29 ls [])) : ∀ (x1 : Int32) (x2 : Int32) (x3 : Int32) (x4 : Int32) (x5 : Int32) (g : c_G), fX11_can_51 rec29 a1 a2 x1 x2 x3 x4 x5 g = some (g', r) → ∀ (H : Heap) (locs : List Loc), va_P D vwCl (c_ws tc ad TC g) H → va_S A s.heap H locs → ∀ ls : Array Slot, lv_has ls 6 [(0, .ref (ad 0)), (1, .int x1), (2, .int x2), (3, .int x3), (4, .int x4), (5, .int x5)] → W p l e (c_rm 5) s m ([.ref (ad 0), .int a1, .int a2] : List Value).toArray below meth c H locs 0 0 (MQ below (va_Qi (fun (x : Int32) (_ : Unit) => x = r) (fun _ t => va_P D vwCl (c_ws tc ad TC g') t.heap) A) ([.ref (ad 0), .int a1, .int a2] : List Value).toArray s 0 0 A) (F0 m 51 ls []) := by
  obtain ⟨hx, hb, hr, hml, hts, hown, hlk, hK, hE⟩ := id C
  intro x1 x2 x3 x4 x5 g hf H locs hP hS ls hl
  unfold fX11_can_51 at hf
  obtain ⟨v51001, ev51001, hf⟩ := c_letE hf
  refine lv_iinc (v := v51001) (lv' := [(5, .int v51001), (0, .ref (ad 0)), (1, .int x1), (2, .int x2), (3, .int x3), (4, .int x4)]) hx hb dX11_can_51 hl (k := 5) rfl (by rw [ev51001]; rfl) (by decide) rfl (fun ls hl => ?_)
  refine lv_goto (tgt := 29) hx hb dX11_can_54 (by decide) ?_
  exact hrec29 x1 x2 x3 x4 v51001 g hf _ _ hP hS _ (lv_sub hl [1, 2, 3, 4, 5, 0] rfl)
def fX11_can_29  (a1 : Int32) (a2 : Int32) : Nat → Int32 → Int32 → Int32 → Int32 → Int32 → c_G → Option (c_G × Int32)
  | 0, _, _, _, _, _, _ => none
  | n + 1, x1, x2, x3, x4, x5, g => if x5 < 0 then (if x2 = 0 then (some (g, x3)) else (some (g, x4))) else (c_b2 (fX11_heardIsSo g x1 x5) fun g29004 r29005 => if r29005 = 0 then (fX11_can_51 (fX11_can_29 a1 a2 n) a1 a2 x1 x2 x3 x4 x5 g29004) else (c_let (x3 + (1 : Int32)) fun v29007 => fX11_can_51 (fX11_can_29 a1 a2 n) a1 a2 x1 x2 v29007 x5 x5 g29004))
set_option maxRecDepth 100000 in
set_option maxHeartbeats 4000000 in
theorem jX11_can_29 {p : Program} {l : Launch} {e : Env} {s : State} {m : MethodId} {below : List Frame} {meth : Method} {c : Code} {D : va_G} {tc : Nat → ClassId} {ad : Nat → Nat} {A : Nat → Prop} {E : (Nat → Nat) × (Nat → Nat) × Nat} {a1 : Int32} {a2 : Int32} {g' : c_G} {r : Int32} (C : c_C p s m meth c D tc A E RX11 wsX11_can cX11_can 6 (some .int) ([.ref (ad 0), .int a1, .int a2] : List Value).toArray) (hD : c_D A ad TC)  : ∀ (n : Nat) (x1 : Int32) (x2 : Int32) (x3 : Int32) (x4 : Int32) (x5 : Int32) (g : c_G), fX11_can_29 a1 a2 n x1 x2 x3 x4 x5 g = some (g', r) → ∀ (H : Heap) (locs : List Loc), va_P D vwCl (c_ws tc ad TC g) H → va_S A s.heap H locs → ∀ ls : Array Slot, lv_has ls 6 [(0, .ref (ad 0)), (1, .int x1), (2, .int x2), (3, .int x3), (4, .int x4), (5, .int x5)] → W p l e (c_rm 5) s m ([.ref (ad 0), .int a1, .int a2] : List Value).toArray below meth c H locs 0 0 (MQ below (va_Qi (fun (x : Int32) (_ : Unit) => x = r) (fun _ t => va_P D vwCl (c_ws tc ad TC g') t.heap) A) ([.ref (ad 0), .int a1, .int a2] : List Value).toArray s 0 0 A) (F0 m 29 ls []) := by
  obtain ⟨hx, hb, hr, hml, hts, hown, hlk, hK, hE⟩ := id C
  intro n
  induction n with
  | zero =>
    intro x1 x2 x3 x4 x5 g hf
    cases hf
  | succ n ih =>
    intro x1 x2 x3 x4 x5 g hf H locs hP hS ls hl
    unfold fX11_can_29 at hf
    refine lv_iload hx hb dX11_can_29 (lv_at hl 5 rfl) ?_
    refine lv_if_lt (tgt := 57) hx hb dX11_can_31 (by decide) (fun c29001 => ?_) (fun c29001 => ?_)
    · have hf := c_it c29001 hf
      refine lv_iload_n hx hb dX11_can_57 rfl (lv_at hl 2 rfl) ?_
      refine lv_if_ne (tgt := 65) hx hb dX11_can_58 (by decide) (fun c29002 => ?_) (fun c29002 => ?_)
      · have hf := c_ie c29002 hf
        refine lv_iload hx hb dX11_can_65 (lv_at hl 4 rfl) ?_
        exact c_iret hx hb hr hlk hP hS rfl (c_inj hf) dX11_can_67
      · have hf := c_it c29002 hf
        refine lv_iload_n hx hb dX11_can_61 rfl (lv_at hl 3 rfl) ?_
        refine lv_goto (tgt := 67) hx hb dX11_can_62 (by decide) ?_
        exact c_iret hx hb hr hlk hP hS rfl (c_inj hf) dX11_can_67
    · have hf := c_ie c29001 hf
      refine lv_aload_n hx hb dX11_can_34 rfl (lv_at hl 0 rfl) ?_
      refine lv_iload_n hx hb dX11_can_35 rfl (lv_at hl 1 rfl) ?_
      refine lv_iload hx hb dX11_can_36 (lv_at hl 5 rfl) ?_
      obtain ⟨g29004, r29005, hc29003, hf⟩ := c_b2E hf
      refine c_goi (va_runV (As := [.int x1, .int x5]) (rest := []) ⟨hx, hb, hml, hown, hts⟩ (kX11_heardIsSo hD hc29003) (cwV 2 hts gX11_can_X11_heardIsSo rfl rfl rfl (by decide +kernel) ⟨Nat.le_of_ble_eq_true rfl, Nat.le_of_ble_eq_true rfl⟩) (c_preV hK hP hE hS tC0 rfl) rfl rfl hl.1 rfl (lv_room (Nat.le_of_ble_eq_true rfl)) dX11_can_38 ⟨Nat.zero_le _, Nat.zero_le _⟩) hS (fun H locs hP hS => ?_)
      refine lv_if_eq (tgt := 51) hx hb dX11_can_41 (by decide) (fun c29006 => ?_) (fun c29006 => ?_)
      · have hf := c_it c29006 hf
        exact jX11_can_51 C hD ih x1 x2 x3 x4 x5 g29004 hf _ _ hP hS _ (lv_sub hl [0, 1, 2, 3, 4, 5] rfl)
      · have hf := c_ie c29006 hf
        obtain ⟨v29007, ev29007, hf⟩ := c_letE hf
        refine lv_iinc (v := v29007) (lv' := [(3, .int v29007), (0, .ref (ad 0)), (1, .int x1), (2, .int x2), (4, .int x4), (5, .int x5)]) hx hb dX11_can_44 hl (k := 3) rfl (by rw [ev29007]; rfl) (by decide) rfl (fun ls hl => ?_)
        refine lv_iload hx hb dX11_can_47 (lv_at hl 5 rfl) ?_
        refine lv_istore (lv' := [(4, .int x5), (3, .int v29007), (0, .ref (ad 0)), (1, .int x1), (2, .int x2), (5, .int x5)]) hx hb dX11_can_49 hl (by decide) rfl (fun ls hl => ?_)
        exact jX11_can_51 C hD ih x1 x2 v29007 x5 x5 g29004 hf _ _ hP hS _ (lv_sub hl [2, 3, 4, 1, 0, 5] rfl)
def fX11_can (g : c_G) (a1 : Int32) (a2 : Int32) : Option (c_G × Int32) :=
  (fX11_isChild g a1).bind fun r1 => if r1 = 0 then (some (g, (-1 : Int32))) else (if a2 < 0 then (some (g, (-1 : Int32))) else (if a2 ≤ (1 : Int32) then (fX11_can_29 a1 a2 c_F a1 a2 ((0 : Int32)) ((-5 : Int32)) ((9 : Int32)) g) else (some (g, (-1 : Int32)))))
set_option maxRecDepth 100000 in
set_option maxHeartbeats 4000000 in
theorem kX11_can {l : Launch} {D : va_G} {tc : Nat → ClassId} {ad : Nat → Nat} {A : Nat → Prop} {E : (Nat → Nat) × (Nat → Nat) × Nat} (hD : c_D A ad TC) {a1 : Int32} {a2 : Int32} {g g' : c_G} {r : Int32} (hf : fX11_can g a1 a2 = some (g', r)) : c_Mi l yX11_can wsX11_can (c_rm 5) D tc ad A E TC ([.ref (ad 0), .int a1, .int a2] : List Value) g g' r := by
  refine c_ofW (bytes := cX11_can) (maxL := 6) (ret := (some .int)) (by decide) rfl (Nat.le_of_ble_eq_true rfl) ?_
  intro p e s m below meth c ls C hP hS hl
  unfold fX11_can at hf
  obtain ⟨hx, hb, hr, hml, hts, hown, hlk, hK, hE⟩ := id C
  have hl : lv_has ls 6 [(0, .ref (ad 0)), (1, .int a1), (2, .int a2)] := hl
  refine lv_aload_n hx hb dX11_can_0 rfl (lv_at hl 0 rfl) ?_
  refine lv_iload_n hx hb dX11_can_1 rfl (lv_at hl 1 rfl) ?_
  obtain ⟨r1, hc2, hf⟩ := c_bd hf
  refine c_goi (va_runV (As := [.int a1]) (rest := []) ⟨hx, hb, hml, hown, hts⟩ (kX11_isChild hD hc2) (cwV 1 hts gX11_can_X11_isChild rfl rfl rfl (by decide +kernel) ⟨Nat.le_of_ble_eq_true rfl, Nat.le_of_ble_eq_true rfl⟩) (c_preV hK hP hE hS tC0 rfl) rfl rfl hl.1 rfl (lv_room (Nat.le_of_ble_eq_true rfl)) dX11_can_2 ⟨Nat.zero_le _, Nat.zero_le _⟩) hS (fun H locs hP hS => ?_)
  refine lv_if_eq (tgt := 17) hx hb dX11_can_5 (by decide) (fun c3 => ?_) (fun c3 => ?_)
  · have hf := c_it c3 hf
    refine lv_iconst (v := (-1 : Int32)) hx hb dX11_can_17 (by decide) ?_
    exact c_iret hx hb hr hlk hP hS rfl (c_inj hf) dX11_can_18
  · have hf := c_ie c3 hf
    refine lv_iload_n hx hb dX11_can_8 rfl (lv_at hl 2 rfl) ?_
    refine lv_if_lt (tgt := 17) hx hb dX11_can_9 (by decide) (fun c4 => ?_) (fun c4 => ?_)
    · have hf := c_it c4 hf
      refine lv_iconst (v := (-1 : Int32)) hx hb dX11_can_17 (by decide) ?_
      exact c_iret hx hb hr hlk hP hS rfl (c_inj hf) dX11_can_18
    · have hf := c_ie c4 hf
      refine lv_iload_n hx hb dX11_can_12 rfl (lv_at hl 2 rfl) ?_
      refine lv_iconst (v := (1 : Int32)) hx hb dX11_can_13 (by decide) ?_
      refine lv_icmp_le (tgt := 19) hx hb dX11_can_14 (by decide) (fun c5 => ?_) (fun c5 => ?_)
      · have hf := c_it c5 hf
        refine lv_iconst (v := (0 : Int32)) hx hb dX11_can_19 (by decide) ?_
        refine lv_istore_n (lv' := [(3, .int (0 : Int32)), (0, .ref (ad 0)), (1, .int a1), (2, .int a2)]) hx hb dX11_can_20 rfl hl (by decide) rfl (fun ls hl => ?_)
        refine lv_bipush (v := (-5 : Int32)) hx hb dX11_can_21 (by decide) ?_
        refine lv_istore (lv' := [(4, .int (-5 : Int32)), (3, .int (0 : Int32)), (0, .ref (ad 0)), (1, .int a1), (2, .int a2)]) hx hb dX11_can_23 hl (by decide) rfl (fun ls hl => ?_)
        refine lv_bipush (v := (9 : Int32)) hx hb dX11_can_25 (by decide) ?_
        refine lv_istore (lv' := [(5, .int (9 : Int32)), (4, .int (-5 : Int32)), (3, .int (0 : Int32)), (0, .ref (ad 0)), (1, .int a1), (2, .int a2)]) hx hb dX11_can_27 hl (by decide) rfl (fun ls hl => ?_)
        exact jX11_can_29 C hD c_F a1 a2 ((0 : Int32)) ((-5 : Int32)) ((9 : Int32)) g hf _ _ hP hS _ (lv_sub hl [3, 4, 5, 2, 1, 0] rfl)
      · have hf := c_ie c5 hf
        refine lv_iconst (v := (-1 : Int32)) hx hb dX11_can_17 (by decide) ?_
        exact c_iret hx hb hr hlk hP hS rfl (c_inj hf) dX11_can_18
