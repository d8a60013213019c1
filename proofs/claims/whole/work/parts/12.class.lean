theorem dX11_isDigit_0 : decode cX11_isDigit 0 = .ok (.iload_n 0, 1) := by decide +kernel
theorem dX11_isDigit_1 : decode cX11_isDigit 1 = .ok (.ifCond .lt 13, 3) := by decide +kernel
theorem dX11_isDigit_4 : decode cX11_isDigit 4 = .ok (.iload_n 0, 1) := by decide +kernel
theorem dX11_isDigit_5 : decode cX11_isDigit 5 = .ok (.bipush 9, 2) := by decide +kernel
theorem dX11_isDigit_7 : decode cX11_isDigit 7 = .ok (.if_icmp .gt 7, 3) := by decide +kernel
theorem dX11_isDigit_10 : decode cX11_isDigit 10 = .ok (.iconst 1, 1) := by decide +kernel
theorem dX11_isDigit_11 : decode cX11_isDigit 11 = .ok (.goto 4, 3) := by decide +kernel
theorem dX11_isDigit_14 : decode cX11_isDigit 14 = .ok (.iconst 0, 1) := by decide +kernel
theorem dX11_isDigit_15 : decode cX11_isDigit 15 = .ok (.ireturn, 1) := by decide +kernel
def fX11_isDigit (a1 : Int32) : Int32 :=
  if a1 < 0 then ((0 : Int32)) else (if (9 : Int32) < a1 then ((0 : Int32)) else ((1 : Int32)))
set_option maxRecDepth 100000 in
set_option maxHeartbeats 4000000 in
theorem kX11_isDigit {l : Launch} {D : va_G} {tc : Nat → ClassId} {ad : Nat → Nat} {A : Nat → Prop} {E : (Nat → Nat) × (Nat → Nat) × Nat} {T : List c_T} {a1 : Int32} {g : c_G} {r : Int32} (hf : fX11_isDigit a1 = r) : c_Mi l yX11_isDigit wsX11_isDigit (c_rm 0) D tc ad A E T ([.int a1] : List Value) g g r := by
  refine c_ofW (bytes := cX11_isDigit) (maxL := 1) (ret := (some .boolean)) (by decide) rfl (Nat.le_of_ble_eq_true rfl) ?_
  intro p e s m below meth c ls C hP hS hl
  unfold fX11_isDigit at hf
  obtain ⟨hx, hb, hr, hml, hts, hown, hlk, hK, hE⟩ := id C
  have hl : lv_has ls 1 [(0, .int a1)] := hl
  refine lv_iload_n hx hb dX11_isDigit_0 rfl (lv_at hl 0 rfl) ?_
  refine lv_if_lt (tgt := 14) hx hb dX11_isDigit_1 (by decide) (fun c1 => ?_) (fun c1 => ?_)
  · have hf := c_it c1 hf
    refine lv_iconst (v := (0 : Int32)) hx hb dX11_isDigit_14 (by decide) ?_
    exact c_iret hx hb hr hlk hP hS rfl ⟨rfl, hf⟩ dX11_isDigit_15
  · have hf := c_ie c1 hf
    refine lv_iload_n hx hb dX11_isDigit_4 rfl (lv_at hl 0 rfl) ?_
    refine lv_bipush (v := (9 : Int32)) hx hb dX11_isDigit_5 (by decide) ?_
    refine lv_icmp_gt (tgt := 14) hx hb dX11_isDigit_7 (by decide) (fun c2 => ?_) (fun c2 => ?_)
    · have hf := c_it c2 hf
      refine lv_iconst (v := (0 : Int32)) hx hb dX11_isDigit_14 (by decide) ?_
      exact c_iret hx hb hr hlk hP hS rfl ⟨rfl, hf⟩ dX11_isDigit_15
    · have hf := c_ie c2 hf
      refine lv_iconst (v := (1 : Int32)) hx hb dX11_isDigit_10 (by decide) ?_
      refine lv_goto (tgt := 15) hx hb dX11_isDigit_11 (by decide) ?_
      exact c_iret hx hb hr hlk hP hS rfl ⟨rfl, hf⟩ dX11_isDigit_15
theorem bX11_isDigit (a1 : Int32) : fX11_isDigit a1 = 0 ∨ fX11_isDigit a1 = 1 := by
  unfold fX11_isDigit
  first | (repeat' split) <;> first | exact Or.inl rfl | exact Or.inr rfl
theorem dX11_areWords_0 : decode cX11_areWords 0 = .ok (.iload_n 0, 1) := by decide +kernel
theorem dX11_areWords_1 : decode cX11_areWords 1 = .ok (.ifCond .lt 14, 3) := by decide +kernel
theorem dX11_areWords_4 : decode cX11_areWords 4 = .ok (.iload_n 0, 1) := by decide +kernel
theorem dX11_areWords_5 : decode cX11_areWords 5 = .ok (.sipush 4095, 3) := by decide +kernel
theorem dX11_areWords_8 : decode cX11_areWords 8 = .ok (.if_icmp .gt 7, 3) := by decide +kernel
theorem dX11_areWords_11 : decode cX11_areWords 11 = .ok (.iconst 1, 1) := by decide +kernel
theorem dX11_areWords_12 : decode cX11_areWords 12 = .ok (.goto 4, 3) := by decide +kernel
theorem dX11_areWords_15 : decode cX11_areWords 15 = .ok (.iconst 0, 1) := by decide +kernel
theorem dX11_areWords_16 : decode cX11_areWords 16 = .ok (.ireturn, 1) := by decide +kernel
def fX11_areWords (a1 : Int32) : Int32 :=
  if a1 < 0 then ((0 : Int32)) else (if (4095 : Int32) < a1 then ((0 : Int32)) else ((1 : Int32)))
set_option maxRecDepth 100000 in
set_option maxHeartbeats 4000000 in
theorem kX11_areWords {l : Launch} {D : va_G} {tc : Nat → ClassId} {ad : Nat → Nat} {A : Nat → Prop} {E : (Nat → Nat) × (Nat → Nat) × Nat} {T : List c_T} {a1 : Int32} {g : c_G} {r : Int32} (hf : fX11_areWords a1 = r) : c_Mi l yX11_areWords wsX11_areWords (c_rm 0) D tc ad A E T ([.int a1] : List Value) g g r := by
  refine c_ofW (bytes := cX11_areWords) (maxL := 1) (ret := (some .boolean)) (by decide) rfl (Nat.le_of_ble_eq_true rfl) ?_
  intro p e s m below meth c ls C hP hS hl
  unfold fX11_areWords at hf
  obtain ⟨hx, hb, hr, hml, hts, hown, hlk, hK, hE⟩ := id C
  have hl : lv_has ls 1 [(0, .int a1)] := hl
  refine lv_iload_n hx hb dX11_areWords_0 rfl (lv_at hl 0 rfl) ?_
  refine lv_if_lt (tgt := 15) hx hb dX11_areWords_1 (by decide) (fun c1 => ?_) (fun c1 => ?_)
  · have hf := c_it c1 hf
    refine lv_iconst (v := (0 : Int32)) hx hb dX11_areWords_15 (by decide) ?_
    exact c_iret hx hb hr hlk hP hS rfl ⟨rfl, hf⟩ dX11_areWords_16
  · have hf := c_ie c1 hf
    refine lv_iload_n hx hb dX11_areWords_4 rfl (lv_at hl 0 rfl) ?_
    refine lv_sipush (v := (4095 : Int32)) hx hb dX11_areWords_5 (by decide) ?_
    refine lv_icmp_gt (tgt := 15) hx hb dX11_areWords_8 (by decide) (fun c2 => ?_) (fun c2 => ?_)
    · have hf := c_it c2 hf
      refine lv_iconst (v := (0 : Int32)) hx hb dX11_areWords_15 (by decide) ?_
      exact c_iret hx hb hr hlk hP hS rfl ⟨rfl, hf⟩ dX11_areWords_16
    · have hf := c_ie c2 hf
      refine lv_iconst (v := (1 : Int32)) hx hb dX11_areWords_11 (by decide) ?_
      refine lv_goto (tgt := 16) hx hb dX11_areWords_12 (by decide) ?_
      exact c_iret hx hb hr hlk hP hS rfl ⟨rfl, hf⟩ dX11_areWords_16
theorem bX11_areWords (a1 : Int32) : fX11_areWords a1 = 0 ∨ fX11_areWords a1 = 1 := by
  unfold fX11_areWords
  first | (repeat' split) <;> first | exact Or.inl rfl | exact Or.inr rfl
theorem i_X11_child_X7 : ∀ w ∈ u_ws RX7 TX7 17, w ∈ wsX11_child := c_inP [41, 42, 43, 44, 45, 46, 47, 48, 49, 50, 51, 52, 53, 54, 55, 56, 57] (by decide +kernel)
theorem i_X11_child_X11 : ∀ w ∈ u_ws RX11 TX11 19, w ∈ wsX11_child := c_inP [22, 23, 24, 25, 26, 27, 28, 29, 30, 31, 32, 33, 34, 35, 36, 37, 38, 39, 40] (by decide +kernel)
theorem dX11_child_0 : decode cX11_child 0 = .ok (.iload_n 1, 1) := by decide +kernel
theorem dX11_child_1 : decode cX11_child 1 = .ok (.ifCond .lt 9, 3) := by decide +kernel
theorem dX11_child_4 : decode cX11_child 4 = .ok (.iload_n 1, 1) := by decide +kernel
theorem dX11_child_5 : decode cX11_child 5 = .ok (.bipush 7, 2) := by decide +kernel
theorem dX11_child_7 : decode cX11_child 7 = .ok (.if_icmp .lt 5, 3) := by decide +kernel
theorem dX11_child_10 : decode cX11_child 10 = .ok (.iconst (-1), 1) := by decide +kernel
theorem dX11_child_11 : decode cX11_child 11 = .ok (.ireturn, 1) := by decide +kernel
theorem dX11_child_12 : decode cX11_child 12 = .ok (.iload_n 2, 1) := by decide +kernel
theorem dX11_child_13 : decode cX11_child 13 = .ok (.invokestatic 104, 3) := by decide +kernel
theorem dX11_child_16 : decode cX11_child 16 = .ok (.ifCond .eq 10, 3) := by decide +kernel
theorem dX11_child_19 : decode cX11_child 19 = .ok (.iload_n 3, 1) := by decide +kernel
theorem dX11_child_20 : decode cX11_child 20 = .ok (.invokestatic 108, 3) := by decide +kernel
theorem dX11_child_23 : decode cX11_child 23 = .ok (.ifCond .ne 6, 3) := by decide +kernel
theorem dX11_child_26 : decode cX11_child 26 = .ok (.bipush (-2), 2) := by decide +kernel
theorem dX11_child_28 : decode cX11_child 28 = .ok (.ireturn, 1) := by decide +kernel
theorem dX11_child_29 : decode cX11_child 29 = .ok (.aload_n 0, 1) := by decide +kernel
theorem dX11_child_30 : decode cX11_child 30 = .ok (.getfield 88, 3) := by decide +kernel
theorem dX11_child_33 : decode cX11_child 33 = .ok (.getfield 111, 3) := by decide +kernel
theorem dX11_child_36 : decode cX11_child 36 = .ok (.bipush 6, 2) := by decide +kernel
theorem dX11_child_38 : decode cX11_child 38 = .ok (.if_icmp .lt 6, 3) := by decide +kernel
theorem dX11_child_41 : decode cX11_child 41 = .ok (.bipush (-4), 2) := by decide +kernel
theorem dX11_child_43 : decode cX11_child 43 = .ok (.ireturn, 1) := by decide +kernel
theorem dX11_child_44 : decode cX11_child 44 = .ok (.aload_n 0, 1) := by decide +kernel
theorem dX11_child_45 : decode cX11_child 45 = .ok (.getfield 88, 3) := by decide +kernel
theorem dX11_child_48 : decode cX11_child 48 = .ok (.iload_n 1, 1) := by decide +kernel
theorem dX11_child_49 : decode cX11_child 49 = .ok (.iload_n 2, 1) := by decide +kernel
theorem dX11_child_50 : decode cX11_child 50 = .ok (.iload_n 3, 1) := by decide +kernel
theorem dX11_child_51 : decode cX11_child 51 = .ok (.invokevirtual 115, 3) := by decide +kernel
theorem dX11_child_54 : decode cX11_child 54 = .ok (.ireturn, 1) := by decide +kernel
set_option maxRecDepth 20000 in
theorem ggX11_child_X11_isDigit : GoodIn wsX11_child wsX11_isDigit := goodIn_r _ [6] (by decide +kernel) (by decide +kernel)
set_option maxRecDepth 20000 in
theorem gX11_child_X11_isDigit : GoodIn wsX11_child (va_wsS RX11 104 yX11_isDigit wsX11_isDigit) := goodIn_app (goodIn_of _ (by decide +kernel)) ggX11_child_X11_isDigit
set_option maxRecDepth 20000 in
theorem ggX11_child_X11_areWords : GoodIn wsX11_child wsX11_areWords := goodIn_r _ [9] (by decide +kernel) (by decide +kernel)
set_option maxRecDepth 20000 in
theorem gX11_child_X11_areWords : GoodIn wsX11_child (va_wsS RX11 108 yX11_areWords wsX11_areWords) := goodIn_app (goodIn_of _ (by decide +kernel)) ggX11_child_X11_areWords
set_option maxRecDepth 20000 in
theorem ggX11_child_X7_addChild : GoodIn wsX11_child wsX7_addChild := goodIn_r _ [14, 15, 16, 17, 18, 19, 20, 21, 41, 42, 43, 44, 45, 46, 47, 48, 49, 50, 51, 52, 53, 54, 55, 56, 57] (by decide +kernel) (by decide +kernel)
set_option maxRecDepth 20000 in
theorem gX11_child_X7_addChild : GoodIn wsX11_child (wsV RX11 115 RX7 yX7_addChild wsX7_addChild) := goodIn_app (goodIn_of _ (by decide +kernel)) ggX11_child_X7_addChild
def fX11_child (g : c_G) (a1 : Int32) (a2 : Int32) (a3 : Int32) : Option (c_G × Int32) :=
  if a1 < 0 then (some (g, (-1 : Int32))) else (if a1 < (7 : Int32) then (if (fX11_isDigit a2) = 0 then (some (g, (-2 : Int32))) else (if (fX11_areWords a3) = 0 then (some (g, (-2 : Int32))) else (if (g.1 55 6) < (6 : Int32) then (c_b2 (fX7_addChild g a1 a2 a3) fun g7 r8 => some (g7, r8)) else (some (g, (-4 : Int32)))))) else (some (g, (-1 : Int32))))
set_option maxRecDepth 100000 in
set_option maxHeartbeats 4000000 in
theorem kX11_child {l : Launch} {D : va_G} {tc : Nat → ClassId} {ad : Nat → Nat} {A : Nat → Prop} {E : (Nat → Nat) × (Nat → Nat) × Nat} (hD : c_D A ad TC) {a1 : Int32} {a2 : Int32} {a3 : Int32} {g g' : c_G} {r : Int32} (hf : fX11_child g a1 a2 a3 = some (g', r)) : c_Mi l yX11_child wsX11_child (c_rm 1) D tc ad A E TC ([.ref (ad 0), .int a1, .int a2, .int a3] : List Value) g g' r := by
  refine c_ofW (bytes := cX11_child) (maxL := 4) (ret := (some .int)) (by decide) rfl (Nat.le_of_ble_eq_true rfl) ?_
  intro p e s m below meth c ls C hP hS hl
  unfold fX11_child at hf
  obtain ⟨hx, hb, hr, hml, hts, hown, hlk, hK, hE⟩ := id C
  have hl : lv_has ls 4 [(0, .ref (ad 0)), (1, .int a1), (2, .int a2), (3, .int a3)] := hl
  refine lv_iload_n hx hb dX11_child_0 rfl (lv_at hl 1 rfl) ?_
  refine lv_if_lt (tgt := 10) hx hb dX11_child_1 (by decide) (fun c1 => ?_) (fun c1 => ?_)
  · have hf := c_it c1 hf
    refine lv_iconst (v := (-1 : Int32)) hx hb dX11_child_10 (by decide) ?_
    exact c_iret hx hb hr hlk hP hS rfl (c_inj hf) dX11_child_11
  · have hf := c_ie c1 hf
    refine lv_iload_n hx hb dX11_child_4 rfl (lv_at hl 1 rfl) ?_
    refine lv_bipush (v := (7 : Int32)) hx hb dX11_child_5 (by decide) ?_
    refine lv_icmp_lt (tgt := 12) hx hb dX11_child_7 (by decide) (fun c2 => ?_) (fun c2 => ?_)
    · have hf := c_it c2 hf
      refine lv_iload_n hx hb dX11_child_12 rfl (lv_at hl 2 rfl) ?_
      refine c_goi (va_runS (As := [.int a2]) (rest := []) ⟨hx, hb, hml, hown, hts⟩ (kX11_isDigit (T := TC) (g := g) rfl) (va_cwS 1 hts gX11_child_X11_isDigit rfl rfl rfl (by decide +kernel) ⟨Nat.le_of_ble_eq_true rfl, Nat.le_of_ble_eq_true rfl⟩) (c_preS hK hP hE hS) rfl rfl hl.1 rfl (lv_room (Nat.le_of_ble_eq_true rfl)) dX11_child_13 ⟨Nat.zero_le _, Nat.zero_le _⟩) hS (fun H locs hP hS => ?_)
      refine lv_if_eq (tgt := 26) hx hb dX11_child_16 (by decide) (fun c3 => ?_) (fun c3 => ?_)
      · have hf := c_it c3 hf
        refine lv_bipush (v := (-2 : Int32)) hx hb dX11_child_26 (by decide) ?_
        exact c_iret hx hb hr hlk hP hS rfl (c_inj hf) dX11_child_28
      · have hf := c_ie c3 hf
        refine lv_iload_n hx hb dX11_child_19 rfl (lv_at hl 3 rfl) ?_
        refine c_goi (va_runS (As := [.int a3]) (rest := []) ⟨hx, hb, hml, hown, hts⟩ (kX11_areWords (T := TC) (g := g) rfl) (va_cwS 1 hts gX11_child_X11_areWords rfl rfl rfl (by decide +kernel) ⟨Nat.le_of_ble_eq_true rfl, Nat.le_of_ble_eq_true rfl⟩) (c_preS hK hP hE hS) rfl rfl hl.1 rfl (lv_room (Nat.le_of_ble_eq_true rfl)) dX11_child_20 ⟨Nat.zero_le _, Nat.zero_le _⟩) hS (fun H locs hP hS => ?_)
        refine lv_if_ne (tgt := 29) hx hb dX11_child_23 (by decide) (fun c4 => ?_) (fun c4 => ?_)
        · have hf := c_ie c4 hf
          refine lv_aload_n hx hb dX11_child_29 rfl (lv_at hl 0 rfl) ?_
          refine c_get hx hb hts i_X11_child_X11 hown hK hP 0 tC0 rfl 5 (by decide) (hts _ (List.mem_of_getElem? (i := 1) rfl)) (fun _ h9 => h9) rfl (v := .ref (ad 55)) rfl dX11_child_30 ?_
          refine c_get hx hb hts i_X11_child_X7 hown hK hP 55 tC55 rfl 6 (by decide) (hts _ (List.mem_of_getElem? (i := 2) rfl)) (fun _ h9 => h9) rfl (v := .int (g.1 55 6)) rfl dX11_child_33 ?_
          refine lv_bipush (v := (6 : Int32)) hx hb dX11_child_36 (by decide) ?_
          refine lv_icmp_lt (tgt := 44) hx hb dX11_child_38 (by decide) (fun c5 => ?_) (fun c5 => ?_)
          · have hf := c_it c5 hf
            refine lv_aload_n hx hb dX11_child_44 rfl (lv_at hl 0 rfl) ?_
            refine c_get hx hb hts i_X11_child_X11 hown hK hP 0 tC0 rfl 5 (by decide) (hts _ (List.mem_of_getElem? (i := 1) rfl)) (fun _ h9 => h9) rfl (v := .ref (ad 55)) rfl dX11_child_45 ?_
            refine lv_iload_n hx hb dX11_child_48 rfl (lv_at hl 1 rfl) ?_
            refine lv_iload_n hx hb dX11_child_49 rfl (lv_at hl 2 rfl) ?_
            refine lv_iload_n hx hb dX11_child_50 rfl (lv_at hl 3 rfl) ?_
            obtain ⟨g7, r8, hc6, hf⟩ := c_b2E hf
            refine c_goi (va_runV (As := [.int a1, .int a2, .int a3]) (rest := []) ⟨hx, hb, hml, hown, hts⟩ (kX7_addChild hD hc6) (cwV 3 hts gX11_child_X7_addChild rfl rfl rfl (by decide +kernel) ⟨Nat.le_of_ble_eq_true rfl, Nat.le_of_ble_eq_true rfl⟩) (c_preV hK hP hE hS tC55 rfl) rfl rfl hl.1 rfl (lv_room (Nat.le_of_ble_eq_true rfl)) dX11_child_51 ⟨Nat.zero_le _, Nat.zero_le _⟩) hS (fun H locs hP hS => ?_)
            exact c_iret hx hb hr hlk hP hS rfl (c_inj hf) dX11_child_54
          · have hf := c_ie c5 hf
            refine lv_bipush (v := (-4 : Int32)) hx hb dX11_child_41 (by decide) ?_
            exact c_iret hx hb hr hlk hP hS rfl (c_inj hf) dX11_child_43
        · have hf := c_it c4 hf
          refine lv_bipush (v := (-2 : Int32)) hx hb dX11_child_26 (by decide) ?_
          exact c_iret hx hb hr hlk hP hS rfl (c_inj hf) dX11_child_28
    · have hf := c_ie c2 hf
      refine lv_iconst (v := (-1 : Int32)) hx hb dX11_child_10 (by decide) ?_
      exact c_iret hx hb hr hlk hP hS rfl (c_inj hf) dX11_child_11
theorem i_X11_isChild_X7 : ∀ w ∈ u_ws RX7 TX7 17, w ∈ wsX11_isChild := c_inP [22, 23, 24, 25, 26, 27, 28, 29, 30, 31, 32, 33, 34, 35, 36, 37, 38] (by decide +kernel)
theorem i_X11_isChild_X11 : ∀ w ∈ u_ws RX11 TX11 19, w ∈ wsX11_isChild := c_inP [3, 4, 5, 6, 7, 8, 9, 10, 11, 12, 13, 14, 15, 16, 17, 18, 19, 20, 21] (by decide +kernel)
theorem dX11_isChild_0 : decode cX11_isChild 0 = .ok (.iload_n 1, 1) := by decide +kernel
theorem dX11_isChild_1 : decode cX11_isChild 1 = .ok (.ifCond .lt 18, 3) := by decide +kernel
theorem dX11_isChild_4 : decode cX11_isChild 4 = .ok (.iload_n 1, 1) := by decide +kernel
theorem dX11_isChild_5 : decode cX11_isChild 5 = .ok (.aload_n 0, 1) := by decide +kernel
theorem dX11_isChild_6 : decode cX11_isChild 6 = .ok (.getfield 88, 3) := by decide +kernel
theorem dX11_isChild_9 : decode cX11_isChild 9 = .ok (.getfield 111, 3) := by decide +kernel
theorem dX11_isChild_12 : decode cX11_isChild 12 = .ok (.if_icmp .ge 7, 3) := by decide +kernel
theorem dX11_isChild_15 : decode cX11_isChild 15 = .ok (.iconst 1, 1) := by decide +kernel
theorem dX11_isChild_16 : decode cX11_isChild 16 = .ok (.goto 4, 3) := by decide +kernel
theorem dX11_isChild_19 : decode cX11_isChild 19 = .ok (.iconst 0, 1) := by decide +kernel
theorem dX11_isChild_20 : decode cX11_isChild 20 = .ok (.ireturn, 1) := by decide +kernel
def fX11_isChild (g : c_G) (a1 : Int32) : Option (Int32) :=
  if a1 < 0 then (some (0 : Int32)) else (if (g.1 55 6) ≤ a1 then (some (0 : Int32)) else (some (1 : Int32)))
set_option maxRecDepth 100000 in
set_option maxHeartbeats 4000000 in
theorem kX11_isChild {l : Launch} {D : va_G} {tc : Nat → ClassId} {ad : Nat → Nat} {A : Nat → Prop} {E : (Nat → Nat) × (Nat → Nat) × Nat} (hD : c_D A ad TC) {a1 : Int32} {g : c_G} {r : Int32} (hf : fX11_isChild g a1 = some r) : c_Mi l yX11_isChild wsX11_isChild (c_rm 0) D tc ad A E TC ([.ref (ad 0), .int a1] : List Value) g g r := by
  refine c_ofW (bytes := cX11_isChild) (maxL := 2) (ret := (some .boolean)) (by decide) rfl (Nat.le_of_ble_eq_true rfl) ?_
  intro p e s m below meth c ls C hP hS hl
  unfold fX11_isChild at hf
  obtain ⟨hx, hb, hr, hml, hts, hown, hlk, hK, hE⟩ := id C
  have hl : lv_has ls 2 [(0, .ref (ad 0)), (1, .int a1)] := hl
  refine lv_iload_n hx hb dX11_isChild_0 rfl (lv_at hl 1 rfl) ?_
  refine lv_if_lt (tgt := 19) hx hb dX11_isChild_1 (by decide) (fun c1 => ?_) (fun c1 => ?_)
  · have hf := c_it c1 hf
    refine lv_iconst (v := (0 : Int32)) hx hb dX11_isChild_19 (by decide) ?_
    exact c_iret hx hb hr hlk hP hS rfl ⟨rfl, Option.some.inj hf⟩ dX11_isChild_20
  · have hf := c_ie c1 hf
    refine lv_iload_n hx hb dX11_isChild_4 rfl (lv_at hl 1 rfl) ?_
    refine lv_aload_n hx hb dX11_isChild_5 rfl (lv_at hl 0 rfl) ?_
    refine c_get hx hb hts i_X11_isChild_X11 hown hK hP 0 tC0 rfl 5 (by decide) (hts _ (List.mem_of_getElem? (i := 1) rfl)) (fun _ h9 => h9) rfl (v := .ref (ad 55)) rfl dX11_isChild_6 ?_
    refine c_get hx hb hts i_X11_isChild_X7 hown hK hP 55 tC55 rfl 6 (by decide) (hts _ (List.mem_of_getElem? (i := 2) rfl)) (fun _ h9 => h9) rfl (v := .int (g.1 55 6)) rfl dX11_isChild_9 ?_
    refine lv_icmp_ge (tgt := 19) hx hb dX11_isChild_12 (by decide) (fun c2 => ?_) (fun c2 => ?_)
    · have hf := c_it c2 hf
      refine lv_iconst (v := (0 : Int32)) hx hb dX11_isChild_19 (by decide) ?_
      exact c_iret hx hb hr hlk hP hS rfl ⟨rfl, Option.some.inj hf⟩ dX11_isChild_20
    · have hf := c_ie c2 hf
      refine lv_iconst (v := (1 : Int32)) hx hb dX11_isChild_15 (by decide) ?_
      refine lv_goto (tgt := 20) hx hb dX11_isChild_16 (by decide) ?_
      exact c_iret hx hb hr hlk hP hS rfl ⟨rfl, Option.some.inj hf⟩ dX11_isChild_20
theorem i_X11_weigh_X7 : ∀ w ∈ u_ws RX7 TX7 17, w ∈ wsX11_weigh := c_inP [81, 82, 83, 84, 85, 86, 87, 88, 89, 90, 91, 92, 93, 94, 95, 96, 97] (by decide +kernel)
theorem i_X11_weigh_X11 : ∀ w ∈ u_ws RX11 TX11 19, w ∈ wsX11_weigh := c_inP [62, 63, 64, 65, 66, 67, 68, 69, 70, 71, 72, 73, 74, 75, 76, 77, 78, 79, 80] (by decide +kernel)
theorem dX11_weigh_0 : decode cX11_weigh 0 = .ok (.aload_n 0, 1) := by decide +kernel
theorem dX11_weigh_1 : decode cX11_weigh 1 = .ok (.getfield 76, 3) := by decide +kernel
theorem dX11_weigh_4 : decode cX11_weigh 4 = .ok (.aload_n 1, 1) := by decide +kernel
theorem dX11_weigh_5 : decode cX11_weigh 5 = .ok (.getfield 122, 3) := by decide +kernel
theorem dX11_weigh_8 : decode cX11_weigh 8 = .ok (.iload_n 2, 1) := by decide +kernel
theorem dX11_weigh_9 : decode cX11_weigh 9 = .ok (.iaload, 1) := by decide +kernel
theorem dX11_weigh_10 : decode cX11_weigh 10 = .ok (.aaload, 1) := by decide +kernel
theorem dX11_weigh_11 : decode cX11_weigh 11 = .ok (.astore 5, 2) := by decide +kernel
theorem dX11_weigh_13 : decode cX11_weigh 13 = .ok (.aload_n 0, 1) := by decide +kernel
theorem dX11_weigh_14 : decode cX11_weigh 14 = .ok (.getfield 21, 3) := by decide +kernel
theorem dX11_weigh_17 : decode cX11_weigh 17 = .ok (.iconst 0, 1) := by decide +kernel
theorem dX11_weigh_18 : decode cX11_weigh 18 = .ok (.iload_n 2, 1) := by decide +kernel
theorem dX11_weigh_19 : decode cX11_weigh 19 = .ok (.iastore, 1) := by decide +kernel
theorem dX11_weigh_20 : decode cX11_weigh 20 = .ok (.aload_n 0, 1) := by decide +kernel
theorem dX11_weigh_21 : decode cX11_weigh 21 = .ok (.getfield 21, 3) := by decide +kernel
theorem dX11_weigh_24 : decode cX11_weigh 24 = .ok (.iconst 1, 1) := by decide +kernel
theorem dX11_weigh_25 : decode cX11_weigh 25 = .ok (.aload_n 1, 1) := by decide +kernel
theorem dX11_weigh_26 : decode cX11_weigh 26 = .ok (.getfield 122, 3) := by decide +kernel
theorem dX11_weigh_29 : decode cX11_weigh 29 = .ok (.iload_n 2, 1) := by decide +kernel
theorem dX11_weigh_30 : decode cX11_weigh 30 = .ok (.iaload, 1) := by decide +kernel
theorem dX11_weigh_31 : decode cX11_weigh 31 = .ok (.iastore, 1) := by decide +kernel
theorem dX11_weigh_32 : decode cX11_weigh 32 = .ok (.aload_n 0, 1) := by decide +kernel
theorem dX11_weigh_33 : decode cX11_weigh 33 = .ok (.getfield 21, 3) := by decide +kernel
theorem dX11_weigh_36 : decode cX11_weigh 36 = .ok (.iconst 2, 1) := by decide +kernel
theorem dX11_weigh_37 : decode cX11_weigh 37 = .ok (.iload_n 3, 1) := by decide +kernel
theorem dX11_weigh_38 : decode cX11_weigh 38 = .ok (.iastore, 1) := by decide +kernel
theorem dX11_weigh_39 : decode cX11_weigh 39 = .ok (.aload_n 0, 1) := by decide +kernel
theorem dX11_weigh_40 : decode cX11_weigh 40 = .ok (.getfield 21, 3) := by decide +kernel
theorem dX11_weigh_43 : decode cX11_weigh 43 = .ok (.iconst 4, 1) := by decide +kernel
theorem dX11_weigh_44 : decode cX11_weigh 44 = .ok (.aload_n 1, 1) := by decide +kernel
theorem dX11_weigh_45 : decode cX11_weigh 45 = .ok (.getfield 148, 3) := by decide +kernel
theorem dX11_weigh_48 : decode cX11_weigh 48 = .ok (.iload 4, 2) := by decide +kernel
theorem dX11_weigh_50 : decode cX11_weigh 50 = .ok (.iaload, 1) := by decide +kernel
theorem dX11_weigh_51 : decode cX11_weigh 51 = .ok (.iastore, 1) := by decide +kernel
theorem dX11_weigh_52 : decode cX11_weigh 52 = .ok (.aload_n 0, 1) := by decide +kernel
theorem dX11_weigh_53 : decode cX11_weigh 53 = .ok (.getfield 21, 3) := by decide +kernel
theorem dX11_weigh_56 : decode cX11_weigh 56 = .ok (.iconst 5, 1) := by decide +kernel
theorem dX11_weigh_57 : decode cX11_weigh 57 = .ok (.aload_n 1, 1) := by decide +kernel
theorem dX11_weigh_58 : decode cX11_weigh 58 = .ok (.getfield 131, 3) := by decide +kernel
theorem dX11_weigh_61 : decode cX11_weigh 61 = .ok (.iload_n 2, 1) := by decide +kernel
theorem dX11_weigh_62 : decode cX11_weigh 62 = .ok (.iaload, 1) := by decide +kernel
theorem dX11_weigh_63 : decode cX11_weigh 63 = .ok (.bipush 10, 2) := by decide +kernel
theorem dX11_weigh_65 : decode cX11_weigh 65 = .ok (.irem, 1) := by decide +kernel
theorem dX11_weigh_66 : decode cX11_weigh 66 = .ok (.iastore, 1) := by decide +kernel
theorem dX11_weigh_67 : decode cX11_weigh 67 = .ok (.aload_n 0, 1) := by decide +kernel
theorem dX11_weigh_68 : decode cX11_weigh 68 = .ok (.getfield 21, 3) := by decide +kernel
theorem dX11_weigh_71 : decode cX11_weigh 71 = .ok (.bipush 6, 2) := by decide +kernel
theorem dX11_weigh_73 : decode cX11_weigh 73 = .ok (.aload_n 1, 1) := by decide +kernel
theorem dX11_weigh_74 : decode cX11_weigh 74 = .ok (.getfield 131, 3) := by decide +kernel
theorem dX11_weigh_77 : decode cX11_weigh 77 = .ok (.iload_n 2, 1) := by decide +kernel
theorem dX11_weigh_78 : decode cX11_weigh 78 = .ok (.iaload, 1) := by decide +kernel
theorem dX11_weigh_79 : decode cX11_weigh 79 = .ok (.iastore, 1) := by decide +kernel
theorem dX11_weigh_80 : decode cX11_weigh 80 = .ok (.iconst 0, 1) := by decide +kernel
theorem dX11_weigh_81 : decode cX11_weigh 81 = .ok (.istore 6, 2) := by decide +kernel
theorem dX11_weigh_83 : decode cX11_weigh 83 = .ok (.iload 6, 2) := by decide +kernel
theorem dX11_weigh_85 : decode cX11_weigh 85 = .ok (.bipush 12, 2) := by decide +kernel
theorem dX11_weigh_87 : decode cX11_weigh 87 = .ok (.if_icmp .ge 72, 3) := by decide +kernel
theorem dX11_weigh_90 : decode cX11_weigh 90 = .ok (.aload_n 0, 1) := by decide +kernel
theorem dX11_weigh_91 : decode cX11_weigh 91 = .ok (.getfield 21, 3) := by decide +kernel
theorem dX11_weigh_94 : decode cX11_weigh 94 = .ok (.iconst 3, 1) := by decide +kernel
theorem dX11_weigh_95 : decode cX11_weigh 95 = .ok (.iload 6, 2) := by decide +kernel
theorem dX11_weigh_97 : decode cX11_weigh 97 = .ok (.iastore, 1) := by decide +kernel
theorem dX11_weigh_98 : decode cX11_weigh 98 = .ok (.aload_n 0, 1) := by decide +kernel
theorem dX11_weigh_99 : decode cX11_weigh 99 = .ok (.getfield 21, 3) := by decide +kernel
theorem dX11_weigh_102 : decode cX11_weigh 102 = .ok (.bipush 7, 2) := by decide +kernel
theorem dX11_weigh_104 : decode cX11_weigh 104 = .ok (.aload_n 1, 1) := by decide +kernel
theorem dX11_weigh_105 : decode cX11_weigh 105 = .ok (.getfield 182, 3) := by decide +kernel
theorem dX11_weigh_108 : decode cX11_weigh 108 = .ok (.iload_n 2, 1) := by decide +kernel
theorem dX11_weigh_109 : decode cX11_weigh 109 = .ok (.iconst 4, 1) := by decide +kernel
theorem dX11_weigh_110 : decode cX11_weigh 110 = .ok (.imul, 1) := by decide +kernel
theorem dX11_weigh_111 : decode cX11_weigh 111 = .ok (.iload 6, 2) := by decide +kernel
theorem dX11_weigh_113 : decode cX11_weigh 113 = .ok (.iconst 4, 1) := by decide +kernel
theorem dX11_weigh_114 : decode cX11_weigh 114 = .ok (.irem, 1) := by decide +kernel
theorem dX11_weigh_115 : decode cX11_weigh 115 = .ok (.iadd, 1) := by decide +kernel
theorem dX11_weigh_116 : decode cX11_weigh 116 = .ok (.iaload, 1) := by decide +kernel
theorem dX11_weigh_117 : decode cX11_weigh 117 = .ok (.iastore, 1) := by decide +kernel
theorem dX11_weigh_118 : decode cX11_weigh 118 = .ok (.aload_n 0, 1) := by decide +kernel
theorem dX11_weigh_119 : decode cX11_weigh 119 = .ok (.getfield 25, 3) := by decide +kernel
theorem dX11_weigh_122 : decode cX11_weigh 122 = .ok (.iload 6, 2) := by decide +kernel
theorem dX11_weigh_124 : decode cX11_weigh 124 = .ok (.aload 5, 2) := by decide +kernel
theorem dX11_weigh_126 : decode cX11_weigh 126 = .ok (.aload_n 1, 1) := by decide +kernel
theorem dX11_weigh_127 : decode cX11_weigh 127 = .ok (.getfield 148, 3) := by decide +kernel
theorem dX11_weigh_130 : decode cX11_weigh 130 = .ok (.iload 4, 2) := by decide +kernel
theorem dX11_weigh_132 : decode cX11_weigh 132 = .ok (.iaload, 1) := by decide +kernel
theorem dX11_weigh_133 : decode cX11_weigh 133 = .ok (.aload_n 1, 1) := by decide +kernel
theorem dX11_weigh_134 : decode cX11_weigh 134 = .ok (.getfield 194, 3) := by decide +kernel
theorem dX11_weigh_137 : decode cX11_weigh 137 = .ok (.aload_n 0, 1) := by decide +kernel
theorem dX11_weigh_138 : decode cX11_weigh 138 = .ok (.getfield 21, 3) := by decide +kernel
theorem dX11_weigh_141 : decode cX11_weigh 141 = .ok (.invokevirtual 323, 3) := by decide +kernel
theorem dX11_weigh_144 : decode cX11_weigh 144 = .ok (.iadd, 1) := by decide +kernel
theorem dX11_weigh_145 : decode cX11_weigh 145 = .ok (.aload_n 0, 1) := by decide +kernel
theorem dX11_weigh_146 : decode cX11_weigh 146 = .ok (.getfield 21, 3) := by decide +kernel
theorem dX11_weigh_149 : decode cX11_weigh 149 = .ok (.invokevirtual 327, 3) := by decide +kernel
theorem dX11_weigh_152 : decode cX11_weigh 152 = .ok (.iastore, 1) := by decide +kernel
theorem dX11_weigh_153 : decode cX11_weigh 153 = .ok (.iinc 6 1, 3) := by decide +kernel
theorem dX11_weigh_156 : decode cX11_weigh 156 = .ok (.goto (-73), 3) := by decide +kernel
theorem dX11_weigh_159 : decode cX11_weigh 159 = .ok (.return_, 1) := by decide +kernel
set_option maxRecDepth 20000 in
theorem ggX11_weigh_X10_weight : GoodIn wsX11_weigh wsX10_weight := goodIn_r _ [13, 14, 15, 16, 17, 18, 19, 12, 20, 98, 99, 100, 101, 102, 103, 104, 105] (by decide +kernel) (by decide +kernel)
set_option maxRecDepth 20000 in
theorem gX11_weigh_X10_weight : GoodIn wsX11_weigh (wsV RX11 323 RX10 yX10_weight wsX10_weight) := goodIn_app (goodIn_of _ (by decide +kernel)) ggX11_weigh_X10_weight
set_option maxRecDepth 20000 in
theorem ggX11_weigh_X1_fit : GoodIn wsX11_weigh wsX1_fit := goodIn_r _ [27] (by decide +kernel) (by decide +kernel)
set_option maxRecDepth 20000 in
theorem gX11_weigh_X1_fit_u327X1 : GoodIn wsX11_weigh (va_wsO RX11 327 RX1 "NamingElders$Child" ⟨"NamingElders$Child", "fit", "(I[I)I"⟩ yX1_fit wsX1_fit) := goodIn_app (goodIn_of _ (by decide +kernel)) ggX11_weigh_X1_fit
set_option maxRecDepth 20000 in
theorem ggX11_weigh_X2_fit : GoodIn wsX11_weigh wsX2_fit := goodIn_r _ [28] (by decide +kernel) (by decide +kernel)
set_option maxRecDepth 20000 in
theorem gX11_weigh_X2_fit : GoodIn wsX11_weigh (wsV RX11 327 RX2 yX2_fit wsX2_fit) := goodIn_app (goodIn_of _ (by decide +kernel)) ggX11_weigh_X2_fit
set_option maxRecDepth 20000 in
theorem ggX11_weigh_X3_fit : GoodIn wsX11_weigh wsX3_fit := goodIn_r _ [36, 37, 38, 39, 25, 26, 27] (by decide +kernel) (by decide +kernel)
set_option maxRecDepth 20000 in
theorem gX11_weigh_X3_fit_u327X3 : GoodIn wsX11_weigh (va_wsO RX11 327 RX3 "NamingElders$Child" ⟨"NamingElders$Child", "fit", "(I[I)I"⟩ yX3_fit wsX3_fit) := goodIn_app (goodIn_of _ (by decide +kernel)) ggX11_weigh_X3_fit
set_option maxRecDepth 20000 in
theorem ggX11_weigh_X4_fit : GoodIn wsX11_weigh wsX4_fit := goodIn_r _ [43, 44, 45, 46, 47, 48, 49] (by decide +kernel) (by decide +kernel)
set_option maxRecDepth 20000 in
theorem gX11_weigh_X4_fit_u327X4 : GoodIn wsX11_weigh (va_wsO RX11 327 RX4 "NamingElders$Child" ⟨"NamingElders$Child", "fit", "(I[I)I"⟩ yX4_fit wsX4_fit) := goodIn_app (goodIn_of _ (by decide +kernel)) ggX11_weigh_X4_fit
set_option maxRecDepth 20000 in
theorem ggX11_weigh_X6_fit : GoodIn wsX11_weigh wsX6_fit := goodIn_r _ [53] (by decide +kernel) (by decide +kernel)
set_option maxRecDepth 20000 in
theorem gX11_weigh_X6_fit_u327X6 : GoodIn wsX11_weigh (va_wsO RX11 327 RX6 "NamingElders$Child" ⟨"NamingElders$Child", "fit", "(I[I)I"⟩ yX6_fit wsX6_fit) := goodIn_app (goodIn_of _ (by decide +kernel)) ggX11_weigh_X6_fit
set_option maxRecDepth 20000 in
theorem ggX11_weigh_X8_fit : GoodIn wsX11_weigh wsX8_fit := goodIn_r _ [57, 58, 59, 60, 51, 52, 53] (by decide +kernel) (by decide +kernel)
set_option maxRecDepth 20000 in
theorem gX11_weigh_X8_fit_u327X8 : GoodIn wsX11_weigh (va_wsO RX11 327 RX8 "NamingElders$Child" ⟨"NamingElders$Child", "fit", "(I[I)I"⟩ yX8_fit wsX8_fit) := goodIn_app (goodIn_of _ (by decide +kernel)) ggX11_weigh_X8_fit
set_option maxRecDepth 20000 in
theorem ggX11_weigh_X9_fit : GoodIn wsX11_weigh wsX9_fit := goodIn_r _ [49] (by decide +kernel) (by decide +kernel)
set_option maxRecDepth 20000 in
theorem gX11_weigh_X9_fit_u327X9 : GoodIn wsX11_weigh (va_wsO RX11 327 RX9 "NamingElders$Child" ⟨"NamingElders$Child", "fit", "(I[I)I"⟩ yX9_fit wsX9_fit) := goodIn_app (goodIn_of _ (by decide +kernel)) ggX11_weigh_X9_fit
def fX11_weigh_83  (a1 : Nat) (a2 : Int32) (a3 : Int32) (a4 : Int32) : Nat → Int32 → Int32 → Nat → Int32 → c_G → Option (c_G)
  | 0, _, _, _, _, _ => none
  | n + 1, x2, x4, x5, x6, g => if (12 : Int32) ≤ x6 then (some g) else (c_let (c_si g 3 3 x6) fun g83002 => if c_in (((x2 * (4 : Int32)) + (x6 - x6 / (4 : Int32) * (4 : Int32)))) (24) = true then c_let (c_si g83002 3 7 (g83002.1 (a1 + 10) (((x2 * (4 : Int32)) + (x6 - x6 / (4 : Int32) * (4 : Int32)))).toNatClampNeg)) fun g83004 => if c_in (x4) (6) = true then (fX10_weight g83004 ((g83004.2.2 a1))).bind fun r83006 => if c_isV ((g83004.2.2 a1)) = true then (v_fit g83004 x5 (((g83004.1 (a1 + 1) (x4).toNatClampNeg) + r83006))).bind fun r83009 => if c_in (x6) (12) = true then c_let (c_si g83004 4 (x6).toNatClampNeg r83009) fun g83012 => c_let (x6 + (1 : Int32)) fun v83013 => (fX11_weigh_83 a1 a2 a3 a4 n) x2 x4 x5 v83013 g83012 else none else none else none else none)
set_option maxRecDepth 100000 in
set_option maxHeartbeats 4000000 in
theorem jX11_weigh_83 {p : Program} {l : Launch} {e : Env} {s : State} {m : MethodId} {below : List Frame} {meth : Method} {c : Code} {D : va_G} {tc : Nat → ClassId} {ad : Nat → Nat} {A : Nat → Prop} {E : (Nat → Nat) × (Nat → Nat) × Nat} {a1 : Nat} {a2 : Int32} {a3 : Int32} {a4 : Int32} {g' : c_G} (C : c_C p s m meth c D tc A E RX11 wsX11_weigh cX11_weigh 7 none ([.ref (ad 0), .ref (ad a1), .int a2, .int a3, .int a4] : List Value).toArray) (hD : c_D A ad TC) (hq_a1 : c_isS a1 = true)  : ∀ (n : Nat) (x2 : Int32) (x4 : Int32) (x5 : Nat) (x6 : Int32) (g : c_G), fX11_weigh_83 a1 a2 a3 a4 n x2 x4 x5 x6 g = some g' → ∀ (H : Heap) (locs : List Loc), va_P D vwCl (c_ws tc ad TC g) H → va_S A s.heap H locs → ∀ ls : Array Slot, lv_has ls 7 [(0, .ref (ad 0)), (1, .ref (ad a1)), (2, .int x2), (4, .int x4), (5, .ref (ad x5)), (6, .int x6)] → W p l e (c_rm 2) s m ([.ref (ad 0), .ref (ad a1), .int a2, .int a3, .int a4] : List Value).toArray below meth c H locs 0 0 (MQ below (va_Qv (fun (_ : Unit) => True) (fun _ t => va_P D vwCl (c_ws tc ad TC g') t.heap) A) ([.ref (ad 0), .ref (ad a1), .int a2, .int a3, .int a4] : List Value).toArray s 0 0 A) (F0 m 83 ls []) := by
  obtain ⟨hx, hb, hr, hml, hts, hown, hlk, hK, hE⟩ := id C
  obtain ⟨fa1_0, fa1_1, fa1_2, fa1_3, fa1_4, fa1_5, fa1_6, fa1_7, fa1_8, fa1_9, fa1_10, fa1_11, fa1_12, fa1_13⟩ := c_isSE hq_a1
  intro n
  induction n with
  | zero =>
    intro x2 x4 x5 x6 g hf
    cases hf
  | succ n ih =>
    intro x2 x4 x5 x6 g hf H locs hP hS ls hl
    unfold fX11_weigh_83 at hf
    refine lv_iload hx hb dX11_weigh_83 (lv_at hl 5 rfl) ?_
    refine lv_bipush (v := (12 : Int32)) hx hb dX11_weigh_85 (by decide) ?_
    refine lv_icmp_ge (tgt := 159) hx hb dX11_weigh_87 (by decide) (fun c83001 => ?_) (fun c83001 => ?_)
    · have hf := c_it c83001 hf
      exact c_vret hx hb hr hlk hP hS (Option.some.inj hf) dX11_weigh_159
    · have hf := c_ie c83001 hf
      refine lv_aload_n hx hb dX11_weigh_90 rfl (lv_at hl 0 rfl) ?_
      refine c_get hx hb hts i_X11_weigh_X11 hown hK hP 0 tC0 rfl 9 (by decide) (hts _ (List.mem_of_getElem? (i := 3) rfl)) (fun _ h9 => h9) rfl (v := .ref (ad 3)) rfl dX11_weigh_91 ?_
      refine lv_iconst (v := (3 : Int32)) hx hb dX11_weigh_94 (by decide) ?_
      refine lv_iload hx hb dX11_weigh_95 (lv_at hl 5 rfl) ?_
      obtain ⟨g83002, eg83002, hf⟩ := c_letE hf
      refine c_iast (j := 3) hx hb hK hP hD hS 3 tC3 (by decide) (c_inV (by decide)) eg83002 dX11_weigh_97 (fun H locs hP hS => ?_)
      refine lv_aload_n hx hb dX11_weigh_98 rfl (lv_at hl 0 rfl) ?_
      refine c_get hx hb hts i_X11_weigh_X11 hown hK hP 0 tC0 rfl 9 (by decide) (hts _ (List.mem_of_getElem? (i := 3) rfl)) (fun _ h9 => h9) rfl (v := .ref (ad 3)) rfl dX11_weigh_99 ?_
      refine lv_bipush (v := (7 : Int32)) hx hb dX11_weigh_102 (by decide) ?_
      refine lv_aload_n hx hb dX11_weigh_104 rfl (lv_at hl 1 rfl) ?_
      refine c_get hx hb hts i_X11_weigh_X7 hown hK hP a1 fa1_0 rfl 12 (by decide) (hts _ (List.mem_of_getElem? (i := 6) rfl)) (fun _ h9 => h9) rfl (v := .ref (ad (a1 + 10))) rfl dX11_weigh_105 ?_
      refine lv_iload_n hx hb dX11_weigh_108 rfl (lv_at hl 2 rfl) ?_
      refine lv_iconst (v := (4 : Int32)) hx hb dX11_weigh_109 (by decide) ?_
      refine lv_imul hx hb dX11_weigh_110 ?_
      refine lv_iload hx hb dX11_weigh_111 (lv_at hl 5 rfl) ?_
      refine lv_iconst (v := (4 : Int32)) hx hb dX11_weigh_113 (by decide) ?_
      refine lv_irem hx hb dX11_weigh_114 (by decide) ?_
      refine lv_iadd hx hb dX11_weigh_115 ?_
      obtain ⟨hi83003, hf⟩ := c_gd hf
      refine c_iald (j := (((x2 * (4 : Int32)) + (x6 - x6 / (4 : Int32) * (4 : Int32)))).toNatClampNeg) hx hb hK hP (a1 + 10) fa1_10 rfl (c_inV hi83003) dX11_weigh_116 ?_
      obtain ⟨g83004, eg83004, hf⟩ := c_letE hf
      refine c_iast (j := 7) hx hb hK hP hD hS 3 tC3 (by decide) (c_inV (by decide)) eg83004 dX11_weigh_117 (fun H locs hP hS => ?_)
      refine lv_aload_n hx hb dX11_weigh_118 rfl (lv_at hl 0 rfl) ?_
      refine c_get hx hb hts i_X11_weigh_X11 hown hK hP 0 tC0 rfl 10 (by decide) (hts _ (List.mem_of_getElem? (i := 7) rfl)) (fun _ h9 => h9) rfl (v := .ref (ad 4)) rfl dX11_weigh_119 ?_
      refine lv_iload hx hb dX11_weigh_122 (lv_at hl 5 rfl) ?_
      refine lv_aload hx hb dX11_weigh_124 (lv_at hl 4 rfl) ?_
      refine lv_aload_n hx hb dX11_weigh_126 rfl (lv_at hl 1 rfl) ?_
      refine c_get hx hb hts i_X11_weigh_X7 hown hK hP a1 fa1_0 rfl 0 (by decide) (hts _ (List.mem_of_getElem? (i := 4) rfl)) (fun _ h9 => h9) rfl (v := .ref (ad (a1 + 1))) rfl dX11_weigh_127 ?_
      refine lv_iload hx hb dX11_weigh_130 (lv_at hl 3 rfl) ?_
      obtain ⟨hi83005, hf⟩ := c_gd hf
      refine c_iald (j := (x4).toNatClampNeg) hx hb hK hP (a1 + 1) fa1_1 rfl (c_inV hi83005) dX11_weigh_132 ?_
      refine lv_aload_n hx hb dX11_weigh_133 rfl (lv_at hl 1 rfl) ?_
      refine c_get hx hb hts i_X11_weigh_X7 hown hK hP a1 fa1_0 rfl 16 (by decide) (hts _ (List.mem_of_getElem? (i := 8) rfl)) (fun _ h9 => h9) rfl (v := .ref (ad (g83004.2.2 a1))) rfl dX11_weigh_134 ?_
      refine lv_aload_n hx hb dX11_weigh_137 rfl (lv_at hl 0 rfl) ?_
      refine c_get hx hb hts i_X11_weigh_X11 hown hK hP 0 tC0 rfl 9 (by decide) (hts _ (List.mem_of_getElem? (i := 3) rfl)) (fun _ h9 => h9) rfl (v := .ref (ad 3)) rfl dX11_weigh_138 ?_
      obtain ⟨r83006, hc83007, hf⟩ := c_bd hf
      obtain ⟨hq83008, hf⟩ := c_gd hf
      have hq83008T := c_isVE hq83008
      refine c_goi (va_runV (As := [.ref (ad 3)]) (rest := [.int (g83004.1 (a1 + 1) (x4).toNatClampNeg), .ref (ad x5), .int x6, .ref (ad 4)]) ⟨hx, hb, hml, hown, hts⟩ (kX10_weight hD hc83007) (cwV 1 hts gX11_weigh_X10_weight rfl rfl rfl (by decide +kernel) ⟨Nat.le_of_ble_eq_true rfl, Nat.le_of_ble_eq_true rfl⟩) (c_preV hK hP hE hS hq83008T.1 rfl) rfl rfl hl.1 rfl (lv_room (Nat.le_of_ble_eq_true rfl)) dX11_weigh_141 ⟨Nat.zero_le _, Nat.zero_le _⟩) hS (fun H locs hP hS => ?_)
      refine lv_iadd hx hb dX11_weigh_144 ?_
      refine lv_aload_n hx hb dX11_weigh_145 rfl (lv_at hl 0 rfl) ?_
      refine c_get hx hb hts i_X11_weigh_X11 hown hK hP 0 tC0 rfl 9 (by decide) (hts _ (List.mem_of_getElem? (i := 3) rfl)) (fun _ h9 => h9) rfl (v := .ref (ad 3)) rfl dX11_weigh_146 ?_
      obtain ⟨r83009, hc83010, hf⟩ := c_bd hf
      have hk83014 : ∀ (H : Heap) (locs : List Loc), va_P D vwCl (c_ws tc ad TC g83004) H → va_S A s.heap H locs → W p l e (c_rm 2) s m ([.ref (ad 0), .ref (ad a1), .int a2, .int a3, .int a4] : List Value).toArray below meth c H locs 0 0 (MQ below (va_Qv (fun (_ : Unit) => True) (fun _ t => va_P D vwCl (c_ws tc ad TC g') t.heap) A) ([.ref (ad 0), .ref (ad a1), .int a2, .int a3, .int a4] : List Value).toArray s 0 0 A) (F0 m 152 ls [.int r83009, .int x6, .ref (ad 4)]) := by
        intro H locs hP hS
        obtain ⟨hi83011, hf⟩ := c_gd hf
        obtain ⟨g83012, eg83012, hf⟩ := c_letE hf
        refine c_iast (j := (x6).toNatClampNeg) hx hb hK hP hD hS 4 tC4 rfl (c_inV hi83011) eg83012 dX11_weigh_152 (fun H locs hP hS => ?_)
        obtain ⟨v83013, ev83013, hf⟩ := c_letE hf
        refine lv_iinc (v := v83013) (lv' := [(6, .int v83013), (0, .ref (ad 0)), (1, .ref (ad a1)), (2, .int x2), (4, .int x4), (5, .ref (ad x5))]) hx hb dX11_weigh_153 hl (k := 5) rfl (by rw [ev83013]; rfl) (by decide) rfl (fun ls hl => ?_)
        refine lv_goto (tgt := 83) hx hb dX11_weigh_156 (by decide) ?_
        exact ih x2 x4 x5 v83013 g83012 hf _ _ hP hS _ (lv_sub hl [1, 2, 3, 4, 5, 0] rfl)
      unfold v_fit at hc83010
      by_cases q83015 : x5 = 20
      · have hc83010 := c_it q83015 hc83010
        rw [q83015]
        exact c_goi (va_runV (As := [.int ((g83004.1 (a1 + 1) (x4).toNatClampNeg) + r83006), .ref (ad 3)]) (rest := [.int x6, .ref (ad 4)]) ⟨hx, hb, hml, hown, hts⟩ (kX2_fit (T := TC) (g := g83004) (Option.some.inj hc83010)) (cwV 2 hts gX11_weigh_X2_fit rfl rfl rfl (by decide +kernel) ⟨Nat.le_of_ble_eq_true rfl, Nat.le_of_ble_eq_true rfl⟩) (c_preV hK hP hE hS tC20 rfl) rfl rfl hl.1 rfl (lv_room (Nat.le_of_ble_eq_true rfl)) dX11_weigh_149 ⟨Nat.zero_le _, Nat.zero_le _⟩) hS hk83014
      have hc83010 := c_ie q83015 hc83010
      by_cases q83016 : x5 = 21
      · have hc83010 := c_it q83016 hc83010
        rw [q83016]
        exact c_goi (va_runU (As := [.int ((g83004.1 (a1 + 1) (x4).toNatClampNeg) + r83006), .ref (ad 3)]) (rest := [.int x6, .ref (ad 4)]) ⟨hx, hb, hml, hown, hts⟩ (kX1_fit hD hc83010) (va_cwO 2 hts gX11_weigh_X1_fit_u327X1 rfl rfl rfl (List.mem_of_getElem? (i := 28) rfl) (by decide +kernel) ⟨Nat.le_of_ble_eq_true rfl, Nat.le_of_ble_eq_true rfl⟩) (c_preV hK hP hE hS tC21 rfl) rfl rfl hl.1 rfl (lv_room (Nat.le_of_ble_eq_true rfl)) dX11_weigh_149 ⟨Nat.zero_le _, Nat.zero_le _⟩) hS hk83014
      have hc83010 := c_ie q83016 hc83010
      by_cases q83017 : x5 = 22
      · have hc83010 := c_it q83017 hc83010
        rw [q83017]
        exact c_goi (va_runU (As := [.int ((g83004.1 (a1 + 1) (x4).toNatClampNeg) + r83006), .ref (ad 3)]) (rest := [.int x6, .ref (ad 4)]) ⟨hx, hb, hml, hown, hts⟩ (kX9_fit hD hc83010) (va_cwO 2 hts gX11_weigh_X9_fit_u327X9 rfl rfl rfl (List.mem_of_getElem? (i := 28) rfl) (by decide +kernel) ⟨Nat.le_of_ble_eq_true rfl, Nat.le_of_ble_eq_true rfl⟩) (c_preV hK hP hE hS tC22 rfl) rfl rfl hl.1 rfl (lv_room (Nat.le_of_ble_eq_true rfl)) dX11_weigh_149 ⟨Nat.zero_le _, Nat.zero_le _⟩) hS hk83014
      have hc83010 := c_ie q83017 hc83010
      by_cases q83018 : x5 = 23
      · have hc83010 := c_it q83018 hc83010
        rw [q83018]
        exact c_goi (va_runU (As := [.int ((g83004.1 (a1 + 1) (x4).toNatClampNeg) + r83006), .ref (ad 3)]) (rest := [.int x6, .ref (ad 4)]) ⟨hx, hb, hml, hown, hts⟩ (kX6_fit hD hc83010) (va_cwO 2 hts gX11_weigh_X6_fit_u327X6 rfl rfl rfl (List.mem_of_getElem? (i := 28) rfl) (by decide +kernel) ⟨Nat.le_of_ble_eq_true rfl, Nat.le_of_ble_eq_true rfl⟩) (c_preV hK hP hE hS tC23 rfl) rfl rfl hl.1 rfl (lv_room (Nat.le_of_ble_eq_true rfl)) dX11_weigh_149 ⟨Nat.zero_le _, Nat.zero_le _⟩) hS hk83014
      have hc83010 := c_ie q83018 hc83010
      by_cases q83019 : x5 = 24
      · have hc83010 := c_it q83019 hc83010
        rw [q83019]
        exact c_goi (va_runU (As := [.int ((g83004.1 (a1 + 1) (x4).toNatClampNeg) + r83006), .ref (ad 3)]) (rest := [.int x6, .ref (ad 4)]) ⟨hx, hb, hml, hown, hts⟩ (kX3_fit hD hc83010) (va_cwO 2 hts gX11_weigh_X3_fit_u327X3 rfl rfl rfl (List.mem_of_getElem? (i := 28) rfl) (by decide +kernel) ⟨Nat.le_of_ble_eq_true rfl, Nat.le_of_ble_eq_true rfl⟩) (c_preV hK hP hE hS tC24 rfl) rfl rfl hl.1 rfl (lv_room (Nat.le_of_ble_eq_true rfl)) dX11_weigh_149 ⟨Nat.zero_le _, Nat.zero_le _⟩) hS hk83014
      have hc83010 := c_ie q83019 hc83010
      by_cases q83020 : x5 = 25
      · have hc83010 := c_it q83020 hc83010
        rw [q83020]
        exact c_goi (va_runU (As := [.int ((g83004.1 (a1 + 1) (x4).toNatClampNeg) + r83006), .ref (ad 3)]) (rest := [.int x6, .ref (ad 4)]) ⟨hx, hb, hml, hown, hts⟩ (kX4_fit hD hc83010) (va_cwO 2 hts gX11_weigh_X4_fit_u327X4 rfl rfl rfl (List.mem_of_getElem? (i := 28) rfl) (by decide +kernel) ⟨Nat.le_of_ble_eq_true rfl, Nat.le_of_ble_eq_true rfl⟩) (c_preV hK hP hE hS tC25 rfl) rfl rfl hl.1 rfl (lv_room (Nat.le_of_ble_eq_true rfl)) dX11_weigh_149 ⟨Nat.zero_le _, Nat.zero_le _⟩) hS hk83014
      have hc83010 := c_ie q83020 hc83010
      by_cases q83021 : x5 = 26
      · have hc83010 := c_it q83021 hc83010
        rw [q83021]
        exact c_goi (va_runU (As := [.int ((g83004.1 (a1 + 1) (x4).toNatClampNeg) + r83006), .ref (ad 3)]) (rest := [.int x6, .ref (ad 4)]) ⟨hx, hb, hml, hown, hts⟩ (kX8_fit hD hc83010) (va_cwO 2 hts gX11_weigh_X8_fit_u327X8 rfl rfl rfl (List.mem_of_getElem? (i := 28) rfl) (by decide +kernel) ⟨Nat.le_of_ble_eq_true rfl, Nat.le_of_ble_eq_true rfl⟩) (c_preV hK hP hE hS tC26 rfl) rfl rfl hl.1 rfl (lv_room (Nat.le_of_ble_eq_true rfl)) dX11_weigh_149 ⟨Nat.zero_le _, Nat.zero_le _⟩) hS hk83014
      have hc83010 := c_ie q83021 hc83010
      cases hc83010
def fX11_weigh (g : c_G) (a1 : Nat) (a2 : Int32) (a3 : Int32) (a4 : Int32) : Option (c_G) :=
  if c_isS a1 = true then (if c_in (a2) (6) = true then if c_in ((g.1 (a1 + 5) (a2).toNatClampNeg)) (7) = true then c_let (c_si g 3 0 a2) fun g3 => c_let (c_si g3 3 1 (g3.1 (a1 + 5) (a2).toNatClampNeg)) fun g4 => c_let (c_si g4 3 2 a3) fun g5 => if c_in (a4) (6) = true then c_let (c_si g5 3 4 (g5.1 (a1 + 1) (a4).toNatClampNeg)) fun g7 => c_let (((g7.1 (a1 + 8) (a2).toNatClampNeg) - (g7.1 (a1 + 8) (a2).toNatClampNeg) / (10 : Int32) * (10 : Int32))) fun v8 => c_let (c_si g7 3 5 v8) fun g9 => c_let (c_si g9 3 6 (g9.1 (a1 + 8) (a2).toNatClampNeg)) fun g10 => fX11_weigh_83 a1 a2 a3 a4 c_F a2 a4 ((20 + ((g.1 (a1 + 5) (a2).toNatClampNeg)).toNatClampNeg)) ((0 : Int32)) g10 else none else none else none) else none
set_option maxRecDepth 100000 in
set_option maxHeartbeats 4000000 in
theorem kX11_weigh {l : Launch} {D : va_G} {tc : Nat → ClassId} {ad : Nat → Nat} {A : Nat → Prop} {E : (Nat → Nat) × (Nat → Nat) × Nat} (hD : c_D A ad TC) {a1 : Nat} {a2 : Int32} {a3 : Int32} {a4 : Int32} {g g' : c_G} (hf : fX11_weigh g a1 a2 a3 a4 = some g') : c_Mv l yX11_weigh wsX11_weigh (c_rm 2) D tc ad A E TC ([.ref (ad 0), .ref (ad a1), .int a2, .int a3, .int a4] : List Value) g g' := by
  refine c_ofW (bytes := cX11_weigh) (maxL := 7) (ret := none) (by decide) rfl (Nat.le_of_ble_eq_true rfl) ?_
  intro p e s m below meth c ls C hP hS hl
  unfold fX11_weigh at hf
  obtain ⟨hq_a1, hf⟩ := c_gd hf
  obtain ⟨hx, hb, hr, hml, hts, hown, hlk, hK, hE⟩ := id C
  obtain ⟨fa1_0, fa1_1, fa1_2, fa1_3, fa1_4, fa1_5, fa1_6, fa1_7, fa1_8, fa1_9, fa1_10, fa1_11, fa1_12, fa1_13⟩ := c_isSE hq_a1
  have hl : lv_has ls 7 [(0, .ref (ad 0)), (1, .ref (ad a1)), (2, .int a2), (3, .int a3), (4, .int a4)] := hl
  refine lv_aload_n hx hb dX11_weigh_0 rfl (lv_at hl 0 rfl) ?_
  refine c_get hx hb hts i_X11_weigh_X11 hown hK hP 0 tC0 rfl 0 (by decide) (hts _ (List.mem_of_getElem? (i := 1) rfl)) (fun _ h9 => h9) rfl (v := .ref (ad 19)) rfl dX11_weigh_1 ?_
  refine lv_aload_n hx hb dX11_weigh_4 rfl (lv_at hl 1 rfl) ?_
  refine c_get hx hb hts i_X11_weigh_X7 hown hK hP a1 fa1_0 rfl 7 (by decide) (hts _ (List.mem_of_getElem? (i := 2) rfl)) (fun _ h9 => h9) rfl (v := .ref (ad (a1 + 5))) rfl dX11_weigh_5 ?_
  refine lv_iload_n hx hb dX11_weigh_8 rfl (lv_at hl 2 rfl) ?_
  obtain ⟨hi1, hf⟩ := c_gd hf
  refine c_iald (j := (a2).toNatClampNeg) hx hb hK hP (a1 + 5) fa1_5 rfl (c_inV hi1) dX11_weigh_9 ?_
  obtain ⟨hi2, hf⟩ := c_gd hf
  refine c_aald5 hx hb hK hP 19 tC19 (c_inV hi2) (y := (20 + ((g.1 (a1 + 5) (a2).toNatClampNeg)).toNatClampNeg)) (c_kA (c_iN hi2)) dX11_weigh_10 ?_
  refine lv_astore (lv' := [(5, .ref (ad (20 + ((g.1 (a1 + 5) (a2).toNatClampNeg)).toNatClampNeg))), (0, .ref (ad 0)), (1, .ref (ad a1)), (2, .int a2), (3, .int a3), (4, .int a4)]) hx hb dX11_weigh_11 hl (by decide) rfl (fun ls hl => ?_)
  refine lv_aload_n hx hb dX11_weigh_13 rfl (lv_at hl 1 rfl) ?_
  refine c_get hx hb hts i_X11_weigh_X11 hown hK hP 0 tC0 rfl 9 (by decide) (hts _ (List.mem_of_getElem? (i := 3) rfl)) (fun _ h9 => h9) rfl (v := .ref (ad 3)) rfl dX11_weigh_14 ?_
  refine lv_iconst (v := (0 : Int32)) hx hb dX11_weigh_17 (by decide) ?_
  refine lv_iload_n hx hb dX11_weigh_18 rfl (lv_at hl 3 rfl) ?_
  obtain ⟨g3, eg3, hf⟩ := c_letE hf
  refine c_iast (j := 0) hx hb hK hP hD hS 3 tC3 (by decide) (c_inV (by decide)) eg3 dX11_weigh_19 (fun H locs hP hS => ?_)
  refine lv_aload_n hx hb dX11_weigh_20 rfl (lv_at hl 1 rfl) ?_
  refine c_get hx hb hts i_X11_weigh_X11 hown hK hP 0 tC0 rfl 9 (by decide) (hts _ (List.mem_of_getElem? (i := 3) rfl)) (fun _ h9 => h9) rfl (v := .ref (ad 3)) rfl dX11_weigh_21 ?_
  refine lv_iconst (v := (1 : Int32)) hx hb dX11_weigh_24 (by decide) ?_
  refine lv_aload_n hx hb dX11_weigh_25 rfl (lv_at hl 2 rfl) ?_
  refine c_get hx hb hts i_X11_weigh_X7 hown hK hP a1 fa1_0 rfl 7 (by decide) (hts _ (List.mem_of_getElem? (i := 2) rfl)) (fun _ h9 => h9) rfl (v := .ref (ad (a1 + 5))) rfl dX11_weigh_26 ?_
  refine lv_iload_n hx hb dX11_weigh_29 rfl (lv_at hl 3 rfl) ?_
  refine c_iald (j := (a2).toNatClampNeg) hx hb hK hP (a1 + 5) fa1_5 rfl (c_inV hi1) dX11_weigh_30 ?_
  obtain ⟨g4, eg4, hf⟩ := c_letE hf
  refine c_iast (j := 1) hx hb hK hP hD hS 3 tC3 (by decide) (c_inV (by decide)) eg4 dX11_weigh_31 (fun H locs hP hS => ?_)
  refine lv_aload_n hx hb dX11_weigh_32 rfl (lv_at hl 1 rfl) ?_
  refine c_get hx hb hts i_X11_weigh_X11 hown hK hP 0 tC0 rfl 9 (by decide) (hts _ (List.mem_of_getElem? (i := 3) rfl)) (fun _ h9 => h9) rfl (v := .ref (ad 3)) rfl dX11_weigh_33 ?_
  refine lv_iconst (v := (2 : Int32)) hx hb dX11_weigh_36 (by decide) ?_
  refine lv_iload_n hx hb dX11_weigh_37 rfl (lv_at hl 4 rfl) ?_
  obtain ⟨g5, eg5, hf⟩ := c_letE hf
  refine c_iast (j := 2) hx hb hK hP hD hS 3 tC3 (by decide) (c_inV (by decide)) eg5 dX11_weigh_38 (fun H locs hP hS => ?_)
  refine lv_aload_n hx hb dX11_weigh_39 rfl (lv_at hl 1 rfl) ?_
  refine c_get hx hb hts i_X11_weigh_X11 hown hK hP 0 tC0 rfl 9 (by decide) (hts _ (List.mem_of_getElem? (i := 3) rfl)) (fun _ h9 => h9) rfl (v := .ref (ad 3)) rfl dX11_weigh_40 ?_
  refine lv_iconst (v := (4 : Int32)) hx hb dX11_weigh_43 (by decide) ?_
  refine lv_aload_n hx hb dX11_weigh_44 rfl (lv_at hl 2 rfl) ?_
  refine c_get hx hb hts i_X11_weigh_X7 hown hK hP a1 fa1_0 rfl 0 (by decide) (hts _ (List.mem_of_getElem? (i := 4) rfl)) (fun _ h9 => h9) rfl (v := .ref (ad (a1 + 1))) rfl dX11_weigh_45 ?_
  refine lv_iload hx hb dX11_weigh_48 (lv_at hl 5 rfl) ?_
  obtain ⟨hi6, hf⟩ := c_gd hf
  refine c_iald (j := (a4).toNatClampNeg) hx hb hK hP (a1 + 1) fa1_1 rfl (c_inV hi6) dX11_weigh_50 ?_
  obtain ⟨g7, eg7, hf⟩ := c_letE hf
  refine c_iast (j := 4) hx hb hK hP hD hS 3 tC3 (by decide) (c_inV (by decide)) eg7 dX11_weigh_51 (fun H locs hP hS => ?_)
  refine lv_aload_n hx hb dX11_weigh_52 rfl (lv_at hl 1 rfl) ?_
  refine c_get hx hb hts i_X11_weigh_X11 hown hK hP 0 tC0 rfl 9 (by decide) (hts _ (List.mem_of_getElem? (i := 3) rfl)) (fun _ h9 => h9) rfl (v := .ref (ad 3)) rfl dX11_weigh_53 ?_
  refine lv_iconst (v := (5 : Int32)) hx hb dX11_weigh_56 (by decide) ?_
  refine lv_aload_n hx hb dX11_weigh_57 rfl (lv_at hl 2 rfl) ?_
  refine c_get hx hb hts i_X11_weigh_X7 hown hK hP a1 fa1_0 rfl 10 (by decide) (hts _ (List.mem_of_getElem? (i := 5) rfl)) (fun _ h9 => h9) rfl (v := .ref (ad (a1 + 8))) rfl dX11_weigh_58 ?_
  refine lv_iload_n hx hb dX11_weigh_61 rfl (lv_at hl 3 rfl) ?_
  refine c_iald (j := (a2).toNatClampNeg) hx hb hK hP (a1 + 8) fa1_8 rfl (c_inV hi1) dX11_weigh_62 ?_
  refine lv_bipush (v := (10 : Int32)) hx hb dX11_weigh_63 (by decide) ?_
  refine lv_irem hx hb dX11_weigh_65 (by decide) ?_
  obtain ⟨v8, ev8, hf⟩ := c_letE hf
  refine c_topi ev8 ?_
  obtain ⟨g9, eg9, hf⟩ := c_letE hf
  refine c_iast (j := 5) hx hb hK hP hD hS 3 tC3 (by decide) (c_inV (by decide)) eg9 dX11_weigh_66 (fun H locs hP hS => ?_)
  refine lv_aload_n hx hb dX11_weigh_67 rfl (lv_at hl 1 rfl) ?_
  refine c_get hx hb hts i_X11_weigh_X11 hown hK hP 0 tC0 rfl 9 (by decide) (hts _ (List.mem_of_getElem? (i := 3) rfl)) (fun _ h9 => h9) rfl (v := .ref (ad 3)) rfl dX11_weigh_68 ?_
  refine lv_bipush (v := (6 : Int32)) hx hb dX11_weigh_71 (by decide) ?_
  refine lv_aload_n hx hb dX11_weigh_73 rfl (lv_at hl 2 rfl) ?_
  refine c_get hx hb hts i_X11_weigh_X7 hown hK hP a1 fa1_0 rfl 10 (by decide) (hts _ (List.mem_of_getElem? (i := 5) rfl)) (fun _ h9 => h9) rfl (v := .ref (ad (a1 + 8))) rfl dX11_weigh_74 ?_
  refine lv_iload_n hx hb dX11_weigh_77 rfl (lv_at hl 3 rfl) ?_
  refine c_iald (j := (a2).toNatClampNeg) hx hb hK hP (a1 + 8) fa1_8 rfl (c_inV hi1) dX11_weigh_78 ?_
  obtain ⟨g10, eg10, hf⟩ := c_letE hf
  refine c_iast (j := 6) hx hb hK hP hD hS 3 tC3 (by decide) (c_inV (by decide)) eg10 dX11_weigh_79 (fun H locs hP hS => ?_)
  refine lv_iconst (v := (0 : Int32)) hx hb dX11_weigh_80 (by decide) ?_
  refine lv_istore (lv' := [(6, .int (0 : Int32)), (5, .ref (ad (20 + ((g.1 (a1 + 5) (a2).toNatClampNeg)).toNatClampNeg))), (0, .ref (ad 0)), (1, .ref (ad a1)), (2, .int a2), (3, .int a3), (4, .int a4)]) hx hb dX11_weigh_81 hl (by decide) rfl (fun ls hl => ?_)
  exact jX11_weigh_83 C hD hq_a1 c_F a2 a4 ((20 + ((g.1 (a1 + 5) (a2).toNatClampNeg)).toNatClampNeg)) ((0 : Int32)) g10 hf _ _ hP hS _ (lv_sub hl [2, 3, 4, 6, 1, 0] rfl)
theorem i_X11_wordsOpenTo_X7 : ∀ w ∈ u_ws RX7 TX7 17, w ∈ wsX11_wordsOpenTo := c_inP [100, 101, 102, 103, 104, 105, 106, 107, 108, 109, 110, 111, 112, 113, 114, 115, 116] (by decide +kernel)
theorem i_X11_wordsOpenTo_X11 : ∀ w ∈ u_ws RX11 TX11 19, w ∈ wsX11_wordsOpenTo := c_inP [81, 82, 83, 84, 85, 86, 87, 88, 89, 90, 91, 92, 93, 94, 95, 96, 97, 98, 99] (by decide +kernel)
theorem dX11_wordsOpenTo_0 : decode cX11_wordsOpenTo 0 = .ok (.aload_n 0, 1) := by decide +kernel
theorem dX11_wordsOpenTo_1 : decode cX11_wordsOpenTo 1 = .ok (.getfield 88, 3) := by decide +kernel
theorem dX11_wordsOpenTo_4 : decode cX11_wordsOpenTo 4 = .ok (.iload_n 2, 1) := by decide +kernel
theorem dX11_wordsOpenTo_5 : decode cX11_wordsOpenTo 5 = .ok (.invokevirtual 330, 3) := by decide +kernel
theorem dX11_wordsOpenTo_8 : decode cX11_wordsOpenTo 8 = .ok (.ifCond .ne 5, 3) := by decide +kernel
theorem dX11_wordsOpenTo_11 : decode cX11_wordsOpenTo 11 = .ok (.iconst 0, 1) := by decide +kernel
theorem dX11_wordsOpenTo_12 : decode cX11_wordsOpenTo 12 = .ok (.ireturn, 1) := by decide +kernel
theorem dX11_wordsOpenTo_13 : decode cX11_wordsOpenTo 13 = .ok (.aload_n 0, 1) := by decide +kernel
theorem dX11_wordsOpenTo_14 : decode cX11_wordsOpenTo 14 = .ok (.aload_n 0, 1) := by decide +kernel
theorem dX11_wordsOpenTo_15 : decode cX11_wordsOpenTo 15 = .ok (.getfield 88, 3) := by decide +kernel
theorem dX11_wordsOpenTo_18 : decode cX11_wordsOpenTo 18 = .ok (.iload_n 1, 1) := by decide +kernel
theorem dX11_wordsOpenTo_19 : decode cX11_wordsOpenTo 19 = .ok (.aload_n 0, 1) := by decide +kernel
theorem dX11_wordsOpenTo_20 : decode cX11_wordsOpenTo 20 = .ok (.getfield 88, 3) := by decide +kernel
theorem dX11_wordsOpenTo_23 : decode cX11_wordsOpenTo 23 = .ok (.getfield 125, 3) := by decide +kernel
theorem dX11_wordsOpenTo_26 : decode cX11_wordsOpenTo 26 = .ok (.iload_n 1, 1) := by decide +kernel
theorem dX11_wordsOpenTo_27 : decode cX11_wordsOpenTo 27 = .ok (.iaload, 1) := by decide +kernel
theorem dX11_wordsOpenTo_28 : decode cX11_wordsOpenTo 28 = .ok (.iload_n 2, 1) := by decide +kernel
theorem dX11_wordsOpenTo_29 : decode cX11_wordsOpenTo 29 = .ok (.invokevirtual 167, 3) := by decide +kernel
theorem dX11_wordsOpenTo_32 : decode cX11_wordsOpenTo 32 = .ok (.iconst 0, 1) := by decide +kernel
theorem dX11_wordsOpenTo_33 : decode cX11_wordsOpenTo 33 = .ok (.istore_n 3, 1) := by decide +kernel
theorem dX11_wordsOpenTo_34 : decode cX11_wordsOpenTo 34 = .ok (.iconst 0, 1) := by decide +kernel
theorem dX11_wordsOpenTo_35 : decode cX11_wordsOpenTo 35 = .ok (.istore 4, 2) := by decide +kernel
theorem dX11_wordsOpenTo_37 : decode cX11_wordsOpenTo 37 = .ok (.iload 4, 2) := by decide +kernel
theorem dX11_wordsOpenTo_39 : decode cX11_wordsOpenTo 39 = .ok (.bipush 12, 2) := by decide +kernel
theorem dX11_wordsOpenTo_41 : decode cX11_wordsOpenTo 41 = .ok (.if_icmp .ge 26, 3) := by decide +kernel
theorem dX11_wordsOpenTo_44 : decode cX11_wordsOpenTo 44 = .ok (.aload_n 0, 1) := by decide +kernel
theorem dX11_wordsOpenTo_45 : decode cX11_wordsOpenTo 45 = .ok (.getfield 25, 3) := by decide +kernel
theorem dX11_wordsOpenTo_48 : decode cX11_wordsOpenTo 48 = .ok (.iload 4, 2) := by decide +kernel
theorem dX11_wordsOpenTo_50 : decode cX11_wordsOpenTo 50 = .ok (.iaload, 1) := by decide +kernel
theorem dX11_wordsOpenTo_51 : decode cX11_wordsOpenTo 51 = .ok (.ifCond .le 10, 3) := by decide +kernel
theorem dX11_wordsOpenTo_54 : decode cX11_wordsOpenTo 54 = .ok (.iload_n 3, 1) := by decide +kernel
theorem dX11_wordsOpenTo_55 : decode cX11_wordsOpenTo 55 = .ok (.iconst 1, 1) := by decide +kernel
theorem dX11_wordsOpenTo_56 : decode cX11_wordsOpenTo 56 = .ok (.iload 4, 2) := by decide +kernel
theorem dX11_wordsOpenTo_58 : decode cX11_wordsOpenTo 58 = .ok (.ishl, 1) := by decide +kernel
theorem dX11_wordsOpenTo_59 : decode cX11_wordsOpenTo 59 = .ok (.ior, 1) := by decide +kernel
theorem dX11_wordsOpenTo_60 : decode cX11_wordsOpenTo 60 = .ok (.istore_n 3, 1) := by decide +kernel
theorem dX11_wordsOpenTo_61 : decode cX11_wordsOpenTo 61 = .ok (.iinc 4 1, 3) := by decide +kernel
theorem dX11_wordsOpenTo_64 : decode cX11_wordsOpenTo 64 = .ok (.goto (-27), 3) := by decide +kernel
theorem dX11_wordsOpenTo_67 : decode cX11_wordsOpenTo 67 = .ok (.iload_n 3, 1) := by decide +kernel
theorem dX11_wordsOpenTo_68 : decode cX11_wordsOpenTo 68 = .ok (.aload_n 0, 1) := by decide +kernel
theorem dX11_wordsOpenTo_69 : decode cX11_wordsOpenTo 69 = .ok (.getfield 88, 3) := by decide +kernel
theorem dX11_wordsOpenTo_72 : decode cX11_wordsOpenTo 72 = .ok (.invokevirtual 204, 3) := by decide +kernel
theorem dX11_wordsOpenTo_75 : decode cX11_wordsOpenTo 75 = .ok (.iconst (-1), 1) := by decide +kernel
theorem dX11_wordsOpenTo_76 : decode cX11_wordsOpenTo 76 = .ok (.ixor, 1) := by decide +kernel
theorem dX11_wordsOpenTo_77 : decode cX11_wordsOpenTo 77 = .ok (.iand, 1) := by decide +kernel
theorem dX11_wordsOpenTo_78 : decode cX11_wordsOpenTo 78 = .ok (.ireturn, 1) := by decide +kernel
set_option maxRecDepth 20000 in
theorem ggX11_wordsOpenTo_X7_listens : GoodIn wsX11_wordsOpenTo wsX7_listens := goodIn_r _ [8, 9, 10, 100, 101, 102, 103, 104, 105, 106, 107, 108, 109, 110, 111, 112, 113, 114, 115, 116] (by decide +kernel) (by decide +kernel)
set_option maxRecDepth 20000 in
theorem gX11_wordsOpenTo_X7_listens : GoodIn wsX11_wordsOpenTo (wsV RX11 330 RX7 yX7_listens wsX7_listens) := goodIn_app (goodIn_of _ (by decide +kernel)) ggX11_wordsOpenTo_X7_listens
set_option maxRecDepth 20000 in
theorem ggX11_wordsOpenTo_X11_weigh : GoodIn wsX11_wordsOpenTo wsX11_weigh := goodIn_r _ [15, 16, 17, 18, 19, 20, 21, 3, 22, 23, 24, 25, 26, 27, 28, 29, 30, 31, 32, 33, 34, 35, 36, 37, 38, 39, 40, 41, 42, 43, 44, 45, 46, 47, 48, 49, 50, 51, 52, 53, 54, 55, 56, 57, 58, 59, 60, 61, 62, 63, 64, 65, 66, 67, 68, 69, 70, 71, 72, 73, 74, 75, 81, 82, 83, 84, 85, 86, 87, 88, 89, 90, 91, 92, 93, 94, 95, 96, 97, 98, 99, 100, 101, 102, 103, 104, 105, 106, 107, 108, 109, 110, 111, 112, 113, 114, 115, 116, 117, 118, 119, 120, 121, 122, 123, 124] (by decide +kernel) (by decide +kernel)
set_option maxRecDepth 20000 in
theorem gX11_wordsOpenTo_X11_weigh : GoodIn wsX11_wordsOpenTo (wsV RX11 167 RX11 yX11_weigh wsX11_weigh) := goodIn_app (goodIn_of _ (by decide +kernel)) ggX11_wordsOpenTo_X11_weigh
set_option maxRecDepth 20000 in
theorem ggX11_wordsOpenTo_X7_used : GoodIn wsX11_wordsOpenTo wsX7_used := goodIn_r _ [79, 80, 9, 100, 101, 102, 103, 104, 105, 106, 107, 108, 109, 110, 111, 112, 113, 114, 115, 116] (by decide +kernel) (by decide +kernel)
set_option maxRecDepth 20000 in
theorem gX11_wordsOpenTo_X7_used : GoodIn wsX11_wordsOpenTo (wsV RX11 204 RX7 yX7_used wsX7_used) := goodIn_app (goodIn_of _ (by decide +kernel)) ggX11_wordsOpenTo_X7_used
def fX11_wordsOpenTo_61 (rec37 : Int32 → Int32 → c_G → Option (c_G × Int32)) (a1 : Int32) (a2 : Int32) (x3 : Int32) (x4 : Int32) (g : c_G) : Option (c_G × Int32) :=
  c_let (x4 + (1 : Int32)) fun v61001 => rec37 x3 v61001 g
set_option maxRecDepth 100000 in
set_option maxHeartbeats 4000000 in
theorem jX11_wordsOpenTo_61 {p : Program} {l : Launch} {e : Env} {s : State} {m : MethodId} {below : List Frame} {meth : Method} {c : Code} {D : va_G} {tc : Nat → ClassId} {ad : Nat → Nat} {A : Nat → Prop} {E : (Nat → Nat) × (Nat → Nat) × Nat} {a1 : Int32} {a2 : Int32} {g' : c_G} {r : Int32} (C : c_C p s m meth c D tc A E RX11 wsX11_wordsOpenTo cX11_wordsOpenTo 5 (some .int) ([.ref (ad 0), .int a1, .int a2] : List Value).toArray) (hD : c_D A ad TC) {rec37 : Int32 → Int32 → c_G → Option (c_G × Int32)} (hrec37 : ∀ (x3 : Int32) (x4 : Int32) (g : c_G), rec37 x3 x4 g = some (g', r) → ∀ (H : Heap) (locs : List Loc), va_P D vwCl (c_ws tc ad TC g) H → va_S A s.heap H locs → ∀ ls : Array Slot, lv_has ls 5 [(0, .ref (ad 0)), (3, .int x3), (4, .int x4)] → W p l e (c_rm 3) s m ([.ref (ad 0), .int a1, .int a2] : List Value).toArray below meth c H locs 0 0 (MQ below (va_Qi (fun (x : Int32) (_ : Unit) => x = r) (fun _ t => va_P D vwCl (c_ws tc ad TC g') t.heap) A) ([.ref (ad 0), .int a1, .int a2] : List Value).toArray s 0 0 A) (F0 m 37 ls [])) : ∀ (x3 : Int32) (x4 : Int32) (g : c_G), fX11_wordsOpenTo_61 rec37 a1 a2 x3 x4 g = some (g', r) → ∀ (H : Heap) (locs : List Loc), va_P D vwCl (c_ws tc ad TC g) H → va_S A s.heap H locs → ∀ ls : Array Slot, lv_has ls 5 [(0, .ref (ad 0)), (3, .int x3), (4, .int x4)] → W p l e (c_rm 3) s m ([.ref (ad 0), .int a1, .int a2] : List Value).toArray below meth c H locs 0 0 (MQ below (va_Qi (fun (x : Int32) (_ : Unit) => x = r) (fun _ t => va_P D vwCl (c_ws tc ad TC g') t.heap) A) ([.ref (ad 0), .int a1, .int a2] : List Value).toArray s 0 0 A) (F0 m 61 ls []) := by
  obtain ⟨hx, hb, hr, hml, hts, hown, hlk, hK, hE⟩ := id C
  intro x3 x4 g hf H locs hP hS ls hl
  unfold fX11_wordsOpenTo_61 at hf
  obtain ⟨v61001, ev61001, hf⟩ := c_letE hf
  refine lv_iinc (v := v61001) (lv' := [(4, .int v61001), (0, .ref (ad 0)), (3, .int x3)]) hx hb dX11_wordsOpenTo_61 hl (k := 2) rfl (by rw [ev61001]; rfl) (by decide) rfl (fun ls hl => ?_)
  refine lv_goto (tgt := 37) hx hb dX11_wordsOpenTo_64 (by decide) ?_
  exact hrec37 x3 v61001 g hf _ _ hP hS _ (lv_sub hl [1, 2, 0] rfl)
def fX11_wordsOpenTo_37  (a1 : Int32) (a2 : Int32) : Nat → Int32 → Int32 → c_G → Option (c_G × Int32)
  | 0, _, _, _ => none
  | n + 1, x3, x4, g => if (12 : Int32) ≤ x4 then ((fX7_used g).bind fun r37002 => some (g, (x3 &&& (r37002 ^^^ (-1 : Int32))))) else (if c_in (x4) (12) = true then if (g.1 4 (x4).toNatClampNeg) ≤ 0 then (fX11_wordsOpenTo_61 (fX11_wordsOpenTo_37 a1 a2 n) a1 a2 x3 x4 g) else (c_let ((x3 ||| ((1 : Int32) <<< (x4 &&& 31)))) fun v37006 => fX11_wordsOpenTo_61 (fX11_wordsOpenTo_37 a1 a2 n) a1 a2 v37006 x4 g) else none)
set_option maxRecDepth 100000 in
set_option maxHeartbeats 4000000 in
theorem jX11_wordsOpenTo_37 {p : Program} {l : Launch} {e : Env} {s : State} {m : MethodId} {below : List Frame} {meth : Method} {c : Code} {D : va_G} {tc : Nat → ClassId} {ad : Nat → Nat} {A : Nat → Prop} {E : (Nat → Nat) × (Nat → Nat) × Nat} {a1 : Int32} {a2 : Int32} {g' : c_G} {r : Int32} (C : c_C p s m meth c D tc A E RX11 wsX11_wordsOpenTo cX11_wordsOpenTo 5 (some .int) ([.ref (ad 0), .int a1, .int a2] : List Value).toArray) (hD : c_D A ad TC)  : ∀ (n : Nat) (x3 : Int32) (x4 : Int32) (g : c_G), fX11_wordsOpenTo_37 a1 a2 n x3 x4 g = some (g', r) → ∀ (H : Heap) (locs : List Loc), va_P D vwCl (c_ws tc ad TC g) H → va_S A s.heap H locs → ∀ ls : Array Slot, lv_has ls 5 [(0, .ref (ad 0)), (3, .int x3), (4, .int x4)] → W p l e (c_rm 3) s m ([.ref (ad 0), .int a1, .int a2] : List Value).toArray below meth c H locs 0 0 (MQ below (va_Qi (fun (x : Int32) (_ : Unit) => x = r) (fun _ t => va_P D vwCl (c_ws tc ad TC g') t.heap) A) ([.ref (ad 0), .int a1, .int a2] : List Value).toArray s 0 0 A) (F0 m 37 ls []) := by
  obtain ⟨hx, hb, hr, hml, hts, hown, hlk, hK, hE⟩ := id C
  intro n
  induction n with
  | zero =>
    intro x3 x4 g hf
    cases hf
  | succ n ih =>
    intro x3 x4 g hf H locs hP hS ls hl
    unfold fX11_wordsOpenTo_37 at hf
    refine lv_iload hx hb dX11_wordsOpenTo_37 (lv_at hl 2 rfl) ?_
    refine lv_bipush (v := (12 : Int32)) hx hb dX11_wordsOpenTo_39 (by decide) ?_
    refine lv_icmp_ge (tgt := 67) hx hb dX11_wordsOpenTo_41 (by decide) (fun c37001 => ?_) (fun c37001 => ?_)
    · have hf := c_it c37001 hf
      refine lv_iload_n hx hb dX11_wordsOpenTo_67 rfl (lv_at hl 1 rfl) ?_
      refine lv_aload_n hx hb dX11_wordsOpenTo_68 rfl (lv_at hl 0 rfl) ?_
      refine c_get hx hb hts i_X11_wordsOpenTo_X11 hown hK hP 0 tC0 rfl 5 (by decide) (hts _ (List.mem_of_getElem? (i := 1) rfl)) (fun _ h9 => h9) rfl (v := .ref (ad 55)) rfl dX11_wordsOpenTo_69 ?_
      obtain ⟨r37002, hc37003, hf⟩ := c_bd hf
      refine c_goi (va_runV (As := []) (rest := [.int x3]) ⟨hx, hb, hml, hown, hts⟩ (kX7_used hD hc37003) (cwV 0 hts gX11_wordsOpenTo_X7_used rfl rfl rfl (by decide +kernel) ⟨Nat.le_of_ble_eq_true rfl, Nat.le_of_ble_eq_true rfl⟩) (c_preV hK hP hE hS tC55 rfl) rfl rfl hl.1 rfl (lv_room (Nat.le_of_ble_eq_true rfl)) dX11_wordsOpenTo_72 ⟨Nat.zero_le _, Nat.zero_le _⟩) hS (fun H locs hP hS => ?_)
      refine lv_iconst (v := (-1 : Int32)) hx hb dX11_wordsOpenTo_75 (by decide) ?_
      refine lv_ixor hx hb dX11_wordsOpenTo_76 ?_
      refine lv_iand hx hb dX11_wordsOpenTo_77 ?_
      exact c_iret hx hb hr hlk hP hS rfl (c_inj hf) dX11_wordsOpenTo_78
    · have hf := c_ie c37001 hf
      refine lv_aload_n hx hb dX11_wordsOpenTo_44 rfl (lv_at hl 0 rfl) ?_
      refine c_get hx hb hts i_X11_wordsOpenTo_X11 hown hK hP 0 tC0 rfl 10 (by decide) (hts _ (List.mem_of_getElem? (i := 3) rfl)) (fun _ h9 => h9) rfl (v := .ref (ad 4)) rfl dX11_wordsOpenTo_45 ?_
      refine lv_iload hx hb dX11_wordsOpenTo_48 (lv_at hl 2 rfl) ?_
      obtain ⟨hi37004, hf⟩ := c_gd hf
      refine c_iald (j := (x4).toNatClampNeg) hx hb hK hP 4 tC4 rfl (c_inV hi37004) dX11_wordsOpenTo_50 ?_
      refine lv_if_le (tgt := 61) hx hb dX11_wordsOpenTo_51 (by decide) (fun c37005 => ?_) (fun c37005 => ?_)
      · have hf := c_it c37005 hf
        exact jX11_wordsOpenTo_61 C hD ih x3 x4 g hf _ _ hP hS _ (lv_sub hl [0, 1, 2] rfl)
      · have hf := c_ie c37005 hf
        refine lv_iload_n hx hb dX11_wordsOpenTo_54 rfl (lv_at hl 1 rfl) ?_
        refine lv_iconst (v := (1 : Int32)) hx hb dX11_wordsOpenTo_55 (by decide) ?_
        refine lv_iload hx hb dX11_wordsOpenTo_56 (lv_at hl 2 rfl) ?_
        refine lv_ishl hx hb dX11_wordsOpenTo_58 ?_
        refine lv_ior hx hb dX11_wordsOpenTo_59 ?_
        obtain ⟨v37006, ev37006, hf⟩ := c_letE hf
        refine c_topi ev37006 ?_
        refine lv_istore_n (lv' := [(3, .int v37006), (0, .ref (ad 0)), (4, .int x4)]) hx hb dX11_wordsOpenTo_60 rfl hl (by decide) rfl (fun ls hl => ?_)
        exact jX11_wordsOpenTo_61 C hD ih v37006 x4 g hf _ _ hP hS _ (lv_sub hl [1, 0, 2] rfl)
def fX11_wordsOpenTo (g : c_G) (a1 : Int32) (a2 : Int32) : Option (c_G × Int32) :=
  (fX7_listens g a2).bind fun r1 => if r1 = 0 then (some (g, (0 : Int32))) else (if c_in (a1) (6) = true then (fX11_weigh g 55 a1 ((g.1 61 (a1).toNatClampNeg)) a2).bind fun g6 => fX11_wordsOpenTo_37 a1 a2 c_F ((0 : Int32)) ((0 : Int32)) g6 else none)
set_option maxRecDepth 100000 in
set_option maxHeartbeats 4000000 in
theorem kX11_wordsOpenTo {l : Launch} {D : va_G} {tc : Nat → ClassId} {ad : Nat → Nat} {A : Nat → Prop} {E : (Nat → Nat) × (Nat → Nat) × Nat} (hD : c_D A ad TC) {a1 : Int32} {a2 : Int32} {g g' : c_G} {r : Int32} (hf : fX11_wordsOpenTo g a1 a2 = some (g', r)) : c_Mi l yX11_wordsOpenTo wsX11_wordsOpenTo (c_rm 3) D tc ad A E TC ([.ref (ad 0), .int a1, .int a2] : List Value) g g' r := by
  refine c_ofW (bytes := cX11_wordsOpenTo) (maxL := 5) (ret := (some .int)) (by decide) rfl (Nat.le_of_ble_eq_true rfl) ?_
  intro p e s m below meth c ls C hP hS hl
  unfold fX11_wordsOpenTo at hf
  obtain ⟨hx, hb, hr, hml, hts, hown, hlk, hK, hE⟩ := id C
  have hl : lv_has ls 5 [(0, .ref (ad 0)), (1, .int a1), (2, .int a2)] := hl
  refine lv_aload_n hx hb dX11_wordsOpenTo_0 rfl (lv_at hl 0 rfl) ?_
  refine c_get hx hb hts i_X11_wordsOpenTo_X11 hown hK hP 0 tC0 rfl 5 (by decide) (hts _ (List.mem_of_getElem? (i := 1) rfl)) (fun _ h9 => h9) rfl (v := .ref (ad 55)) rfl dX11_wordsOpenTo_1 ?_
  refine lv_iload_n hx hb dX11_wordsOpenTo_4 rfl (lv_at hl 2 rfl) ?_
  obtain ⟨r1, hc2, hf⟩ := c_bd hf
  refine c_goi (va_runV (As := [.int a2]) (rest := []) ⟨hx, hb, hml, hown, hts⟩ (kX7_listens hD hc2) (cwV 1 hts gX11_wordsOpenTo_X7_listens rfl rfl rfl (by decide +kernel) ⟨Nat.le_of_ble_eq_true rfl, Nat.le_of_ble_eq_true rfl⟩) (c_preV hK hP hE hS tC55 rfl) rfl rfl hl.1 rfl (lv_room (Nat.le_of_ble_eq_true rfl)) dX11_wordsOpenTo_5 ⟨Nat.zero_le _, Nat.zero_le _⟩) hS (fun H locs hP hS => ?_)
  refine lv_if_ne (tgt := 13) hx hb dX11_wordsOpenTo_8 (by decide) (fun c3 => ?_) (fun c3 => ?_)
  · have hf := c_ie c3 hf
    refine lv_aload_n hx hb dX11_wordsOpenTo_13 rfl (lv_at hl 0 rfl) ?_
    refine lv_aload_n hx hb dX11_wordsOpenTo_14 rfl (lv_at hl 0 rfl) ?_
    refine c_get hx hb hts i_X11_wordsOpenTo_X11 hown hK hP 0 tC0 rfl 5 (by decide) (hts _ (List.mem_of_getElem? (i := 1) rfl)) (fun _ h9 => h9) rfl (v := .ref (ad 55)) rfl dX11_wordsOpenTo_15 ?_
    refine lv_iload_n hx hb dX11_wordsOpenTo_18 rfl (lv_at hl 1 rfl) ?_
    refine lv_aload_n hx hb dX11_wordsOpenTo_19 rfl (lv_at hl 0 rfl) ?_
    refine c_get hx hb hts i_X11_wordsOpenTo_X11 hown hK hP 0 tC0 rfl 5 (by decide) (hts _ (List.mem_of_getElem? (i := 1) rfl)) (fun _ h9 => h9) rfl (v := .ref (ad 55)) rfl dX11_wordsOpenTo_20 ?_
    refine c_get hx hb hts i_X11_wordsOpenTo_X7 hown hK hP 55 tC55 rfl 8 (by decide) (hts _ (List.mem_of_getElem? (i := 2) rfl)) (fun _ h9 => h9) rfl (v := .ref (ad 61)) rfl dX11_wordsOpenTo_23 ?_
    refine lv_iload_n hx hb dX11_wordsOpenTo_26 rfl (lv_at hl 1 rfl) ?_
    obtain ⟨hi4, hf⟩ := c_gd hf
    refine c_iald (j := (a1).toNatClampNeg) hx hb hK hP 61 tC61 rfl (c_inV hi4) dX11_wordsOpenTo_27 ?_
    refine lv_iload_n hx hb dX11_wordsOpenTo_28 rfl (lv_at hl 2 rfl) ?_
    obtain ⟨g6, hc5, hf⟩ := c_bd hf
    refine c_gov (va_runV (As := [.ref (ad 55), .int a1, .int (g.1 61 (a1).toNatClampNeg), .int a2]) (rest := []) ⟨hx, hb, hml, hown, hts⟩ (kX11_weigh hD hc5) (cwV 4 hts gX11_wordsOpenTo_X11_weigh rfl rfl rfl (by decide +kernel) ⟨Nat.le_of_ble_eq_true rfl, Nat.le_of_ble_eq_true rfl⟩) (c_preV hK hP hE hS tC0 rfl) rfl rfl hl.1 rfl (lv_room (Nat.le_of_ble_eq_true rfl)) dX11_wordsOpenTo_29 ⟨Nat.zero_le _, Nat.zero_le _⟩) hS (fun H locs hP hS => ?_)
    refine lv_iconst (v := (0 : Int32)) hx hb dX11_wordsOpenTo_32 (by decide) ?_
    refine lv_istore_n (lv' := [(3, .int (0 : Int32)), (0, .ref (ad 0)), (1, .int a1), (2, .int a2)]) hx hb dX11_wordsOpenTo_33 rfl hl (by decide) rfl (fun ls hl => ?_)
    refine lv_iconst (v := (0 : Int32)) hx hb dX11_wordsOpenTo_34 (by decide) ?_
    refine lv_istore (lv' := [(4, .int (0 : Int32)), (3, .int (0 : Int32)), (0, .ref (ad 0)), (1, .int a1), (2, .int a2)]) hx hb dX11_wordsOpenTo_35 hl (by decide) rfl (fun ls hl => ?_)
    exact jX11_wordsOpenTo_37 C hD c_F ((0 : Int32)) ((0 : Int32)) g6 hf _ _ hP hS _ (lv_sub hl [2, 1, 0] rfl)
  · have hf := c_it c3 hf
    refine lv_iconst (v := (0 : Int32)) hx hb dX11_wordsOpenTo_11 (by decide) ?_
    exact c_iret hx hb hr hlk hP hS rfl (c_inj hf) dX11_wordsOpenTo_12
theorem i_X11_aheadOf_X11 : ∀ w ∈ u_ws RX11 TX11 19, w ∈ wsX11_aheadOf := c_inP [2, 3, 4, 5, 6, 7, 8, 9, 10, 11, 12, 13, 14, 15, 16, 17, 18, 19, 20] (by decide +kernel)
theorem dX11_aheadOf_0 : decode cX11_aheadOf 0 = .ok (.iconst 0, 1) := by decide +kernel
theorem dX11_aheadOf_1 : decode cX11_aheadOf 1 = .ok (.istore_n 3, 1) := by decide +kernel
theorem dX11_aheadOf_2 : decode cX11_aheadOf 2 = .ok (.iconst 0, 1) := by decide +kernel
theorem dX11_aheadOf_3 : decode cX11_aheadOf 3 = .ok (.istore 4, 2) := by decide +kernel
theorem dX11_aheadOf_5 : decode cX11_aheadOf 5 = .ok (.iload 4, 2) := by decide +kernel
theorem dX11_aheadOf_7 : decode cX11_aheadOf 7 = .ok (.bipush 12, 2) := by decide +kernel
theorem dX11_aheadOf_9 : decode cX11_aheadOf 9 = .ok (.if_icmp .ge 54, 3) := by decide +kernel
theorem dX11_aheadOf_12 : decode cX11_aheadOf 12 = .ok (.aload_n 0, 1) := by decide +kernel
theorem dX11_aheadOf_13 : decode cX11_aheadOf 13 = .ok (.getfield 25, 3) := by decide +kernel
theorem dX11_aheadOf_16 : decode cX11_aheadOf 16 = .ok (.iload 4, 2) := by decide +kernel
theorem dX11_aheadOf_18 : decode cX11_aheadOf 18 = .ok (.iaload, 1) := by decide +kernel
theorem dX11_aheadOf_19 : decode cX11_aheadOf 19 = .ok (.aload_n 0, 1) := by decide +kernel
theorem dX11_aheadOf_20 : decode cX11_aheadOf 20 = .ok (.getfield 25, 3) := by decide +kernel
theorem dX11_aheadOf_23 : decode cX11_aheadOf 23 = .ok (.iload_n 1, 1) := by decide +kernel
theorem dX11_aheadOf_24 : decode cX11_aheadOf 24 = .ok (.iaload, 1) := by decide +kernel
theorem dX11_aheadOf_25 : decode cX11_aheadOf 25 = .ok (.if_icmp .gt 25, 3) := by decide +kernel
theorem dX11_aheadOf_28 : decode cX11_aheadOf 28 = .ok (.aload_n 0, 1) := by decide +kernel
theorem dX11_aheadOf_29 : decode cX11_aheadOf 29 = .ok (.getfield 25, 3) := by decide +kernel
theorem dX11_aheadOf_32 : decode cX11_aheadOf 32 = .ok (.iload 4, 2) := by decide +kernel
theorem dX11_aheadOf_34 : decode cX11_aheadOf 34 = .ok (.iaload, 1) := by decide +kernel
theorem dX11_aheadOf_35 : decode cX11_aheadOf 35 = .ok (.aload_n 0, 1) := by decide +kernel
theorem dX11_aheadOf_36 : decode cX11_aheadOf 36 = .ok (.getfield 25, 3) := by decide +kernel
theorem dX11_aheadOf_39 : decode cX11_aheadOf 39 = .ok (.iload_n 1, 1) := by decide +kernel
theorem dX11_aheadOf_40 : decode cX11_aheadOf 40 = .ok (.iaload, 1) := by decide +kernel
theorem dX11_aheadOf_41 : decode cX11_aheadOf 41 = .ok (.if_icmp .ne 16, 3) := by decide +kernel
theorem dX11_aheadOf_44 : decode cX11_aheadOf 44 = .ok (.iload 4, 2) := by decide +kernel
theorem dX11_aheadOf_46 : decode cX11_aheadOf 46 = .ok (.iload_n 1, 1) := by decide +kernel
theorem dX11_aheadOf_47 : decode cX11_aheadOf 47 = .ok (.if_icmp .ge 10, 3) := by decide +kernel
theorem dX11_aheadOf_50 : decode cX11_aheadOf 50 = .ok (.iload_n 3, 1) := by decide +kernel
theorem dX11_aheadOf_51 : decode cX11_aheadOf 51 = .ok (.iconst 1, 1) := by decide +kernel
theorem dX11_aheadOf_52 : decode cX11_aheadOf 52 = .ok (.iload 4, 2) := by decide +kernel
theorem dX11_aheadOf_54 : decode cX11_aheadOf 54 = .ok (.ishl, 1) := by decide +kernel
theorem dX11_aheadOf_55 : decode cX11_aheadOf 55 = .ok (.ior, 1) := by decide +kernel
theorem dX11_aheadOf_56 : decode cX11_aheadOf 56 = .ok (.istore_n 3, 1) := by decide +kernel
theorem dX11_aheadOf_57 : decode cX11_aheadOf 57 = .ok (.iinc 4 1, 3) := by decide +kernel
theorem dX11_aheadOf_60 : decode cX11_aheadOf 60 = .ok (.goto (-55), 3) := by decide +kernel
theorem dX11_aheadOf_63 : decode cX11_aheadOf 63 = .ok (.iload_n 3, 1) := by decide +kernel
theorem dX11_aheadOf_64 : decode cX11_aheadOf 64 = .ok (.iload_n 2, 1) := by decide +kernel
theorem dX11_aheadOf_65 : decode cX11_aheadOf 65 = .ok (.iand, 1) := by decide +kernel
theorem dX11_aheadOf_66 : decode cX11_aheadOf 66 = .ok (.ireturn, 1) := by decide +kernel
def fX11_aheadOf_57 (rec5 : Int32 → Int32 → Int32 → Int32 → c_G → Option (Int32)) (a1 : Int32) (a2 : Int32) (x1 : Int32) (x2 : Int32) (x3 : Int32) (x4 : Int32) (g : c_G) : Option (Int32) :=
  c_let (x4 + (1 : Int32)) fun v57001 => rec5 x1 x2 x3 v57001 g
set_option maxRecDepth 100000 in
set_option maxHeartbeats 4000000 in
theorem jX11_aheadOf_57 {p : Program} {l : Launch} {e : Env} {s : State} {m : MethodId} {below : List Frame} {meth : Method} {c : Code} {D : va_G} {tc : Nat → ClassId} {ad : Nat → Nat} {A : Nat → Prop} {E : (Nat → Nat) × (Nat → Nat) × Nat} {a1 : Int32} {a2 : Int32} {r : Int32} (C : c_C p s m meth c D tc A E RX11 wsX11_aheadOf cX11_aheadOf 5 (some .int) ([.ref (ad 0), .int a1, .int a2] : List Value).toArray) (hD : c_D A ad TC) {rec5 : Int32 → Int32 → Int32 → Int32 → c_G → Option (Int32)} (hrec5 : ∀ (x1 : Int32) (x2 : Int32) (x3 : Int32) (x4 : Int32) (g : c_G), rec5 x1 x2 x3 x4 g = some r → ∀ (H : Heap) (locs : List Loc), va_P D vwCl (c_ws tc ad TC g) H → va_S A s.heap H locs → ∀ ls : Array Slot, lv_has ls 5 [(0, .ref (ad 0)), (1, .int x1), (2, .int x2), (3, .int x3), (4, .int x4)] → W p l e (c_rm 0) s m ([.ref (ad 0), .int a1, .int a2] : List Value).toArray below meth c H locs 0 0 (MQ below (va_Qi (fun (x : Int32) (_ : Unit) => x = r) (fun _ t => va_P D vwCl (c_ws tc ad TC g) t.heap) A) ([.ref (ad 0), .int a1, .int a2] : List Value).toArray s 0 0 A) (F0 m 5 ls [])) : ∀ (x1 : Int32) (x2 : Int32) (x3 : Int32) (x4 : Int32) (g : c_G), fX11_aheadOf_57 rec5 a1 a2 x1 x2 x3 x4 g = some r → ∀ (H : Heap) (locs : List Loc), va_P D vwCl (c_ws tc ad TC g) H → va_S A s.heap H locs → ∀ ls : Array Slot, lv_has ls 5 [(0, .ref (ad 0)), (1, .int x1), (2, .int x2), (3, .int x3), (4, .int x4)] → W p l e (c_rm 0) s m ([.ref (ad 0), .int a1, .int a2] : List Value).toArray below meth c H locs 0 0 (MQ below (va_Qi (fun (x : Int32) (_ : Unit) => x = r) (fun _ t => va_P D vwCl (c_ws tc ad TC g) t.heap) A) ([.ref (ad 0), .int a1, .int a2] : List Value).toArray s 0 0 A) (F0 m 57 ls []) := by
  obtain ⟨hx, hb, hr, hml, hts, hown, hlk, hK, hE⟩ := id C
  intro x1 x2 x3 x4 g hf H locs hP hS ls hl
  unfold fX11_aheadOf_57 at hf
  obtain ⟨v57001, ev57001, hf⟩ := c_letE hf
  refine lv_iinc (v := v57001) (lv' := [(4, .int v57001), (0, .ref (ad 0)), (1, .int x1), (2, .int x2), (3, .int x3)]) hx hb dX11_aheadOf_57 hl (k := 4) rfl (by rw [ev57001]; rfl) (by decide) rfl (fun ls hl => ?_)
  refine lv_goto (tgt := 5) hx hb dX11_aheadOf_60 (by decide) ?_
  exact hrec5 x1 x2 x3 v57001 g hf _ _ hP hS _ (lv_sub hl [1, 2, 3, 4, 0] rfl)
def fX11_aheadOf_50 (rec5 : Int32 → Int32 → Int32 → Int32 → c_G → Option (Int32)) (a1 : Int32) (a2 : Int32) (x1 : Int32) (x2 : Int32) (x3 : Int32) (x4 : Int32) (g : c_G) : Option (Int32) :=
  c_let ((x3 ||| ((1 : Int32) <<< (x4 &&& 31)))) fun v50001 => fX11_aheadOf_57 rec5 a1 a2 x1 x2 v50001 x4 g
set_option maxRecDepth 100000 in
set_option maxHeartbeats 4000000 in
theorem jX11_aheadOf_50 {p : Program} {l : Launch} {e : Env} {s : State} {m : MethodId} {below : List Frame} {meth : Method} {c : Code} {D : va_G} {tc : Nat → ClassId} {ad : Nat → Nat} {A : Nat → Prop} {E : (Nat → Nat) × (Nat → Nat) × Nat} {a1 : Int32} {a2 : Int32} {r : Int32} (C : c_C p s m meth c D tc A E RX11 wsX11_aheadOf cX11_aheadOf 5 (some .int) ([.ref (ad 0), .int a1, .int a2] : List Value).toArray) (hD : c_D A ad TC) {rec5 : Int32 → Int32 → Int32 → Int32 → c_G → Option (Int32)} (hrec5 : ∀ (x1 : Int32) (x2 : Int32) (x3 : Int32) (x4 : Int32) (g : c_G), rec5 x1 x2 x3 x4 g = some r → ∀ (H : Heap) (locs : List Loc), va_P D vwCl (c_ws tc ad TC g) H → va_S A s.heap H locs → ∀ ls : Array Slot, lv_has ls 5 [(0, .ref (ad 0)), (1, .int x1), (2, .int x2), (3, .int x3), (4, .int x4)] → W p l e (c_rm 0) s m ([.ref (ad 0), .int a1, .int a2] : List Value).toArray below meth c H locs 0 0 (MQ below (va_Qi (fun (x : Int32) (_ : Unit) => x = r) (fun _ t => va_P D vwCl (c_ws tc ad TC g) t.heap) A) ([.ref (ad 0), .int a1, .int a2] : List Value).toArray s 0 0 A) (F0 m 5 ls [])) : ∀ (x1 : Int32) (x2 : Int32) (x3 : Int32) (x4 : Int32) (g : c_G), fX11_aheadOf_50 rec5 a1 a2 x1 x2 x3 x4 g = some r → ∀ (H : Heap) (locs : List Loc), va_P D vwCl (c_ws tc ad TC g) H → va_S A s.heap H locs → ∀ ls : Array Slot, lv_has ls 5 [(0, .ref (ad 0)), (1, .int x1), (2, .int x2), (3, .int x3), (4, .int x4)] → W p l e (c_rm 0) s m ([.ref (ad 0), .int a1, .int a2] : List Value).toArray below meth c H locs 0 0 (MQ below (va_Qi (fun (x : Int32) (_ : Unit) => x = r) (fun _ t => va_P D vwCl (c_ws tc ad TC g) t.heap) A) ([.ref (ad 0), .int a1, .int a2] : List Value).toArray s 0 0 A) (F0 m 50 ls []) := by
  obtain ⟨hx, hb, hr, hml, hts, hown, hlk, hK, hE⟩ := id C
  intro x1 x2 x3 x4 g hf H locs hP hS ls hl
  unfold fX11_aheadOf_50 at hf
  refine lv_iload_n hx hb dX11_aheadOf_50 rfl (lv_at hl 3 rfl) ?_
  refine lv_iconst (v := (1 : Int32)) hx hb dX11_aheadOf_51 (by decide) ?_
  refine lv_iload hx hb dX11_aheadOf_52 (lv_at hl 4 rfl) ?_
  refine lv_ishl hx hb dX11_aheadOf_54 ?_
  refine lv_ior hx hb dX11_aheadOf_55 ?_
  obtain ⟨v50001, ev50001, hf⟩ := c_letE hf
  refine c_topi ev50001 ?_
  refine lv_istore_n (lv' := [(3, .int v50001), (0, .ref (ad 0)), (1, .int x1), (2, .int x2), (4, .int x4)]) hx hb dX11_aheadOf_56 rfl hl (by decide) rfl (fun ls hl => ?_)
  exact jX11_aheadOf_57 C hD hrec5 x1 x2 v50001 x4 g hf _ _ hP hS _ (lv_sub hl [1, 2, 3, 0, 4] rfl)
def fX11_aheadOf_5  (a1 : Int32) (a2 : Int32) : Nat → Int32 → Int32 → Int32 → Int32 → c_G → Option (Int32)
  | 0, _, _, _, _, _ => none
  | n + 1, x1, x2, x3, x4, g => if (12 : Int32) ≤ x4 then (some (x3 &&& x2)) else (if c_in (x4) (12) = true then if c_in (x1) (12) = true then if (g.1 4 (x1).toNatClampNeg) < (g.1 4 (x4).toNatClampNeg) then (fX11_aheadOf_50 (fX11_aheadOf_5 a1 a2 n) a1 a2 x1 x2 x3 x4 g) else (if (g.1 4 (x4).toNatClampNeg) = (g.1 4 (x1).toNatClampNeg) then (if x1 ≤ x4 then (fX11_aheadOf_57 (fX11_aheadOf_5 a1 a2 n) a1 a2 x1 x2 x3 x4 g) else (fX11_aheadOf_50 (fX11_aheadOf_5 a1 a2 n) a1 a2 x1 x2 x3 x4 g)) else (fX11_aheadOf_57 (fX11_aheadOf_5 a1 a2 n) a1 a2 x1 x2 x3 x4 g)) else none else none)
set_option maxRecDepth 100000 in
set_option maxHeartbeats 4000000 in
theorem jX11_aheadOf_5 {p : Program} {l : Launch} {e : Env} {s : State} {m : MethodId} {below : List Frame} {meth : Method} {c : Code} {D : va_G} {tc : Nat → ClassId} {ad : Nat → Nat} {A : Nat → Prop} {E : (Nat → Nat) × (Nat → Nat) × Nat} {a1 : Int32} {a2 : Int32} {r : Int32} (C : c_C p s m meth c D tc A E RX11 wsX11_aheadOf cX11_aheadOf 5 (some .int) ([.ref (ad 0), .int a1, .int a2] : List Value).toArray) (hD : c_D A ad TC)  : ∀ (n : Nat) (x1 : Int32) (x2 : Int32) (x3 : Int32) (x4 : Int32) (g : c_G), fX11_aheadOf_5 a1 a2 n x1 x2 x3 x4 g = some r → ∀ (H : Heap) (locs : List Loc), va_P D vwCl (c_ws tc ad TC g) H → va_S A s.heap H locs → ∀ ls : Array Slot, lv_has ls 5 [(0, .ref (ad 0)), (1, .int x1), (2, .int x2), (3, .int x3), (4, .int x4)] → W p l e (c_rm 0) s m ([.ref (ad 0), .int a1, .int a2] : List Value).toArray below meth c H locs 0 0 (MQ below (va_Qi (fun (x : Int32) (_ : Unit) => x = r) (fun _ t => va_P D vwCl (c_ws tc ad TC g) t.heap) A) ([.ref (ad 0), .int a1, .int a2] : List Value).toArray s 0 0 A) (F0 m 5 ls []) := by
  obtain ⟨hx, hb, hr, hml, hts, hown, hlk, hK, hE⟩ := id C
  intro n
  induction n with
  | zero =>
    intro x1 x2 x3 x4 g hf
    cases hf
  | succ n ih =>
    intro x1 x2 x3 x4 g hf H locs hP hS ls hl
    unfold fX11_aheadOf_5 at hf
    refine lv_iload hx hb dX11_aheadOf_5 (lv_at hl 4 rfl) ?_
    refine lv_bipush (v := (12 : Int32)) hx hb dX11_aheadOf_7 (by decide) ?_
    refine lv_icmp_ge (tgt := 63) hx hb dX11_aheadOf_9 (by decide) (fun c5001 => ?_) (fun c5001 => ?_)
    · have hf := c_it c5001 hf
      refine lv_iload_n hx hb dX11_aheadOf_63 rfl (lv_at hl 3 rfl) ?_
      refine lv_iload_n hx hb dX11_aheadOf_64 rfl (lv_at hl 2 rfl) ?_
      refine lv_iand hx hb dX11_aheadOf_65 ?_
      exact c_iret hx hb hr hlk hP hS rfl ⟨rfl, Option.some.inj hf⟩ dX11_aheadOf_66
    · have hf := c_ie c5001 hf
      refine lv_aload_n hx hb dX11_aheadOf_12 rfl (lv_at hl 0 rfl) ?_
      refine c_get hx hb hts i_X11_aheadOf_X11 hown hK hP 0 tC0 rfl 10 (by decide) (hts _ (List.mem_of_getElem? (i := 1) rfl)) (fun _ h9 => h9) rfl (v := .ref (ad 4)) rfl dX11_aheadOf_13 ?_
      refine lv_iload hx hb dX11_aheadOf_16 (lv_at hl 4 rfl) ?_
      obtain ⟨hi5002, hf⟩ := c_gd hf
      refine c_iald (j := (x4).toNatClampNeg) hx hb hK hP 4 tC4 rfl (c_inV hi5002) dX11_aheadOf_18 ?_
      refine lv_aload_n hx hb dX11_aheadOf_19 rfl (lv_at hl 0 rfl) ?_
      refine c_get hx hb hts i_X11_aheadOf_X11 hown hK hP 0 tC0 rfl 10 (by decide) (hts _ (List.mem_of_getElem? (i := 1) rfl)) (fun _ h9 => h9) rfl (v := .ref (ad 4)) rfl dX11_aheadOf_20 ?_
      refine lv_iload_n hx hb dX11_aheadOf_23 rfl (lv_at hl 1 rfl) ?_
      obtain ⟨hi5003, hf⟩ := c_gd hf
      refine c_iald (j := (x1).toNatClampNeg) hx hb hK hP 4 tC4 rfl (c_inV hi5003) dX11_aheadOf_24 ?_
      refine lv_icmp_gt (tgt := 50) hx hb dX11_aheadOf_25 (by decide) (fun c5004 => ?_) (fun c5004 => ?_)
      · have hf := c_it c5004 hf
        exact jX11_aheadOf_50 C hD ih x1 x2 x3 x4 g hf _ _ hP hS _ (lv_sub hl [0, 1, 2, 3, 4] rfl)
      · have hf := c_ie c5004 hf
        refine lv_aload_n hx hb dX11_aheadOf_28 rfl (lv_at hl 0 rfl) ?_
        refine c_get hx hb hts i_X11_aheadOf_X11 hown hK hP 0 tC0 rfl 10 (by decide) (hts _ (List.mem_of_getElem? (i := 1) rfl)) (fun _ h9 => h9) rfl (v := .ref (ad 4)) rfl dX11_aheadOf_29 ?_
        refine lv_iload hx hb dX11_aheadOf_32 (lv_at hl 4 rfl) ?_
        refine c_iald (j := (x4).toNatClampNeg) hx hb hK hP 4 tC4 rfl (c_inV hi5002) dX11_aheadOf_34 ?_
        refine lv_aload_n hx hb dX11_aheadOf_35 rfl (lv_at hl 0 rfl) ?_
        refine c_get hx hb hts i_X11_aheadOf_X11 hown hK hP 0 tC0 rfl 10 (by decide) (hts _ (List.mem_of_getElem? (i := 1) rfl)) (fun _ h9 => h9) rfl (v := .ref (ad 4)) rfl dX11_aheadOf_36 ?_
        refine lv_iload_n hx hb dX11_aheadOf_39 rfl (lv_at hl 1 rfl) ?_
        refine c_iald (j := (x1).toNatClampNeg) hx hb hK hP 4 tC4 rfl (c_inV hi5003) dX11_aheadOf_40 ?_
        refine lv_icmp_ne (tgt := 57) hx hb dX11_aheadOf_41 (by decide) (fun c5005 => ?_) (fun c5005 => ?_)
        · have hf := c_ie c5005 hf
          exact jX11_aheadOf_57 C hD ih x1 x2 x3 x4 g hf _ _ hP hS _ (lv_sub hl [0, 1, 2, 3, 4] rfl)
        · have hf := c_it c5005 hf
          refine lv_iload hx hb dX11_aheadOf_44 (lv_at hl 4 rfl) ?_
          refine lv_iload_n hx hb dX11_aheadOf_46 rfl (lv_at hl 1 rfl) ?_
          refine lv_icmp_ge (tgt := 57) hx hb dX11_aheadOf_47 (by decide) (fun c5006 => ?_) (fun c5006 => ?_)
          · have hf := c_it c5006 hf
            exact jX11_aheadOf_57 C hD ih x1 x2 x3 x4 g hf _ _ hP hS _ (lv_sub hl [0, 1, 2, 3, 4] rfl)
          · have hf := c_ie c5006 hf
            exact jX11_aheadOf_50 C hD ih x1 x2 x3 x4 g hf _ _ hP hS _ (lv_sub hl [0, 1, 2, 3, 4] rfl)
def fX11_aheadOf (g : c_G) (a1 : Int32) (a2 : Int32) : Option (Int32) :=
  fX11_aheadOf_5 a1 a2 c_F a1 a2 ((0 : Int32)) ((0 : Int32)) g
set_option maxRecDepth 100000 in
set_option maxHeartbeats 4000000 in
theorem kX11_aheadOf {l : Launch} {D : va_G} {tc : Nat → ClassId} {ad : Nat → Nat} {A : Nat → Prop} {E : (Nat → Nat) × (Nat → Nat) × Nat} (hD : c_D A ad TC) {a1 : Int32} {a2 : Int32} {g : c_G} {r : Int32} (hf : fX11_aheadOf g a1 a2 = some r) : c_Mi l yX11_aheadOf wsX11_aheadOf (c_rm 0) D tc ad A E TC ([.ref (ad 0), .int a1, .int a2] : List Value) g g r := by
  refine c_ofW (bytes := cX11_aheadOf) (maxL := 5) (ret := (some .int)) (by decide) rfl (Nat.le_of_ble_eq_true rfl) ?_
  intro p e s m below meth c ls C hP hS hl
  unfold fX11_aheadOf at hf
  obtain ⟨hx, hb, hr, hml, hts, hown, hlk, hK, hE⟩ := id C
  have hl : lv_has ls 5 [(0, .ref (ad 0)), (1, .int a1), (2, .int a2)] := hl
  refine lv_iconst (v := (0 : Int32)) hx hb dX11_aheadOf_0 (by decide) ?_
  refine lv_istore_n (lv' := [(3, .int (0 : Int32)), (0, .ref (ad 0)), (1, .int a1), (2, .int a2)]) hx hb dX11_aheadOf_1 rfl hl (by decide) rfl (fun ls hl => ?_)
  refine lv_iconst (v := (0 : Int32)) hx hb dX11_aheadOf_2 (by decide) ?_
  refine lv_istore (lv' := [(4, .int (0 : Int32)), (3, .int (0 : Int32)), (0, .ref (ad 0)), (1, .int a1), (2, .int a2)]) hx hb dX11_aheadOf_3 hl (by decide) rfl (fun ls hl => ?_)
  exact jX11_aheadOf_5 C hD c_F a1 a2 ((0 : Int32)) ((0 : Int32)) g hf _ _ hP hS _ (lv_sub hl [2, 3, 4, 1, 0] rfl)
theorem i_X11_knew_X5 : ∀ w ∈ u_ws RX5 TX5 4, w ∈ wsX11_knew := c_inP [137, 138, 139, 140] (by decide +kernel)
theorem i_X11_knew_X7 : ∀ w ∈ u_ws RX7 TX7 17, w ∈ wsX11_knew := c_inP [120, 121, 122, 123, 124, 125, 126, 127, 128, 129, 130, 131, 132, 133, 134, 135, 136] (by decide +kernel)
theorem i_X11_knew_X11 : ∀ w ∈ u_ws RX11 TX11 19, w ∈ wsX11_knew := c_inP [101, 102, 103, 104, 105, 106, 107, 108, 109, 110, 111, 112, 113, 114, 115, 116, 117, 118, 119] (by decide +kernel)
theorem dX11_knew_0 : decode cX11_knew 0 = .ok (.iconst 0, 1) := by decide +kernel
theorem dX11_knew_1 : decode cX11_knew 1 = .ok (.istore_n 3, 1) := by decide +kernel
theorem dX11_knew_2 : decode cX11_knew 2 = .ok (.iconst 0, 1) := by decide +kernel
theorem dX11_knew_3 : decode cX11_knew 3 = .ok (.istore 4, 2) := by decide +kernel
theorem dX11_knew_5 : decode cX11_knew 5 = .ok (.iconst 0, 1) := by decide +kernel
theorem dX11_knew_6 : decode cX11_knew 6 = .ok (.istore 5, 2) := by decide +kernel
theorem dX11_knew_8 : decode cX11_knew 8 = .ok (.iload 5, 2) := by decide +kernel
theorem dX11_knew_10 : decode cX11_knew 10 = .ok (.aload_n 0, 1) := by decide +kernel
theorem dX11_knew_11 : decode cX11_knew 11 = .ok (.getfield 88, 3) := by decide +kernel
theorem dX11_knew_14 : decode cX11_knew 14 = .ok (.getfield 233, 3) := by decide +kernel
theorem dX11_knew_17 : decode cX11_knew 17 = .ok (.getfield 267, 3) := by decide +kernel
theorem dX11_knew_20 : decode cX11_knew 20 = .ok (.if_icmp .ge 119, 3) := by decide +kernel
theorem dX11_knew_23 : decode cX11_knew 23 = .ok (.aload_n 0, 1) := by decide +kernel
theorem dX11_knew_24 : decode cX11_knew 24 = .ok (.getfield 88, 3) := by decide +kernel
theorem dX11_knew_27 : decode cX11_knew 27 = .ok (.getfield 233, 3) := by decide +kernel
theorem dX11_knew_30 : decode cX11_knew 30 = .ok (.getfield 273, 3) := by decide +kernel
theorem dX11_knew_33 : decode cX11_knew 33 = .ok (.iload 5, 2) := by decide +kernel
theorem dX11_knew_35 : decode cX11_knew 35 = .ok (.iaload, 1) := by decide +kernel
theorem dX11_knew_36 : decode cX11_knew 36 = .ok (.iload_n 1, 1) := by decide +kernel
theorem dX11_knew_37 : decode cX11_knew 37 = .ok (.if_icmp .eq 6, 3) := by decide +kernel
theorem dX11_knew_40 : decode cX11_knew 40 = .ok (.goto 93, 3) := by decide +kernel
theorem dX11_knew_43 : decode cX11_knew 43 = .ok (.aload_n 0, 1) := by decide +kernel
theorem dX11_knew_44 : decode cX11_knew 44 = .ok (.getfield 88, 3) := by decide +kernel
theorem dX11_knew_47 : decode cX11_knew 47 = .ok (.getfield 233, 3) := by decide +kernel
theorem dX11_knew_50 : decode cX11_knew 50 = .ok (.getfield 348, 3) := by decide +kernel
theorem dX11_knew_53 : decode cX11_knew 53 = .ok (.iload 5, 2) := by decide +kernel
theorem dX11_knew_55 : decode cX11_knew 55 = .ok (.iaload, 1) := by decide +kernel
theorem dX11_knew_56 : decode cX11_knew 56 = .ok (.istore 6, 2) := by decide +kernel
theorem dX11_knew_58 : decode cX11_knew 58 = .ok (.aload_n 0, 1) := by decide +kernel
theorem dX11_knew_59 : decode cX11_knew 59 = .ok (.iload_n 1, 1) := by decide +kernel
theorem dX11_knew_60 : decode cX11_knew 60 = .ok (.aload_n 0, 1) := by decide +kernel
theorem dX11_knew_61 : decode cX11_knew 61 = .ok (.getfield 88, 3) := by decide +kernel
theorem dX11_knew_64 : decode cX11_knew 64 = .ok (.getfield 233, 3) := by decide +kernel
theorem dX11_knew_67 : decode cX11_knew 67 = .ok (.getfield 270, 3) := by decide +kernel
theorem dX11_knew_70 : decode cX11_knew 70 = .ok (.iload 5, 2) := by decide +kernel
theorem dX11_knew_72 : decode cX11_knew 72 = .ok (.iaload, 1) := by decide +kernel
theorem dX11_knew_73 : decode cX11_knew 73 = .ok (.invokevirtual 351, 3) := by decide +kernel
theorem dX11_knew_76 : decode cX11_knew 76 = .ok (.istore 7, 2) := by decide +kernel
theorem dX11_knew_78 : decode cX11_knew 78 = .ok (.iload 6, 2) := by decide +kernel
theorem dX11_knew_80 : decode cX11_knew 80 = .ok (.bipush (-5), 2) := by decide +kernel
theorem dX11_knew_82 : decode cX11_knew 82 = .ok (.if_icmp .ne 13, 3) := by decide +kernel
theorem dX11_knew_85 : decode cX11_knew 85 = .ok (.iload 4, 2) := by decide +kernel
theorem dX11_knew_87 : decode cX11_knew 87 = .ok (.iload 7, 2) := by decide +kernel
theorem dX11_knew_89 : decode cX11_knew 89 = .ok (.ior, 1) := by decide +kernel
theorem dX11_knew_90 : decode cX11_knew 90 = .ok (.istore 4, 2) := by decide +kernel
theorem dX11_knew_92 : decode cX11_knew 92 = .ok (.goto 41, 3) := by decide +kernel
theorem dX11_knew_95 : decode cX11_knew 95 = .ok (.iload_n 3, 1) := by decide +kernel
theorem dX11_knew_96 : decode cX11_knew 96 = .ok (.iconst 1, 1) := by decide +kernel
theorem dX11_knew_97 : decode cX11_knew 97 = .ok (.iload 6, 2) := by decide +kernel
theorem dX11_knew_99 : decode cX11_knew 99 = .ok (.ishl, 1) := by decide +kernel
theorem dX11_knew_100 : decode cX11_knew 100 = .ok (.ior, 1) := by decide +kernel
theorem dX11_knew_101 : decode cX11_knew 101 = .ok (.istore_n 3, 1) := by decide +kernel
theorem dX11_knew_102 : decode cX11_knew 102 = .ok (.iload 4, 2) := by decide +kernel
theorem dX11_knew_104 : decode cX11_knew 104 = .ok (.iload 7, 2) := by decide +kernel
theorem dX11_knew_106 : decode cX11_knew 106 = .ok (.iload 6, 2) := by decide +kernel
theorem dX11_knew_108 : decode cX11_knew 108 = .ok (.ishr, 1) := by decide +kernel
theorem dX11_knew_109 : decode cX11_knew 109 = .ok (.iconst 1, 1) := by decide +kernel
theorem dX11_knew_110 : decode cX11_knew 110 = .ok (.iand, 1) := by decide +kernel
theorem dX11_knew_111 : decode cX11_knew 111 = .ok (.iconst 1, 1) := by decide +kernel
theorem dX11_knew_112 : decode cX11_knew 112 = .ok (.if_icmp .ne 14, 3) := by decide +kernel
theorem dX11_knew_115 : decode cX11_knew 115 = .ok (.aload_n 0, 1) := by decide +kernel
theorem dX11_knew_116 : decode cX11_knew 116 = .ok (.iload 6, 2) := by decide +kernel
theorem dX11_knew_118 : decode cX11_knew 118 = .ok (.iload 7, 2) := by decide +kernel
theorem dX11_knew_120 : decode cX11_knew 120 = .ok (.invokevirtual 354, 3) := by decide +kernel
theorem dX11_knew_123 : decode cX11_knew 123 = .ok (.goto 7, 3) := by decide +kernel
theorem dX11_knew_126 : decode cX11_knew 126 = .ok (.iconst 1, 1) := by decide +kernel
theorem dX11_knew_127 : decode cX11_knew 127 = .ok (.iload 6, 2) := by decide +kernel
theorem dX11_knew_129 : decode cX11_knew 129 = .ok (.ishl, 1) := by decide +kernel
theorem dX11_knew_130 : decode cX11_knew 130 = .ok (.ior, 1) := by decide +kernel
theorem dX11_knew_131 : decode cX11_knew 131 = .ok (.istore 4, 2) := by decide +kernel
theorem dX11_knew_133 : decode cX11_knew 133 = .ok (.iinc 5 1, 3) := by decide +kernel
theorem dX11_knew_136 : decode cX11_knew 136 = .ok (.goto (-128), 3) := by decide +kernel
theorem dX11_knew_139 : decode cX11_knew 139 = .ok (.iload_n 3, 1) := by decide +kernel
theorem dX11_knew_140 : decode cX11_knew 140 = .ok (.iload 4, 2) := by decide +kernel
theorem dX11_knew_142 : decode cX11_knew 142 = .ok (.iand, 1) := by decide +kernel
theorem dX11_knew_143 : decode cX11_knew 143 = .ok (.ifCond .eq 14, 3) := by decide +kernel
theorem dX11_knew_146 : decode cX11_knew 146 = .ok (.iload_n 2, 1) := by decide +kernel
theorem dX11_knew_147 : decode cX11_knew 147 = .ok (.ifCond .eq 8, 3) := by decide +kernel
theorem dX11_knew_150 : decode cX11_knew 150 = .ok (.bipush (-5), 2) := by decide +kernel
theorem dX11_knew_152 : decode cX11_knew 152 = .ok (.goto 4, 3) := by decide +kernel
theorem dX11_knew_155 : decode cX11_knew 155 = .ok (.iconst 0, 1) := by decide +kernel
theorem dX11_knew_156 : decode cX11_knew 156 = .ok (.ireturn, 1) := by decide +kernel
theorem dX11_knew_157 : decode cX11_knew 157 = .ok (.iload_n 2, 1) := by decide +kernel
theorem dX11_knew_158 : decode cX11_knew 158 = .ok (.ifCond .eq 7, 3) := by decide +kernel
theorem dX11_knew_161 : decode cX11_knew 161 = .ok (.iload_n 3, 1) := by decide +kernel
theorem dX11_knew_162 : decode cX11_knew 162 = .ok (.goto 15, 3) := by decide +kernel
theorem dX11_knew_165 : decode cX11_knew 165 = .ok (.iconst 1, 1) := by decide +kernel
theorem dX11_knew_166 : decode cX11_knew 166 = .ok (.bipush 12, 2) := by decide +kernel
theorem dX11_knew_168 : decode cX11_knew 168 = .ok (.iload_n 3, 1) := by decide +kernel
theorem dX11_knew_169 : decode cX11_knew 169 = .ok (.iload 4, 2) := by decide +kernel
theorem dX11_knew_171 : decode cX11_knew 171 = .ok (.ior, 1) := by decide +kernel
theorem dX11_knew_172 : decode cX11_knew 172 = .ok (.invokestatic 256, 3) := by decide +kernel
theorem dX11_knew_175 : decode cX11_knew 175 = .ok (.isub, 1) := by decide +kernel
theorem dX11_knew_176 : decode cX11_knew 176 = .ok (.ishl, 1) := by decide +kernel
theorem dX11_knew_177 : decode cX11_knew 177 = .ok (.ireturn, 1) := by decide +kernel
set_option maxRecDepth 20000 in
theorem ggX11_knew_X11_wordsOpenTo : GoodIn wsX11_knew wsX11_wordsOpenTo := goodIn_r _ [11, 1, 12, 13, 14, 15, 16, 17, 18, 19, 20, 21, 22, 23, 10, 24, 25, 26, 27, 28, 29, 30, 31, 32, 33, 34, 35, 36, 37, 38, 39, 40, 41, 42, 43, 44, 45, 46, 47, 48, 49, 50, 51, 52, 53, 54, 55, 56, 57, 58, 59, 60, 61, 62, 63, 64, 65, 66, 67, 68, 69, 70, 71, 72, 73, 74, 75, 76, 77, 78, 79, 80, 81, 82, 83, 84, 85, 86, 87, 88, 89, 101, 102, 103, 104, 105, 106, 107, 108, 109, 110, 111, 112, 113, 114, 115, 116, 117, 118, 119, 120, 121, 122, 123, 124, 125, 126, 127, 128, 129, 130, 131, 132, 133, 134, 135, 136, 141, 142, 143, 144, 145, 146, 147, 148] (by decide +kernel) (by decide +kernel)
set_option maxRecDepth 20000 in
theorem gX11_knew_X11_wordsOpenTo : GoodIn wsX11_knew (wsV RX11 351 RX11 yX11_wordsOpenTo wsX11_wordsOpenTo) := goodIn_app (goodIn_of _ (by decide +kernel)) ggX11_knew_X11_wordsOpenTo
set_option maxRecDepth 20000 in
theorem ggX11_knew_X11_aheadOf : GoodIn wsX11_knew wsX11_aheadOf := goodIn_r _ [93, 13, 101, 102, 103, 104, 105, 106, 107, 108, 109, 110, 111, 112, 113, 114, 115, 116, 117, 118, 119] (by decide +kernel) (by decide +kernel)
set_option maxRecDepth 20000 in
theorem gX11_knew_X11_aheadOf : GoodIn wsX11_knew (wsV RX11 354 RX11 yX11_aheadOf wsX11_aheadOf) := goodIn_app (goodIn_of _ (by decide +kernel)) ggX11_knew_X11_aheadOf
set_option maxRecDepth 20000 in
theorem ggX11_knew_J6_bitCount_0f7a4 : GoodIn wsX11_knew wsJ6_bitCount_0f7a4 := goodIn_r _ [97, 98, 99, 100] (by decide +kernel) (by decide +kernel)
set_option maxRecDepth 20000 in
theorem gX11_knew_J6_bitCount_0f7a4 : GoodIn wsX11_knew (va_wsS RX11 256 yJ6_bitCount_0f7a4 wsJ6_bitCount_0f7a4) := goodIn_app (goodIn_of _ (by decide +kernel)) ggX11_knew_J6_bitCount_0f7a4
def fX11_knew_133 (rec8 : Int32 → Int32 → Int32 → Int32 → Int32 → c_G → Option (c_G × Int32)) (a1 : Int32) (a2 : Int32) (x1 : Int32) (x2 : Int32) (x3 : Int32) (x4 : Int32) (x5 : Int32) (g : c_G) : Option (c_G × Int32) :=
  c_let (x5 + (1 : Int32)) fun v133001 => rec8 x1 x2 x3 x4 v133001 g
set_option maxRecDepth 100000 in
set_option maxHeartbeats 4000000 in
theorem jX11_knew_133 {p : Program} {l : Launch} {e : Env} {s : State} {m : MethodId} {below : List Frame} {meth : Method} {c : Code} {D : va_G} {tc : Nat → ClassId} {ad : Nat → Nat} {A : Nat → Prop} {E : (Nat → Nat) × (Nat → Nat) × Nat} {a1 : Int32} {a2 : Int32} {g' : c_G} {r : Int32} (C : c_C p s m meth c D tc A E RX11 wsX11_knew cX11_knew 8 (some .int) ([.ref (ad 0), .int a1, .int a2] : List Value).toArray) (hD : c_D A ad TC) {rec8 : Int32 → Int32 → Int32 → Int32 → Int32 → c_G → Option (c_G × Int32)} (hrec8 : ∀ (x1 : Int32) (x2 : Int32) (x3 : Int32) (x4 : Int32) (x5 : Int32) (g : c_G), rec8 x1 x2 x3 x4 x5 g = some (g', r) → ∀ (H : Heap) (locs : List Loc), va_P D vwCl (c_ws tc ad TC g) H → va_S A s.heap H locs → ∀ ls : Array Slot, lv_has ls 8 [(0, .ref (ad 0)), (1, .int x1), (2, .int x2), (3, .int x3), (4, .int x4), (5, .int x5)] → W p l e (c_rm 4) s m ([.ref (ad 0), .int a1, .int a2] : List Value).toArray below meth c H locs 0 0 (MQ below (va_Qi (fun (x : Int32) (_ : Unit) => x = r) (fun _ t => va_P D vwCl (c_ws tc ad TC g') t.heap) A) ([.ref (ad 0), .int a1, .int a2] : List Value).toArray s 0 0 A) (F0 m 8 ls [])) : ∀ (x1 : Int32) (x2 : Int32) (x3 : Int32) (x4 : Int32) (x5 : Int32) (g : c_G), fX11_knew_133 rec8 a1 a2 x1 x2 x3 x4 x5 g = some (g', r) → ∀ (H : Heap) (locs : List Loc), va_P D vwCl (c_ws tc ad TC g) H → va_S A s.heap H locs → ∀ ls : Array Slot, lv_has ls 8 [(0, .ref (ad 0)), (1, .int x1), (2, .int x2), (3, .int x3), (4, .int x4), (5, .int x5)] → W p l e (c_rm 4) s m ([.ref (ad 0), .int a1, .int a2] : List Value).toArray below meth c H locs 0 0 (MQ below (va_Qi (fun (x : Int32) (_ : Unit) => x = r) (fun _ t => va_P D vwCl (c_ws tc ad TC g') t.heap) A) ([.ref (ad 0), .int a1, .int a2] : List Value).toArray s 0 0 A) (F0 m 133 ls []) := by
  obtain ⟨hx, hb, hr, hml, hts, hown, hlk, hK, hE⟩ := id C
  intro x1 x2 x3 x4 x5 g hf H locs hP hS ls hl
  unfold fX11_knew_133 at hf
  obtain ⟨v133001, ev133001, hf⟩ := c_letE hf
  refine lv_iinc (v := v133001) (lv' := [(5, .int v133001), (0, .ref (ad 0)), (1, .int x1), (2, .int x2), (3, .int x3), (4, .int x4)]) hx hb dX11_knew_133 hl (k := 5) rfl (by rw [ev133001]; rfl) (by decide) rfl (fun ls hl => ?_)
  refine lv_goto (tgt := 8) hx hb dX11_knew_136 (by decide) ?_
  exact hrec8 x1 x2 x3 x4 v133001 g hf _ _ hP hS _ (lv_sub hl [1, 2, 3, 4, 5, 0] rfl)
def fX11_knew_130 (rec8 : Int32 → Int32 → Int32 → Int32 → Int32 → c_G → Option (c_G × Int32)) (a1 : Int32) (a2 : Int32) (x1 : Int32) (x2 : Int32) (x3 : Int32) (x5 : Int32) (y0 : Int32) (y1 : Int32) (g : c_G) : Option (c_G × Int32) :=
  c_let ((y0 ||| y1)) fun v130001 => fX11_knew_133 rec8 a1 a2 x1 x2 x3 v130001 x5 g
set_option maxRecDepth 100000 in
set_option maxHeartbeats 4000000 in
theorem jX11_knew_130 {p : Program} {l : Launch} {e : Env} {s : State} {m : MethodId} {below : List Frame} {meth : Method} {c : Code} {D : va_G} {tc : Nat → ClassId} {ad : Nat → Nat} {A : Nat → Prop} {E : (Nat → Nat) × (Nat → Nat) × Nat} {a1 : Int32} {a2 : Int32} {g' : c_G} {r : Int32} (C : c_C p s m meth c D tc A E RX11 wsX11_knew cX11_knew 8 (some .int) ([.ref (ad 0), .int a1, .int a2] : List Value).toArray) (hD : c_D A ad TC) {rec8 : Int32 → Int32 → Int32 → Int32 → Int32 → c_G → Option (c_G × Int32)} (hrec8 : ∀ (x1 : Int32) (x2 : Int32) (x3 : Int32) (x4 : Int32) (x5 : Int32) (g : c_G), rec8 x1 x2 x3 x4 x5 g = some (g', r) → ∀ (H : Heap) (locs : List Loc), va_P D vwCl (c_ws tc ad TC g) H → va_S A s.heap H locs → ∀ ls : Array Slot, lv_has ls 8 [(0, .ref (ad 0)), (1, .int x1), (2, .int x2), (3, .int x3), (4, .int x4), (5, .int x5)] → W p l e (c_rm 4) s m ([.ref (ad 0), .int a1, .int a2] : List Value).toArray below meth c H locs 0 0 (MQ below (va_Qi (fun (x : Int32) (_ : Unit) => x = r) (fun _ t => va_P D vwCl (c_ws tc ad TC g') t.heap) A) ([.ref (ad 0), .int a1, .int a2] : List Value).toArray s 0 0 A) (F0 m 8 ls [])) : ∀ (x1 : Int32) (x2 : Int32) (x3 : Int32) (x5 : Int32) (y0 : Int32) (y1 : Int32) (g : c_G), fX11_knew_130 rec8 a1 a2 x1 x2 x3 x5 y0 y1 g = some (g', r) → ∀ (H : Heap) (locs : List Loc), va_P D vwCl (c_ws tc ad TC g) H → va_S A s.heap H locs → ∀ ls : Array Slot, lv_has ls 8 [(0, .ref (ad 0)), (1, .int x1), (2, .int x2), (3, .int x3), (5, .int x5)] → W p l e (c_rm 4) s m ([.ref (ad 0), .int a1, .int a2] : List Value).toArray below meth c H locs 0 0 (MQ below (va_Qi (fun (x : Int32) (_ : Unit) => x = r) (fun _ t => va_P D vwCl (c_ws tc ad TC g') t.heap) A) ([.ref (ad 0), .int a1, .int a2] : List Value).toArray s 0 0 A) (F0 m 130 ls [.int y1, .int y0]) := by
  obtain ⟨hx, hb, hr, hml, hts, hown, hlk, hK, hE⟩ := id C
  intro x1 x2 x3 x5 y0 y1 g hf H locs hP hS ls hl
  unfold fX11_knew_130 at hf
  refine lv_ior hx hb dX11_knew_130 ?_
  obtain ⟨v130001, ev130001, hf⟩ := c_letE hf
  refine c_topi ev130001 ?_
  refine lv_istore (lv' := [(4, .int v130001), (0, .ref (ad 0)), (1, .int x1), (2, .int x2), (3, .int x3), (5, .int x5)]) hx hb dX11_knew_131 hl (by decide) rfl (fun ls hl => ?_)
  exact jX11_knew_133 C hD hrec8 x1 x2 x3 v130001 x5 g hf _ _ hP hS _ (lv_sub hl [1, 2, 3, 4, 0, 5] rfl)
def fX11_knew_8  (a1 : Int32) (a2 : Int32) : Nat → Int32 → Int32 → Int32 → Int32 → Int32 → c_G → Option (c_G × Int32)
  | 0, _, _, _, _, _, _ => none
  | n + 1, x1, x2, x3, x4, x5, g => if (g.1 66 3) ≤ x5 then (if (x3 &&& x4) = 0 then (if x2 = 0 then (some (g, ((1 : Int32) <<< (((12 : Int32) - (fJ6_bitCount_0f7a4 ((x3 ||| x4)))) &&& 31)))) else (some (g, x3))) else (if x2 = 0 then (some (g, (0 : Int32))) else (some (g, (-5 : Int32))))) else (if c_in (x5) (5) = true then if (g.1 67 (x5).toNatClampNeg) = x1 then (c_b2 (fX11_wordsOpenTo g x1 ((g.1 68 (x5).toNatClampNeg))) fun g8008 r8009 => if (g.1 69 (x5).toNatClampNeg) = (-5 : Int32) then (c_let ((x4 ||| r8009)) fun v8015 => fX11_knew_133 (fX11_knew_8 a1 a2 n) a1 a2 x1 x2 x3 v8015 x5 g8008) else (c_let ((x3 ||| ((1 : Int32) <<< ((g.1 69 (x5).toNatClampNeg) &&& 31)))) fun v8011 => if ((r8009 >>> ((g.1 69 (x5).toNatClampNeg) &&& 31)) &&& (1 : Int32)) = (1 : Int32) then ((fX11_aheadOf g8008 ((g.1 69 (x5).toNatClampNeg)) r8009).bind fun r8013 => fX11_knew_130 (fX11_knew_8 a1 a2 n) a1 a2 x1 x2 v8011 x5 x4 r8013 g8008) else (fX11_knew_130 (fX11_knew_8 a1 a2 n) a1 a2 x1 x2 v8011 x5 x4 (((1 : Int32) <<< ((g.1 69 (x5).toNatClampNeg) &&& 31))) g8008))) else (fX11_knew_133 (fX11_knew_8 a1 a2 n) a1 a2 x1 x2 x3 x4 x5 g) else none)
set_option maxRecDepth 100000 in
set_option maxHeartbeats 4000000 in
theorem jX11_knew_8 {p : Program} {l : Launch} {e : Env} {s : State} {m : MethodId} {below : List Frame} {meth : Method} {c : Code} {D : va_G} {tc : Nat → ClassId} {ad : Nat → Nat} {A : Nat → Prop} {E : (Nat → Nat) × (Nat → Nat) × Nat} {a1 : Int32} {a2 : Int32} {g' : c_G} {r : Int32} (C : c_C p s m meth c D tc A E RX11 wsX11_knew cX11_knew 8 (some .int) ([.ref (ad 0), .int a1, .int a2] : List Value).toArray) (hD : c_D A ad TC)  : ∀ (n : Nat) (x1 : Int32) (x2 : Int32) (x3 : Int32) (x4 : Int32) (x5 : Int32) (g : c_G), fX11_knew_8 a1 a2 n x1 x2 x3 x4 x5 g = some (g', r) → ∀ (H : Heap) (locs : List Loc), va_P D vwCl (c_ws tc ad TC g) H → va_S A s.heap H locs → ∀ ls : Array Slot, lv_has ls 8 [(0, .ref (ad 0)), (1, .int x1), (2, .int x2), (3, .int x3), (4, .int x4), (5, .int x5)] → W p l e (c_rm 4) s m ([.ref (ad 0), .int a1, .int a2] : List Value).toArray below meth c H locs 0 0 (MQ below (va_Qi (fun (x : Int32) (_ : Unit) => x = r) (fun _ t => va_P D vwCl (c_ws tc ad TC g') t.heap) A) ([.ref (ad 0), .int a1, .int a2] : List Value).toArray s 0 0 A) (F0 m 8 ls []) := by
  obtain ⟨hx, hb, hr, hml, hts, hown, hlk, hK, hE⟩ := id C
  intro n
  induction n with
  | zero =>
    intro x1 x2 x3 x4 x5 g hf
    cases hf
  | succ n ih =>
    intro x1 x2 x3 x4 x5 g hf H locs hP hS ls hl
    unfold fX11_knew_8 at hf
    refine lv_iload hx hb dX11_knew_8 (lv_at hl 5 rfl) ?_
    refine lv_aload_n hx hb dX11_knew_10 rfl (lv_at hl 0 rfl) ?_
    refine c_get hx hb hts i_X11_knew_X11 hown hK hP 0 tC0 rfl 5 (by decide) (hts _ (List.mem_of_getElem? (i := 1) rfl)) (fun _ h9 => h9) rfl (v := .ref (ad 55)) rfl dX11_knew_11 ?_
    refine c_get hx hb hts i_X11_knew_X7 hown hK hP 55 tC55 rfl 13 (by decide) (hts _ (List.mem_of_getElem? (i := 2) rfl)) (fun _ h9 => h9) rfl (v := .ref (ad 66)) rfl dX11_knew_14 ?_
    refine c_get hx hb hts i_X11_knew_X5 hown hK hP 66 tC66 rfl 3 (by decide) (hts _ (List.mem_of_getElem? (i := 3) rfl)) (fun _ h9 => h9) rfl (v := .int (g.1 66 3)) rfl dX11_knew_17 ?_
    refine lv_icmp_ge (tgt := 139) hx hb dX11_knew_20 (by decide) (fun c8001 => ?_) (fun c8001 => ?_)
    · have hf := c_it c8001 hf
      refine lv_iload_n hx hb dX11_knew_139 rfl (lv_at hl 3 rfl) ?_
      refine lv_iload hx hb dX11_knew_140 (lv_at hl 4 rfl) ?_
      refine lv_iand hx hb dX11_knew_142 ?_
      refine lv_if_eq (tgt := 157) hx hb dX11_knew_143 (by decide) (fun c8002 => ?_) (fun c8002 => ?_)
      · have hf := c_it c8002 hf
        refine lv_iload_n hx hb dX11_knew_157 rfl (lv_at hl 2 rfl) ?_
        refine lv_if_eq (tgt := 165) hx hb dX11_knew_158 (by decide) (fun c8003 => ?_) (fun c8003 => ?_)
        · have hf := c_it c8003 hf
          refine lv_iconst (v := (1 : Int32)) hx hb dX11_knew_165 (by decide) ?_
          refine lv_bipush (v := (12 : Int32)) hx hb dX11_knew_166 (by decide) ?_
          refine lv_iload_n hx hb dX11_knew_168 rfl (lv_at hl 3 rfl) ?_
          refine lv_iload hx hb dX11_knew_169 (lv_at hl 4 rfl) ?_
          refine lv_ior hx hb dX11_knew_171 ?_
          refine c_goi (va_runS (As := [.int (x3 ||| x4)]) (rest := [.int (12 : Int32), .int (1 : Int32)]) ⟨hx, hb, hml, hown, hts⟩ (kJ6_bitCount_0f7a4 (T := TC) (g := g) rfl) (va_cwS 1 hts gX11_knew_J6_bitCount_0f7a4 rfl rfl rfl (by decide +kernel) ⟨Nat.le_of_ble_eq_true rfl, Nat.le_of_ble_eq_true rfl⟩) (c_preS hK hP hE hS) rfl rfl hl.1 rfl (lv_room (Nat.le_of_ble_eq_true rfl)) dX11_knew_172 ⟨Nat.zero_le _, Nat.zero_le _⟩) hS (fun H locs hP hS => ?_)
          refine lv_isub hx hb dX11_knew_175 ?_
          refine lv_ishl hx hb dX11_knew_176 ?_
          exact c_iret hx hb hr hlk hP hS rfl (c_inj hf) dX11_knew_177
        · have hf := c_ie c8003 hf
          refine lv_iload_n hx hb dX11_knew_161 rfl (lv_at hl 3 rfl) ?_
          refine lv_goto (tgt := 177) hx hb dX11_knew_162 (by decide) ?_
          exact c_iret hx hb hr hlk hP hS rfl (c_inj hf) dX11_knew_177
      · have hf := c_ie c8002 hf
        refine lv_iload_n hx hb dX11_knew_146 rfl (lv_at hl 2 rfl) ?_
        refine lv_if_eq (tgt := 155) hx hb dX11_knew_147 (by decide) (fun c8004 => ?_) (fun c8004 => ?_)
        · have hf := c_it c8004 hf
          refine lv_iconst (v := (0 : Int32)) hx hb dX11_knew_155 (by decide) ?_
          exact c_iret hx hb hr hlk hP hS rfl (c_inj hf) dX11_knew_156
        · have hf := c_ie c8004 hf
          refine lv_bipush (v := (-5 : Int32)) hx hb dX11_knew_150 (by decide) ?_
          refine lv_goto (tgt := 156) hx hb dX11_knew_152 (by decide) ?_
          exact c_iret hx hb hr hlk hP hS rfl (c_inj hf) dX11_knew_156
    · have hf := c_ie c8001 hf
      refine lv_aload_n hx hb dX11_knew_23 rfl (lv_at hl 0 rfl) ?_
      refine c_get hx hb hts i_X11_knew_X11 hown hK hP 0 tC0 rfl 5 (by decide) (hts _ (List.mem_of_getElem? (i := 1) rfl)) (fun _ h9 => h9) rfl (v := .ref (ad 55)) rfl dX11_knew_24 ?_
      refine c_get hx hb hts i_X11_knew_X7 hown hK hP 55 tC55 rfl 13 (by decide) (hts _ (List.mem_of_getElem? (i := 2) rfl)) (fun _ h9 => h9) rfl (v := .ref (ad 66)) rfl dX11_knew_27 ?_
      refine c_get hx hb hts i_X11_knew_X5 hown hK hP 66 tC66 rfl 0 (by decide) (hts _ (List.mem_of_getElem? (i := 4) rfl)) (fun _ h9 => h9) rfl (v := .ref (ad 67)) rfl dX11_knew_30 ?_
      refine lv_iload hx hb dX11_knew_33 (lv_at hl 5 rfl) ?_
      obtain ⟨hi8005, hf⟩ := c_gd hf
      refine c_iald (j := (x5).toNatClampNeg) hx hb hK hP 67 tC67 rfl (c_inV hi8005) dX11_knew_35 ?_
      refine lv_iload_n hx hb dX11_knew_36 rfl (lv_at hl 1 rfl) ?_
      refine lv_icmp_eq (tgt := 43) hx hb dX11_knew_37 (by decide) (fun c8006 => ?_) (fun c8006 => ?_)
      · have hf := c_it c8006 hf
        refine lv_aload_n hx hb dX11_knew_43 rfl (lv_at hl 0 rfl) ?_
        refine c_get hx hb hts i_X11_knew_X11 hown hK hP 0 tC0 rfl 5 (by decide) (hts _ (List.mem_of_getElem? (i := 1) rfl)) (fun _ h9 => h9) rfl (v := .ref (ad 55)) rfl dX11_knew_44 ?_
        refine c_get hx hb hts i_X11_knew_X7 hown hK hP 55 tC55 rfl 13 (by decide) (hts _ (List.mem_of_getElem? (i := 2) rfl)) (fun _ h9 => h9) rfl (v := .ref (ad 66)) rfl dX11_knew_47 ?_
        refine c_get hx hb hts i_X11_knew_X5 hown hK hP 66 tC66 rfl 2 (by decide) (hts _ (List.mem_of_getElem? (i := 5) rfl)) (fun _ h9 => h9) rfl (v := .ref (ad 69)) rfl dX11_knew_50 ?_
        refine lv_iload hx hb dX11_knew_53 (lv_at hl 5 rfl) ?_
        refine c_iald (j := (x5).toNatClampNeg) hx hb hK hP 69 tC69 rfl (c_inV hi8005) dX11_knew_55 ?_
        refine lv_istore (lv' := [(6, .int (g.1 69 (x5).toNatClampNeg)), (0, .ref (ad 0)), (1, .int x1), (2, .int x2), (3, .int x3), (4, .int x4), (5, .int x5)]) hx hb dX11_knew_56 hl (by decide) rfl (fun ls hl => ?_)
        refine lv_aload_n hx hb dX11_knew_58 rfl (lv_at hl 1 rfl) ?_
        refine lv_iload_n hx hb dX11_knew_59 rfl (lv_at hl 2 rfl) ?_
        refine lv_aload_n hx hb dX11_knew_60 rfl (lv_at hl 1 rfl) ?_
        refine c_get hx hb hts i_X11_knew_X11 hown hK hP 0 tC0 rfl 5 (by decide) (hts _ (List.mem_of_getElem? (i := 1) rfl)) (fun _ h9 => h9) rfl (v := .ref (ad 55)) rfl dX11_knew_61 ?_
        refine c_get hx hb hts i_X11_knew_X7 hown hK hP 55 tC55 rfl 13 (by decide) (hts _ (List.mem_of_getElem? (i := 2) rfl)) (fun _ h9 => h9) rfl (v := .ref (ad 66)) rfl dX11_knew_64 ?_
        refine c_get hx hb hts i_X11_knew_X5 hown hK hP 66 tC66 rfl 1 (by decide) (hts _ (List.mem_of_getElem? (i := 6) rfl)) (fun _ h9 => h9) rfl (v := .ref (ad 68)) rfl dX11_knew_67 ?_
        refine lv_iload hx hb dX11_knew_70 (lv_at hl 6 rfl) ?_
        refine c_iald (j := (x5).toNatClampNeg) hx hb hK hP 68 tC68 rfl (c_inV hi8005) dX11_knew_72 ?_
        obtain ⟨g8008, r8009, hc8007, hf⟩ := c_b2E hf
        refine c_goi (va_runV (As := [.int x1, .int (g.1 68 (x5).toNatClampNeg)]) (rest := []) ⟨hx, hb, hml, hown, hts⟩ (kX11_wordsOpenTo hD hc8007) (cwV 2 hts gX11_knew_X11_wordsOpenTo rfl rfl rfl (by decide +kernel) ⟨Nat.le_of_ble_eq_true rfl, Nat.le_of_ble_eq_true rfl⟩) (c_preV hK hP hE hS tC0 rfl) rfl rfl hl.1 rfl (lv_room (Nat.le_of_ble_eq_true rfl)) dX11_knew_73 ⟨Nat.zero_le _, Nat.zero_le _⟩) hS (fun H locs hP hS => ?_)
        refine lv_istore (lv' := [(7, .int r8009), (6, .int (g.1 69 (x5).toNatClampNeg)), (0, .ref (ad 0)), (1, .int x1), (2, .int x2), (3, .int x3), (4, .int x4), (5, .int x5)]) hx hb dX11_knew_76 hl (by decide) rfl (fun ls hl => ?_)
        refine lv_iload hx hb dX11_knew_78 (lv_at hl 1 rfl) ?_
        refine lv_bipush (v := (-5 : Int32)) hx hb dX11_knew_80 (by decide) ?_
        refine lv_icmp_ne (tgt := 95) hx hb dX11_knew_82 (by decide) (fun c8010 => ?_) (fun c8010 => ?_)
        · have hf := c_ie c8010 hf
          refine lv_iload_n hx hb dX11_knew_95 rfl (lv_at hl 5 rfl) ?_
          refine lv_iconst (v := (1 : Int32)) hx hb dX11_knew_96 (by decide) ?_
          refine lv_iload hx hb dX11_knew_97 (lv_at hl 1 rfl) ?_
          refine lv_ishl hx hb dX11_knew_99 ?_
          refine lv_ior hx hb dX11_knew_100 ?_
          obtain ⟨v8011, ev8011, hf⟩ := c_letE hf
          refine c_topi ev8011 ?_
          refine lv_istore_n (lv' := [(3, .int v8011), (7, .int r8009), (6, .int (g.1 69 (x5).toNatClampNeg)), (0, .ref (ad 0)), (1, .int x1), (2, .int x2), (4, .int x4), (5, .int x5)]) hx hb dX11_knew_101 rfl hl (by decide) rfl (fun ls hl => ?_)
          refine lv_iload hx hb dX11_knew_102 (lv_at hl 6 rfl) ?_
          refine lv_iload hx hb dX11_knew_104 (lv_at hl 1 rfl) ?_
          refine lv_iload hx hb dX11_knew_106 (lv_at hl 2 rfl) ?_
          refine lv_ishr hx hb dX11_knew_108 ?_
          refine lv_iconst (v := (1 : Int32)) hx hb dX11_knew_109 (by decide) ?_
          refine lv_iand hx hb dX11_knew_110 ?_
          refine lv_iconst (v := (1 : Int32)) hx hb dX11_knew_111 (by decide) ?_
          refine lv_icmp_ne (tgt := 126) hx hb dX11_knew_112 (by decide) (fun c8012 => ?_) (fun c8012 => ?_)
          · have hf := c_ie c8012 hf
            refine lv_iconst (v := (1 : Int32)) hx hb dX11_knew_126 (by decide) ?_
            refine lv_iload hx hb dX11_knew_127 (lv_at hl 2 rfl) ?_
            refine lv_ishl hx hb dX11_knew_129 ?_
            exact jX11_knew_130 C hD ih x1 x2 v8011 x5 x4 (((1 : Int32) <<< ((g.1 69 (x5).toNatClampNeg) &&& 31))) g8008 hf _ _ hP hS _ (lv_sub hl [3, 4, 5, 0, 7] rfl)
          · have hf := c_it c8012 hf
            refine lv_aload_n hx hb dX11_knew_115 rfl (lv_at hl 3 rfl) ?_
            refine lv_iload hx hb dX11_knew_116 (lv_at hl 2 rfl) ?_
            refine lv_iload hx hb dX11_knew_118 (lv_at hl 1 rfl) ?_
            obtain ⟨r8013, hc8014, hf⟩ := c_bd hf
            refine c_goi (va_runV (As := [.int (g.1 69 (x5).toNatClampNeg), .int r8009]) (rest := [.int x4]) ⟨hx, hb, hml, hown, hts⟩ (kX11_aheadOf hD hc8014) (cwV 2 hts gX11_knew_X11_aheadOf rfl rfl rfl (by decide +kernel) ⟨Nat.le_of_ble_eq_true rfl, Nat.le_of_ble_eq_true rfl⟩) (c_preV hK hP hE hS tC0 rfl) rfl rfl hl.1 rfl (lv_room (Nat.le_of_ble_eq_true rfl)) dX11_knew_120 ⟨Nat.zero_le _, Nat.zero_le _⟩) hS (fun H locs hP hS => ?_)
            refine lv_goto (tgt := 130) hx hb dX11_knew_123 (by decide) ?_
            exact jX11_knew_130 C hD ih x1 x2 v8011 x5 x4 r8013 g8008 hf _ _ hP hS _ (lv_sub hl [3, 4, 5, 0, 7] rfl)
        · have hf := c_it c8010 hf
          refine lv_iload hx hb dX11_knew_85 (lv_at hl 6 rfl) ?_
          refine lv_iload hx hb dX11_knew_87 (lv_at hl 0 rfl) ?_
          refine lv_ior hx hb dX11_knew_89 ?_
          obtain ⟨v8015, ev8015, hf⟩ := c_letE hf
          refine c_topi ev8015 ?_
          refine lv_istore (lv' := [(4, .int v8015), (7, .int r8009), (6, .int (g.1 69 (x5).toNatClampNeg)), (0, .ref (ad 0)), (1, .int x1), (2, .int x2), (3, .int x3), (5, .int x5)]) hx hb dX11_knew_90 hl (by decide) rfl (fun ls hl => ?_)
          refine lv_goto (tgt := 133) hx hb dX11_knew_92 (by decide) ?_
          exact jX11_knew_133 C hD ih x1 x2 x3 v8015 x5 g8008 hf _ _ hP hS _ (lv_sub hl [3, 4, 5, 6, 0, 7] rfl)
      · have hf := c_ie c8006 hf
        refine lv_goto (tgt := 133) hx hb dX11_knew_40 (by decide) ?_
        exact jX11_knew_133 C hD ih x1 x2 x3 x4 x5 g hf _ _ hP hS _ (lv_sub hl [0, 1, 2, 3, 4, 5] rfl)
def fX11_knew (g : c_G) (a1 : Int32) (a2 : Int32) : Option (c_G × Int32) :=
  fX11_knew_8 a1 a2 c_F a1 a2 ((0 : Int32)) ((0 : Int32)) ((0 : Int32)) g
set_option maxRecDepth 100000 in
set_option maxHeartbeats 4000000 in
theorem kX11_knew {l : Launch} {D : va_G} {tc : Nat → ClassId} {ad : Nat → Nat} {A : Nat → Prop} {E : (Nat → Nat) × (Nat → Nat) × Nat} (hD : c_D A ad TC) {a1 : Int32} {a2 : Int32} {g g' : c_G} {r : Int32} (hf : fX11_knew g a1 a2 = some (g', r)) : c_Mi l yX11_knew wsX11_knew (c_rm 4) D tc ad A E TC ([.ref (ad 0), .int a1, .int a2] : List Value) g g' r := by
  refine c_ofW (bytes := cX11_knew) (maxL := 8) (ret := (some .int)) (by decide) rfl (Nat.le_of_ble_eq_true rfl) ?_
  intro p e s m below meth c ls C hP hS hl
  unfold fX11_knew at hf
  obtain ⟨hx, hb, hr, hml, hts, hown, hlk, hK, hE⟩ := id C
  have hl : lv_has ls 8 [(0, .ref (ad 0)), (1, .int a1), (2, .int a2)] := hl
  refine lv_iconst (v := (0 : Int32)) hx hb dX11_knew_0 (by decide) ?_
  refine lv_istore_n (lv' := [(3, .int (0 : Int32)), (0, .ref (ad 0)), (1, .int a1), (2, .int a2)]) hx hb dX11_knew_1 rfl hl (by decide) rfl (fun ls hl => ?_)
  refine lv_iconst (v := (0 : Int32)) hx hb dX11_knew_2 (by decide) ?_
  refine lv_istore (lv' := [(4, .int (0 : Int32)), (3, .int (0 : Int32)), (0, .ref (ad 0)), (1, .int a1), (2, .int a2)]) hx hb dX11_knew_3 hl (by decide) rfl (fun ls hl => ?_)
  refine lv_iconst (v := (0 : Int32)) hx hb dX11_knew_5 (by decide) ?_
  refine lv_istore (lv' := [(5, .int (0 : Int32)), (4, .int (0 : Int32)), (3, .int (0 : Int32)), (0, .ref (ad 0)), (1, .int a1), (2, .int a2)]) hx hb dX11_knew_6 hl (by decide) rfl (fun ls hl => ?_)
  exact jX11_knew_8 C hD c_F a1 a2 ((0 : Int32)) ((0 : Int32)) ((0 : Int32)) g hf _ _ hP hS _ (lv_sub hl [3, 4, 5, 2, 1, 0] rfl)
theorem dX11_isElder_0 : decode cX11_isElder 0 = .ok (.iload_n 0, 1) := by decide +kernel
theorem dX11_isElder_1 : decode cX11_isElder 1 = .ok (.ifCond .lt 13, 3) := by decide +kernel
theorem dX11_isElder_4 : decode cX11_isElder 4 = .ok (.iload_n 0, 1) := by decide +kernel
theorem dX11_isElder_5 : decode cX11_isElder 5 = .ok (.bipush 6, 2) := by decide +kernel
theorem dX11_isElder_7 : decode cX11_isElder 7 = .ok (.if_icmp .ge 7, 3) := by decide +kernel
theorem dX11_isElder_10 : decode cX11_isElder 10 = .ok (.iconst 1, 1) := by decide +kernel
theorem dX11_isElder_11 : decode cX11_isElder 11 = .ok (.goto 4, 3) := by decide +kernel
theorem dX11_isElder_14 : decode cX11_isElder 14 = .ok (.iconst 0, 1) := by decide +kernel
theorem dX11_isElder_15 : decode cX11_isElder 15 = .ok (.ireturn, 1) := by decide +kernel
def fX11_isElder (a1 : Int32) : Int32 :=
  if a1 < 0 then ((0 : Int32)) else (if (6 : Int32) ≤ a1 then ((0 : Int32)) else ((1 : Int32)))
set_option maxRecDepth 100000 in
set_option maxHeartbeats 4000000 in
theorem kX11_isElder {l : Launch} {D : va_G} {tc : Nat → ClassId} {ad : Nat → Nat} {A : Nat → Prop} {E : (Nat → Nat) × (Nat → Nat) × Nat} {T : List c_T} {a1 : Int32} {g : c_G} {r : Int32} (hf : fX11_isElder a1 = r) : c_Mi l yX11_isElder wsX11_isElder (c_rm 0) D tc ad A E T ([.int a1] : List Value) g g r := by
  refine c_ofW (bytes := cX11_isElder) (maxL := 1) (ret := (some .boolean)) (by decide) rfl (Nat.le_of_ble_eq_true rfl) ?_
  intro p e s m below meth c ls C hP hS hl
  unfold fX11_isElder at hf
  obtain ⟨hx, hb, hr, hml, hts, hown, hlk, hK, hE⟩ := id C
  have hl : lv_has ls 1 [(0, .int a1)] := hl
  refine lv_iload_n hx hb dX11_isElder_0 rfl (lv_at hl 0 rfl) ?_
  refine lv_if_lt (tgt := 14) hx hb dX11_isElder_1 (by decide) (fun c1 => ?_) (fun c1 => ?_)
  · have hf := c_it c1 hf
    refine lv_iconst (v := (0 : Int32)) hx hb dX11_isElder_14 (by decide) ?_
    exact c_iret hx hb hr hlk hP hS rfl ⟨rfl, hf⟩ dX11_isElder_15
  · have hf := c_ie c1 hf
    refine lv_iload_n hx hb dX11_isElder_4 rfl (lv_at hl 0 rfl) ?_
    refine lv_bipush (v := (6 : Int32)) hx hb dX11_isElder_5 (by decide) ?_
    refine lv_icmp_ge (tgt := 14) hx hb dX11_isElder_7 (by decide) (fun c2 => ?_) (fun c2 => ?_)
    · have hf := c_it c2 hf
      refine lv_iconst (v := (0 : Int32)) hx hb dX11_isElder_14 (by decide) ?_
      exact c_iret hx hb hr hlk hP hS rfl ⟨rfl, hf⟩ dX11_isElder_15
    · have hf := c_ie c2 hf
      refine lv_iconst (v := (1 : Int32)) hx hb dX11_isElder_10 (by decide) ?_
      refine lv_goto (tgt := 15) hx hb dX11_isElder_11 (by decide) ?_
      exact c_iret hx hb hr hlk hP hS rfl ⟨rfl, hf⟩ dX11_isElder_15
theorem bX11_isElder (a1 : Int32) : fX11_isElder a1 = 0 ∨ fX11_isElder a1 = 1 := by
  unfold fX11_isElder
  first | (repeat' split) <;> first | exact Or.inl rfl | exact Or.inr rfl
theorem dX11_best_0 : decode cX11_best 0 = .ok (.bipush (-5), 2) := by decide +kernel
theorem dX11_best_2 : decode cX11_best 2 = .ok (.istore_n 3, 1) := by decide +kernel
theorem dX11_best_3 : decode cX11_best 3 = .ok (.iconst 0, 1) := by decide +kernel
theorem dX11_best_4 : decode cX11_best 4 = .ok (.istore 4, 2) := by decide +kernel
theorem dX11_best_6 : decode cX11_best 6 = .ok (.iconst 0, 1) := by decide +kernel
theorem dX11_best_7 : decode cX11_best 7 = .ok (.istore 5, 2) := by decide +kernel
theorem dX11_best_9 : decode cX11_best 9 = .ok (.iload 5, 2) := by decide +kernel
theorem dX11_best_11 : decode cX11_best 11 = .ok (.bipush 12, 2) := by decide +kernel
theorem dX11_best_13 : decode cX11_best 13 = .ok (.if_icmp .ge 41, 3) := by decide +kernel
theorem dX11_best_16 : decode cX11_best 16 = .ok (.iload_n 2, 1) := by decide +kernel
theorem dX11_best_17 : decode cX11_best 17 = .ok (.iload 5, 2) := by decide +kernel
theorem dX11_best_19 : decode cX11_best 19 = .ok (.ishr, 1) := by decide +kernel
theorem dX11_best_20 : decode cX11_best 20 = .ok (.iconst 1, 1) := by decide +kernel
theorem dX11_best_21 : decode cX11_best 21 = .ok (.iand, 1) := by decide +kernel
theorem dX11_best_22 : decode cX11_best 22 = .ok (.iconst 1, 1) := by decide +kernel
theorem dX11_best_23 : decode cX11_best 23 = .ok (.if_icmp .ne 25, 3) := by decide +kernel
theorem dX11_best_26 : decode cX11_best 26 = .ok (.aload_n 0, 1) := by decide +kernel
theorem dX11_best_27 : decode cX11_best 27 = .ok (.iload_n 1, 1) := by decide +kernel
theorem dX11_best_28 : decode cX11_best 28 = .ok (.iload 5, 2) := by decide +kernel
theorem dX11_best_30 : decode cX11_best 30 = .ok (.iadd, 1) := by decide +kernel
theorem dX11_best_31 : decode cX11_best 31 = .ok (.iaload, 1) := by decide +kernel
theorem dX11_best_32 : decode cX11_best 32 = .ok (.iload 4, 2) := by decide +kernel
theorem dX11_best_34 : decode cX11_best 34 = .ok (.if_icmp .le 14, 3) := by decide +kernel
theorem dX11_best_37 : decode cX11_best 37 = .ok (.aload_n 0, 1) := by decide +kernel
theorem dX11_best_38 : decode cX11_best 38 = .ok (.iload_n 1, 1) := by decide +kernel
theorem dX11_best_39 : decode cX11_best 39 = .ok (.iload 5, 2) := by decide +kernel
theorem dX11_best_41 : decode cX11_best 41 = .ok (.iadd, 1) := by decide +kernel
theorem dX11_best_42 : decode cX11_best 42 = .ok (.iaload, 1) := by decide +kernel
theorem dX11_best_43 : decode cX11_best 43 = .ok (.istore 4, 2) := by decide +kernel
theorem dX11_best_45 : decode cX11_best 45 = .ok (.iload 5, 2) := by decide +kernel
theorem dX11_best_47 : decode cX11_best 47 = .ok (.istore_n 3, 1) := by decide +kernel
theorem dX11_best_48 : decode cX11_best 48 = .ok (.iinc 5 1, 3) := by decide +kernel
theorem dX11_best_51 : decode cX11_best 51 = .ok (.goto (-42), 3) := by decide +kernel
theorem dX11_best_54 : decode cX11_best 54 = .ok (.iload_n 3, 1) := by decide +kernel
theorem dX11_best_55 : decode cX11_best 55 = .ok (.ireturn, 1) := by decide +kernel
def fX11_best_48 (rec9 : Int32 → Int32 → Int32 → Int32 → Int32 → c_G → Option (Int32)) (a1 : Nat) (a2 : Int32) (a3 : Int32) (x1 : Int32) (x2 : Int32) (x3 : Int32) (x4 : Int32) (x5 : Int32) (g : c_G) : Option (Int32) :=
  c_let (x5 + (1 : Int32)) fun v48001 => rec9 x1 x2 x3 x4 v48001 g
set_option maxRecDepth 100000 in
set_option maxHeartbeats 4000000 in
theorem jX11_best_48 {p : Program} {l : Launch} {e : Env} {s : State} {m : MethodId} {below : List Frame} {meth : Method} {c : Code} {D : va_G} {tc : Nat → ClassId} {ad : Nat → Nat} {A : Nat → Prop} {E : (Nat → Nat) × (Nat → Nat) × Nat} {a1 : Nat} {a2 : Int32} {a3 : Int32} {r : Int32} (C : c_C p s m meth c D tc A E RX11 wsX11_best cX11_best 6 (some .int) ([.ref (ad a1), .int a2, .int a3] : List Value).toArray) (hD : c_D A ad TC) {rec9 : Int32 → Int32 → Int32 → Int32 → Int32 → c_G → Option (Int32)} (hrec9 : ∀ (x1 : Int32) (x2 : Int32) (x3 : Int32) (x4 : Int32) (x5 : Int32) (g : c_G), rec9 x1 x2 x3 x4 x5 g = some r → ∀ (H : Heap) (locs : List Loc), va_P D vwCl (c_ws tc ad TC g) H → va_S A s.heap H locs → ∀ ls : Array Slot, lv_has ls 6 [(0, .ref (ad a1)), (1, .int x1), (2, .int x2), (3, .int x3), (4, .int x4), (5, .int x5)] → W p l e (c_rm 0) s m ([.ref (ad a1), .int a2, .int a3] : List Value).toArray below meth c H locs 0 0 (MQ below (va_Qi (fun (x : Int32) (_ : Unit) => x = r) (fun _ t => va_P D vwCl (c_ws tc ad TC g) t.heap) A) ([.ref (ad a1), .int a2, .int a3] : List Value).toArray s 0 0 A) (F0 m 9 ls [])) : ∀ (x1 : Int32) (x2 : Int32) (x3 : Int32) (x4 : Int32) (x5 : Int32) (g : c_G), fX11_best_48 rec9 a1 a2 a3 x1 x2 x3 x4 x5 g = some r → ∀ (H : Heap) (locs : List Loc), va_P D vwCl (c_ws tc ad TC g) H → va_S A s.heap H locs → ∀ ls : Array Slot, lv_has ls 6 [(0, .ref (ad a1)), (1, .int x1), (2, .int x2), (3, .int x3), (4, .int x4), (5, .int x5)] → W p l e (c_rm 0) s m ([.ref (ad a1), .int a2, .int a3] : List Value).toArray below meth c H locs 0 0 (MQ below (va_Qi (fun (x : Int32) (_ : Unit) => x = r) (fun _ t => va_P D vwCl (c_ws tc ad TC g) t.heap) A) ([.ref (ad a1), .int a2, .int a3] : List Value).toArray s 0 0 A) (F0 m 48 ls []) := by
  obtain ⟨hx, hb, hr, hml, hts, hown, hlk, hK, hE⟩ := id C
  intro x1 x2 x3 x4 x5 g hf H locs hP hS ls hl
  unfold fX11_best_48 at hf
  obtain ⟨v48001, ev48001, hf⟩ := c_letE hf
  refine lv_iinc (v := v48001) (lv' := [(5, .int v48001), (0, .ref (ad a1)), (1, .int x1), (2, .int x2), (3, .int x3), (4, .int x4)]) hx hb dX11_best_48 hl (k := 5) rfl (by rw [ev48001]; rfl) (by decide) rfl (fun ls hl => ?_)
  refine lv_goto (tgt := 9) hx hb dX11_best_51 (by decide) ?_
  exact hrec9 x1 x2 x3 x4 v48001 g hf _ _ hP hS _ (lv_sub hl [1, 2, 3, 4, 5, 0] rfl)
def fX11_best_9  (a1 : Nat) (a2 : Int32) (a3 : Int32) : Nat → Int32 → Int32 → Int32 → Int32 → Int32 → c_G → Option (Int32)
  | 0, _, _, _, _, _, _ => none
  | n + 1, x1, x2, x3, x4, x5, g => if (12 : Int32) ≤ x5 then (some x3) else (if ((x2 >>> (x5 &&& 31)) &&& (1 : Int32)) = (1 : Int32) then ((c_ia TC (a1)).bind fun n9004 => if c_in ((x1 + x5)) (n9004) = true then if (g.1 a1 ((x1 + x5)).toNatClampNeg) ≤ x4 then (fX11_best_48 (fX11_best_9 a1 a2 a3 n) a1 a2 a3 x1 x2 x3 x4 x5 g) else (fX11_best_48 (fX11_best_9 a1 a2 a3 n) a1 a2 a3 x1 x2 x5 ((g.1 a1 ((x1 + x5)).toNatClampNeg)) x5 g) else none) else (fX11_best_48 (fX11_best_9 a1 a2 a3 n) a1 a2 a3 x1 x2 x3 x4 x5 g))
set_option maxRecDepth 100000 in
set_option maxHeartbeats 4000000 in
theorem jX11_best_9 {p : Program} {l : Launch} {e : Env} {s : State} {m : MethodId} {below : List Frame} {meth : Method} {c : Code} {D : va_G} {tc : Nat → ClassId} {ad : Nat → Nat} {A : Nat → Prop} {E : (Nat → Nat) × (Nat → Nat) × Nat} {a1 : Nat} {a2 : Int32} {a3 : Int32} {r : Int32} (C : c_C p s m meth c D tc A E RX11 wsX11_best cX11_best 6 (some .int) ([.ref (ad a1), .int a2, .int a3] : List Value).toArray) (hD : c_D A ad TC)  : ∀ (n : Nat) (x1 : Int32) (x2 : Int32) (x3 : Int32) (x4 : Int32) (x5 : Int32) (g : c_G), fX11_best_9 a1 a2 a3 n x1 x2 x3 x4 x5 g = some r → ∀ (H : Heap) (locs : List Loc), va_P D vwCl (c_ws tc ad TC g) H → va_S A s.heap H locs → ∀ ls : Array Slot, lv_has ls 6 [(0, .ref (ad a1)), (1, .int x1), (2, .int x2), (3, .int x3), (4, .int x4), (5, .int x5)] → W p l e (c_rm 0) s m ([.ref (ad a1), .int a2, .int a3] : List Value).toArray below meth c H locs 0 0 (MQ below (va_Qi (fun (x : Int32) (_ : Unit) => x = r) (fun _ t => va_P D vwCl (c_ws tc ad TC g) t.heap) A) ([.ref (ad a1), .int a2, .int a3] : List Value).toArray s 0 0 A) (F0 m 9 ls []) := by
  obtain ⟨hx, hb, hr, hml, hts, hown, hlk, hK, hE⟩ := id C
  intro n
  induction n with
  | zero =>
    intro x1 x2 x3 x4 x5 g hf
    cases hf
  | succ n ih =>
    intro x1 x2 x3 x4 x5 g hf H locs hP hS ls hl
    unfold fX11_best_9 at hf
    refine lv_iload hx hb dX11_best_9 (lv_at hl 5 rfl) ?_
    refine lv_bipush (v := (12 : Int32)) hx hb dX11_best_11 (by decide) ?_
    refine lv_icmp_ge (tgt := 54) hx hb dX11_best_13 (by decide) (fun c9001 => ?_) (fun c9001 => ?_)
    · have hf := c_it c9001 hf
      refine lv_iload_n hx hb dX11_best_54 rfl (lv_at hl 3 rfl) ?_
      exact c_iret hx hb hr hlk hP hS rfl ⟨rfl, Option.some.inj hf⟩ dX11_best_55
    · have hf := c_ie c9001 hf
      refine lv_iload_n hx hb dX11_best_16 rfl (lv_at hl 2 rfl) ?_
      refine lv_iload hx hb dX11_best_17 (lv_at hl 5 rfl) ?_
      refine lv_ishr hx hb dX11_best_19 ?_
      refine lv_iconst (v := (1 : Int32)) hx hb dX11_best_20 (by decide) ?_
      refine lv_iand hx hb dX11_best_21 ?_
      refine lv_iconst (v := (1 : Int32)) hx hb dX11_best_22 (by decide) ?_
      refine lv_icmp_ne (tgt := 48) hx hb dX11_best_23 (by decide) (fun c9002 => ?_) (fun c9002 => ?_)
      · have hf := c_ie c9002 hf
        exact jX11_best_48 C hD ih x1 x2 x3 x4 x5 g hf _ _ hP hS _ (lv_sub hl [0, 1, 2, 3, 4, 5] rfl)
      · have hf := c_it c9002 hf
        refine lv_aload_n hx hb dX11_best_26 rfl (lv_at hl 0 rfl) ?_
        refine lv_iload_n hx hb dX11_best_27 rfl (lv_at hl 1 rfl) ?_
        refine lv_iload hx hb dX11_best_28 (lv_at hl 5 rfl) ?_
        refine lv_iadd hx hb dX11_best_30 ?_
        obtain ⟨n9004, ha9003, hf⟩ := c_bd hf
        have ha9003T := c_iaE ha9003
        obtain ⟨hi9005, hf⟩ := c_gd hf
        refine c_iald (j := ((x1 + x5)).toNatClampNeg) hx hb hK hP a1 ha9003T rfl (c_inV hi9005) dX11_best_31 ?_
        refine lv_iload hx hb dX11_best_32 (lv_at hl 4 rfl) ?_
        refine lv_icmp_le (tgt := 48) hx hb dX11_best_34 (by decide) (fun c9006 => ?_) (fun c9006 => ?_)
        · have hf := c_it c9006 hf
          exact jX11_best_48 C hD ih x1 x2 x3 x4 x5 g hf _ _ hP hS _ (lv_sub hl [0, 1, 2, 3, 4, 5] rfl)
        · have hf := c_ie c9006 hf
          refine lv_aload_n hx hb dX11_best_37 rfl (lv_at hl 0 rfl) ?_
          refine lv_iload_n hx hb dX11_best_38 rfl (lv_at hl 1 rfl) ?_
          refine lv_iload hx hb dX11_best_39 (lv_at hl 5 rfl) ?_
          refine lv_iadd hx hb dX11_best_41 ?_
          refine c_iald (j := ((x1 + x5)).toNatClampNeg) hx hb hK hP a1 ha9003T rfl (c_inV hi9005) dX11_best_42 ?_
          refine lv_istore (lv' := [(4, .int (g.1 a1 ((x1 + x5)).toNatClampNeg)), (0, .ref (ad a1)), (1, .int x1), (2, .int x2), (3, .int x3), (5, .int x5)]) hx hb dX11_best_43 hl (by decide) rfl (fun ls hl => ?_)
          refine lv_iload hx hb dX11_best_45 (lv_at hl 5 rfl) ?_
          refine lv_istore_n (lv' := [(3, .int x5), (4, .int (g.1 a1 ((x1 + x5)).toNatClampNeg)), (0, .ref (ad a1)), (1, .int x1), (2, .int x2), (5, .int x5)]) hx hb dX11_best_47 rfl hl (by decide) rfl (fun ls hl => ?_)
          exact jX11_best_48 C hD ih x1 x2 x5 ((g.1 a1 ((x1 + x5)).toNatClampNeg)) x5 g hf _ _ hP hS _ (lv_sub hl [2, 3, 4, 0, 1, 5] rfl)
def fX11_best (g : c_G) (a1 : Nat) (a2 : Int32) (a3 : Int32) : Option (Int32) :=
  fX11_best_9 a1 a2 a3 c_F a2 a3 ((-5 : Int32)) ((0 : Int32)) ((0 : Int32)) g
set_option maxRecDepth 100000 in
set_option maxHeartbeats 4000000 in
theorem kX11_best {l : Launch} {D : va_G} {tc : Nat → ClassId} {ad : Nat → Nat} {A : Nat → Prop} {E : (Nat → Nat) × (Nat → Nat) × Nat} (hD : c_D A ad TC) {a1 : Nat} {a2 : Int32} {a3 : Int32} {g : c_G} {r : Int32} (hf : fX11_best g a1 a2 a3 = some r) : c_Mi l yX11_best wsX11_best (c_rm 0) D tc ad A E TC ([.ref (ad a1), .int a2, .int a3] : List Value) g g r := by
  refine c_ofW (bytes := cX11_best) (maxL := 6) (ret := (some .int)) (by decide) rfl (Nat.le_of_ble_eq_true rfl) ?_
  intro p e s m below meth c ls C hP hS hl
  unfold fX11_best at hf
  obtain ⟨hx, hb, hr, hml, hts, hown, hlk, hK, hE⟩ := id C
  have hl : lv_has ls 6 [(0, .ref (ad a1)), (1, .int a2), (2, .int a3)] := hl
  refine lv_bipush (v := (-5 : Int32)) hx hb dX11_best_0 (by decide) ?_
  refine lv_istore_n (lv' := [(3, .int (-5 : Int32)), (0, .ref (ad a1)), (1, .int a2), (2, .int a3)]) hx hb dX11_best_2 rfl hl (by decide) rfl (fun ls hl => ?_)
  refine lv_iconst (v := (0 : Int32)) hx hb dX11_best_3 (by decide) ?_
  refine lv_istore (lv' := [(4, .int (0 : Int32)), (3, .int (-5 : Int32)), (0, .ref (ad a1)), (1, .int a2), (2, .int a3)]) hx hb dX11_best_4 hl (by decide) rfl (fun ls hl => ?_)
  refine lv_iconst (v := (0 : Int32)) hx hb dX11_best_6 (by decide) ?_
  refine lv_istore (lv' := [(5, .int (0 : Int32)), (4, .int (0 : Int32)), (3, .int (-5 : Int32)), (0, .ref (ad a1)), (1, .int a2), (2, .int a3)]) hx hb dX11_best_7 hl (by decide) rfl (fun ls hl => ?_)
  exact jX11_best_9 C hD c_F a2 a3 ((-5 : Int32)) ((0 : Int32)) ((0 : Int32)) g hf _ _ hP hS _ (lv_sub hl [3, 4, 5, 2, 1, 0] rfl)
theorem i_X11_says_X11 : ∀ w ∈ u_ws RX11 TX11 19, w ∈ wsX11_says := c_inP [82, 83, 84, 85, 86, 87, 88, 89, 90, 91, 92, 93, 94, 95, 96, 97, 98, 99, 100] (by decide +kernel)
theorem dX11_says_0 : decode cX11_says 0 = .ok (.aload_n 1, 1) := by decide +kernel
theorem dX11_says_1 : decode cX11_says 1 = .ok (.iload 5, 2) := by decide +kernel
theorem dX11_says_3 : decode cX11_says 3 = .ok (.invokevirtual 330, 3) := by decide +kernel
theorem dX11_says_6 : decode cX11_says 6 = .ok (.ifCond .ne 6, 3) := by decide +kernel
theorem dX11_says_9 : decode cX11_says 9 = .ok (.bipush (-5), 2) := by decide +kernel
theorem dX11_says_11 : decode cX11_says 11 = .ok (.ireturn, 1) := by decide +kernel
theorem dX11_says_12 : decode cX11_says 12 = .ok (.aload_n 0, 1) := by decide +kernel
theorem dX11_says_13 : decode cX11_says 13 = .ok (.aload_n 1, 1) := by decide +kernel
theorem dX11_says_14 : decode cX11_says 14 = .ok (.iload_n 2, 1) := by decide +kernel
theorem dX11_says_15 : decode cX11_says 15 = .ok (.iload_n 3, 1) := by decide +kernel
theorem dX11_says_16 : decode cX11_says 16 = .ok (.iload 5, 2) := by decide +kernel
theorem dX11_says_18 : decode cX11_says 18 = .ok (.invokevirtual 167, 3) := by decide +kernel
theorem dX11_says_21 : decode cX11_says 21 = .ok (.aload_n 0, 1) := by decide +kernel
theorem dX11_says_22 : decode cX11_says 22 = .ok (.getfield 25, 3) := by decide +kernel
theorem dX11_says_25 : decode cX11_says 25 = .ok (.iconst 0, 1) := by decide +kernel
theorem dX11_says_26 : decode cX11_says 26 = .ok (.iload 4, 2) := by decide +kernel
theorem dX11_says_28 : decode cX11_says 28 = .ok (.aload_n 1, 1) := by decide +kernel
theorem dX11_says_29 : decode cX11_says 29 = .ok (.invokevirtual 204, 3) := by decide +kernel
theorem dX11_says_32 : decode cX11_says 32 = .ok (.iconst (-1), 1) := by decide +kernel
theorem dX11_says_33 : decode cX11_says 33 = .ok (.ixor, 1) := by decide +kernel
theorem dX11_says_34 : decode cX11_says 34 = .ok (.iand, 1) := by decide +kernel
theorem dX11_says_35 : decode cX11_says 35 = .ok (.invokestatic 333, 3) := by decide +kernel
theorem dX11_says_38 : decode cX11_says 38 = .ok (.ireturn, 1) := by decide +kernel
set_option maxRecDepth 20000 in
theorem ggX11_says_X7_listens : GoodIn wsX11_says wsX7_listens := goodIn_r _ [6, 7, 8, 101, 102, 103, 104, 105, 106, 107, 108, 109, 110, 111, 112, 113, 114, 115, 116, 117] (by decide +kernel) (by decide +kernel)
set_option maxRecDepth 20000 in
theorem gX11_says_X7_listens : GoodIn wsX11_says (wsV RX11 330 RX7 yX7_listens wsX7_listens) := goodIn_app (goodIn_of _ (by decide +kernel)) ggX11_says_X7_listens
set_option maxRecDepth 20000 in
theorem ggX11_says_X11_weigh : GoodIn wsX11_says wsX11_weigh := goodIn_r _ [13, 14, 15, 16, 17, 18, 19, 1, 20, 21, 22, 23, 24, 25, 26, 27, 28, 29, 30, 31, 32, 33, 34, 35, 36, 37, 38, 39, 40, 41, 42, 43, 44, 45, 46, 47, 48, 49, 50, 51, 52, 53, 54, 55, 56, 57, 58, 59, 60, 61, 62, 63, 64, 65, 66, 67, 68, 69, 70, 71, 72, 73, 82, 83, 84, 85, 86, 87, 88, 89, 90, 91, 92, 93, 94, 95, 96, 97, 98, 99, 100, 101, 102, 103, 104, 105, 106, 107, 108, 109, 110, 111, 112, 113, 114, 115, 116, 117, 118, 119, 120, 121, 122, 123, 124, 125] (by decide +kernel) (by decide +kernel)
set_option maxRecDepth 20000 in
theorem gX11_says_X11_weigh : GoodIn wsX11_says (wsV RX11 167 RX11 yX11_weigh wsX11_weigh) := goodIn_app (goodIn_of _ (by decide +kernel)) ggX11_says_X11_weigh
set_option maxRecDepth 20000 in
theorem ggX11_says_X7_used : GoodIn wsX11_says wsX7_used := goodIn_r _ [77, 78, 7, 101, 102, 103, 104, 105, 106, 107, 108, 109, 110, 111, 112, 113, 114, 115, 116, 117] (by decide +kernel) (by decide +kernel)
set_option maxRecDepth 20000 in
theorem gX11_says_X7_used : GoodIn wsX11_says (wsV RX11 204 RX7 yX7_used wsX7_used) := goodIn_app (goodIn_of _ (by decide +kernel)) ggX11_says_X7_used
set_option maxRecDepth 20000 in
theorem ggX11_says_X11_best : GoodIn wsX11_says wsX11_best := goodIn_r _ [81] (by decide +kernel) (by decide +kernel)
set_option maxRecDepth 20000 in
theorem gX11_says_X11_best : GoodIn wsX11_says (va_wsS RX11 333 yX11_best wsX11_best) := goodIn_app (goodIn_of _ (by decide +kernel)) ggX11_says_X11_best
def fX11_says (g : c_G) (a1 : Nat) (a2 : Int32) (a3 : Int32) (a4 : Int32) (a5 : Int32) : Option (c_G × Int32) :=
  if c_isS a1 = true then ((fX7_listens g a1 a5).bind fun r1 => if r1 = 0 then (some (g, (-5 : Int32))) else ((fX11_weigh g a1 a2 a3 a5).bind fun g5 => (fX7_used g5 a1).bind fun r6 => (fX11_best g5 4 ((0 : Int32)) ((a4 &&& (r6 ^^^ (-1 : Int32))))).bind fun r8 => some (g5, r8))) else none
set_option maxRecDepth 100000 in
set_option maxHeartbeats 4000000 in
theorem kX11_says {l : Launch} {D : va_G} {tc : Nat → ClassId} {ad : Nat → Nat} {A : Nat → Prop} {E : (Nat → Nat) × (Nat → Nat) × Nat} (hD : c_D A ad TC) {a1 : Nat} {a2 : Int32} {a3 : Int32} {a4 : Int32} {a5 : Int32} {g g' : c_G} {r : Int32} (hf : fX11_says g a1 a2 a3 a4 a5 = some (g', r)) : c_Mi l yX11_says wsX11_says (c_rm 3) D tc ad A E TC ([.ref (ad 0), .ref (ad a1), .int a2, .int a3, .int a4, .int a5] : List Value) g g' r := by
  refine c_ofW (bytes := cX11_says) (maxL := 6) (ret := (some .int)) (by decide) rfl (Nat.le_of_ble_eq_true rfl) ?_
  intro p e s m below meth c ls C hP hS hl
  unfold fX11_says at hf
  obtain ⟨hq_a1, hf⟩ := c_gd hf
  obtain ⟨hx, hb, hr, hml, hts, hown, hlk, hK, hE⟩ := id C
  obtain ⟨fa1_0, fa1_1, fa1_2, fa1_3, fa1_4, fa1_5, fa1_6, fa1_7, fa1_8, fa1_9, fa1_10, fa1_11, fa1_12, fa1_13⟩ := c_isSE hq_a1
  have hl : lv_has ls 6 [(0, .ref (ad 0)), (1, .ref (ad a1)), (2, .int a2), (3, .int a3), (4, .int a4), (5, .int a5)] := hl
  refine lv_aload_n hx hb dX11_says_0 rfl (lv_at hl 1 rfl) ?_
  refine lv_iload hx hb dX11_says_1 (lv_at hl 5 rfl) ?_
  obtain ⟨r1, hc2, hf⟩ := c_bd hf
  refine c_goi (va_runV (As := [.int a5]) (rest := []) ⟨hx, hb, hml, hown, hts⟩ (kX7_listens hD hc2) (cwV 1 hts gX11_says_X7_listens rfl rfl rfl (by decide +kernel) ⟨Nat.le_of_ble_eq_true rfl, Nat.le_of_ble_eq_true rfl⟩) (c_preV hK hP hE hS fa1_0 rfl) rfl rfl hl.1 rfl (lv_room (Nat.le_of_ble_eq_true rfl)) dX11_says_3 ⟨Nat.zero_le _, Nat.zero_le _⟩) hS (fun H locs hP hS => ?_)
  refine lv_if_ne (tgt := 12) hx hb dX11_says_6 (by decide) (fun c3 => ?_) (fun c3 => ?_)
  · have hf := c_ie c3 hf
    refine lv_aload_n hx hb dX11_says_12 rfl (lv_at hl 0 rfl) ?_
    refine lv_aload_n hx hb dX11_says_13 rfl (lv_at hl 1 rfl) ?_
    refine lv_iload_n hx hb dX11_says_14 rfl (lv_at hl 2 rfl) ?_
    refine lv_iload_n hx hb dX11_says_15 rfl (lv_at hl 3 rfl) ?_
    refine lv_iload hx hb dX11_says_16 (lv_at hl 5 rfl) ?_
    obtain ⟨g5, hc4, hf⟩ := c_bd hf
    refine c_gov (va_runV (As := [.ref (ad a1), .int a2, .int a3, .int a5]) (rest := []) ⟨hx, hb, hml, hown, hts⟩ (kX11_weigh hD hc4) (cwV 4 hts gX11_says_X11_weigh rfl rfl rfl (by decide +kernel) ⟨Nat.le_of_ble_eq_true rfl, Nat.le_of_ble_eq_true rfl⟩) (c_preV hK hP hE hS tC0 rfl) rfl rfl hl.1 rfl (lv_room (Nat.le_of_ble_eq_true rfl)) dX11_says_18 ⟨Nat.zero_le _, Nat.zero_le _⟩) hS (fun H locs hP hS => ?_)
    refine lv_aload_n hx hb dX11_says_21 rfl (lv_at hl 0 rfl) ?_
    refine c_get hx hb hts i_X11_says_X11 hown hK hP 0 tC0 rfl 10 (by decide) (hts _ (List.mem_of_getElem? (i := 1) rfl)) (fun _ h9 => h9) rfl (v := .ref (ad 4)) rfl dX11_says_22 ?_
    refine lv_iconst (v := (0 : Int32)) hx hb dX11_says_25 (by decide) ?_
    refine lv_iload hx hb dX11_says_26 (lv_at hl 4 rfl) ?_
    refine lv_aload_n hx hb dX11_says_28 rfl (lv_at hl 1 rfl) ?_
    obtain ⟨r6, hc7, hf⟩ := c_bd hf
    refine c_goi (va_runV (As := []) (rest := [.int a4, .int (0 : Int32), .ref (ad 4)]) ⟨hx, hb, hml, hown, hts⟩ (kX7_used hD hc7) (cwV 0 hts gX11_says_X7_used rfl rfl rfl (by decide +kernel) ⟨Nat.le_of_ble_eq_true rfl, Nat.le_of_ble_eq_true rfl⟩) (c_preV hK hP hE hS fa1_0 rfl) rfl rfl hl.1 rfl (lv_room (Nat.le_of_ble_eq_true rfl)) dX11_says_29 ⟨Nat.zero_le _, Nat.zero_le _⟩) hS (fun H locs hP hS => ?_)
    refine lv_iconst (v := (-1 : Int32)) hx hb dX11_says_32 (by decide) ?_
    refine lv_ixor hx hb dX11_says_33 ?_
    refine lv_iand hx hb dX11_says_34 ?_
    obtain ⟨r8, hc9, hf⟩ := c_bd hf
    refine c_goi (va_runS (As := [.ref (ad 4), .int (0 : Int32), .int (a4 &&& (r6 ^^^ (-1 : Int32)))]) (rest := []) ⟨hx, hb, hml, hown, hts⟩ (kX11_best hD hc9) (va_cwS 3 hts gX11_says_X11_best rfl rfl rfl (by decide +kernel) ⟨Nat.le_of_ble_eq_true rfl, Nat.le_of_ble_eq_true rfl⟩) (c_preS hK hP hE hS) rfl rfl hl.1 rfl (lv_room (Nat.le_of_ble_eq_true rfl)) dX11_says_35 ⟨Nat.zero_le _, Nat.zero_le _⟩) hS (fun H locs hP hS => ?_)
    exact c_iret hx hb hr hlk hP hS rfl (c_inj hf) dX11_says_38
  · have hf := c_it c3 hf
    refine lv_bipush (v := (-5 : Int32)) hx hb dX11_says_9 (by decide) ?_
    exact c_iret hx hb hr hlk hP hS rfl (c_inj hf) dX11_says_11
theorem i_X11_saysNow_X7 : ∀ w ∈ u_ws RX7 TX7 17, w ∈ wsX11_saysNow := c_inP [108, 109, 110, 111, 112, 113, 114, 115, 116, 117, 118, 119, 120, 121, 122, 123, 124] (by decide +kernel)
theorem i_X11_saysNow_X11 : ∀ w ∈ u_ws RX11 TX11 19, w ∈ wsX11_saysNow := c_inP [89, 90, 91, 92, 93, 94, 95, 96, 97, 98, 99, 100, 101, 102, 103, 104, 105, 106, 107] (by decide +kernel)
theorem dX11_saysNow_0 : decode cX11_saysNow 0 = .ok (.aload_n 0, 1) := by decide +kernel
theorem dX11_saysNow_1 : decode cX11_saysNow 1 = .ok (.aload_n 0, 1) := by decide +kernel
theorem dX11_saysNow_2 : decode cX11_saysNow 2 = .ok (.getfield 88, 3) := by decide +kernel
theorem dX11_saysNow_5 : decode cX11_saysNow 5 = .ok (.iload_n 1, 1) := by decide +kernel
theorem dX11_saysNow_6 : decode cX11_saysNow 6 = .ok (.aload_n 0, 1) := by decide +kernel
theorem dX11_saysNow_7 : decode cX11_saysNow 7 = .ok (.getfield 88, 3) := by decide +kernel
theorem dX11_saysNow_10 : decode cX11_saysNow 10 = .ok (.getfield 125, 3) := by decide +kernel
theorem dX11_saysNow_13 : decode cX11_saysNow 13 = .ok (.iload_n 1, 1) := by decide +kernel
theorem dX11_saysNow_14 : decode cX11_saysNow 14 = .ok (.iaload, 1) := by decide +kernel
theorem dX11_saysNow_15 : decode cX11_saysNow 15 = .ok (.aload_n 0, 1) := by decide +kernel
theorem dX11_saysNow_16 : decode cX11_saysNow 16 = .ok (.getfield 88, 3) := by decide +kernel
theorem dX11_saysNow_19 : decode cX11_saysNow 19 = .ok (.getfield 128, 3) := by decide +kernel
theorem dX11_saysNow_22 : decode cX11_saysNow 22 = .ok (.iload_n 1, 1) := by decide +kernel
theorem dX11_saysNow_23 : decode cX11_saysNow 23 = .ok (.iaload, 1) := by decide +kernel
theorem dX11_saysNow_24 : decode cX11_saysNow 24 = .ok (.iload_n 2, 1) := by decide +kernel
theorem dX11_saysNow_25 : decode cX11_saysNow 25 = .ok (.invokevirtual 229, 3) := by decide +kernel
theorem dX11_saysNow_28 : decode cX11_saysNow 28 = .ok (.ireturn, 1) := by decide +kernel
set_option maxRecDepth 20000 in
theorem ggX11_saysNow_X11_says : GoodIn wsX11_saysNow wsX11_says := goodIn_r _ [8, 9, 10, 11, 12, 13, 14, 15, 16, 17, 18, 19, 7, 20, 21, 22, 23, 24, 25, 26, 27, 28, 29, 30, 31, 32, 33, 34, 35, 36, 37, 38, 39, 40, 41, 42, 43, 44, 45, 46, 47, 48, 49, 50, 51, 52, 53, 54, 55, 56, 57, 58, 59, 60, 61, 62, 63, 64, 65, 66, 67, 68, 69, 70, 71, 72, 73, 74, 75, 76, 77, 78, 79, 80, 81, 82, 83, 84, 85, 86, 87, 88, 89, 90, 91, 92, 93, 94, 95, 96, 97, 98, 99, 100, 101, 102, 103, 104, 105, 106, 107, 108, 109, 110, 111, 112, 113, 114, 115, 116, 117, 118, 119, 120, 121, 122, 123, 124, 125, 126, 127, 128, 129, 130, 131, 132] (by decide +kernel) (by decide +kernel)
set_option maxRecDepth 20000 in
theorem gX11_saysNow_X11_says : GoodIn wsX11_saysNow (wsV RX11 229 RX11 yX11_says wsX11_says) := goodIn_app (goodIn_of _ (by decide +kernel)) ggX11_saysNow_X11_says
def fX11_saysNow (g : c_G) (a1 : Int32) (a2 : Int32) : Option (c_G × Int32) :=
  if c_in (a1) (6) = true then c_b2 (fX11_says g 55 a1 ((g.1 61 (a1).toNatClampNeg)) ((g.1 62 (a1).toNatClampNeg)) a2) fun g3 r4 => some (g3, r4) else none
set_option maxRecDepth 100000 in
set_option maxHeartbeats 4000000 in
theorem kX11_saysNow {l : Launch} {D : va_G} {tc : Nat → ClassId} {ad : Nat → Nat} {A : Nat → Prop} {E : (Nat → Nat) × (Nat → Nat) × Nat} (hD : c_D A ad TC) {a1 : Int32} {a2 : Int32} {g g' : c_G} {r : Int32} (hf : fX11_saysNow g a1 a2 = some (g', r)) : c_Mi l yX11_saysNow wsX11_saysNow (c_rm 4) D tc ad A E TC ([.ref (ad 0), .int a1, .int a2] : List Value) g g' r := by
  refine c_ofW (bytes := cX11_saysNow) (maxL := 3) (ret := (some .int)) (by decide) rfl (Nat.le_of_ble_eq_true rfl) ?_
  intro p e s m below meth c ls C hP hS hl
  unfold fX11_saysNow at hf
  obtain ⟨hx, hb, hr, hml, hts, hown, hlk, hK, hE⟩ := id C
  have hl : lv_has ls 3 [(0, .ref (ad 0)), (1, .int a1), (2, .int a2)] := hl
  refine lv_aload_n hx hb dX11_saysNow_0 rfl (lv_at hl 0 rfl) ?_
  refine lv_aload_n hx hb dX11_saysNow_1 rfl (lv_at hl 0 rfl) ?_
  refine c_get hx hb hts i_X11_saysNow_X11 hown hK hP 0 tC0 rfl 5 (by decide) (hts _ (List.mem_of_getElem? (i := 1) rfl)) (fun _ h9 => h9) rfl (v := .ref (ad 55)) rfl dX11_saysNow_2 ?_
  refine lv_iload_n hx hb dX11_saysNow_5 rfl (lv_at hl 1 rfl) ?_
  refine lv_aload_n hx hb dX11_saysNow_6 rfl (lv_at hl 0 rfl) ?_
  refine c_get hx hb hts i_X11_saysNow_X11 hown hK hP 0 tC0 rfl 5 (by decide) (hts _ (List.mem_of_getElem? (i := 1) rfl)) (fun _ h9 => h9) rfl (v := .ref (ad 55)) rfl dX11_saysNow_7 ?_
  refine c_get hx hb hts i_X11_saysNow_X7 hown hK hP 55 tC55 rfl 8 (by decide) (hts _ (List.mem_of_getElem? (i := 2) rfl)) (fun _ h9 => h9) rfl (v := .ref (ad 61)) rfl dX11_saysNow_10 ?_
  refine lv_iload_n hx hb dX11_saysNow_13 rfl (lv_at hl 1 rfl) ?_
  obtain ⟨hi1, hf⟩ := c_gd hf
  refine c_iald (j := (a1).toNatClampNeg) hx hb hK hP 61 tC61 rfl (c_inV hi1) dX11_saysNow_14 ?_
  refine lv_aload_n hx hb dX11_saysNow_15 rfl (lv_at hl 0 rfl) ?_
  refine c_get hx hb hts i_X11_saysNow_X11 hown hK hP 0 tC0 rfl 5 (by decide) (hts _ (List.mem_of_getElem? (i := 1) rfl)) (fun _ h9 => h9) rfl (v := .ref (ad 55)) rfl dX11_saysNow_16 ?_
  refine c_get hx hb hts i_X11_saysNow_X7 hown hK hP 55 tC55 rfl 9 (by decide) (hts _ (List.mem_of_getElem? (i := 3) rfl)) (fun _ h9 => h9) rfl (v := .ref (ad 62)) rfl dX11_saysNow_19 ?_
  refine lv_iload_n hx hb dX11_saysNow_22 rfl (lv_at hl 1 rfl) ?_
  refine c_iald (j := (a1).toNatClampNeg) hx hb hK hP 62 tC62 rfl (c_inV hi1) dX11_saysNow_23 ?_
  refine lv_iload_n hx hb dX11_saysNow_24 rfl (lv_at hl 2 rfl) ?_
  obtain ⟨g3, r4, hc2, hf⟩ := c_b2E hf
  refine c_goi (va_runV (As := [.ref (ad 55), .int a1, .int (g.1 61 (a1).toNatClampNeg), .int (g.1 62 (a1).toNatClampNeg), .int a2]) (rest := []) ⟨hx, hb, hml, hown, hts⟩ (kX11_says hD hc2) (cwV 5 hts gX11_saysNow_X11_says rfl rfl rfl (by decide +kernel) ⟨Nat.le_of_ble_eq_true rfl, Nat.le_of_ble_eq_true rfl⟩) (c_preV hK hP hE hS tC0 rfl) rfl rfl hl.1 rfl (lv_room (Nat.le_of_ble_eq_true rfl)) dX11_saysNow_25 ⟨Nat.zero_le _, Nat.zero_le _⟩) hS (fun H locs hP hS => ?_)
  exact c_iret hx hb hr hlk hP hS rfl (c_inj hf) dX11_saysNow_28
theorem i_X11_of_X7 : ∀ w ∈ u_ws RX7 TX7 17, w ∈ wsX11_of := c_inP [145, 146, 147, 148, 149, 150, 151, 152, 153, 154, 155, 156, 157, 158, 159, 160, 161] (by decide +kernel)
theorem i_X11_of_X11 : ∀ w ∈ u_ws RX11 TX11 19, w ∈ wsX11_of := c_inP [126, 127, 128, 129, 130, 131, 132, 133, 134, 135, 136, 137, 138, 139, 140, 141, 142, 143, 144] (by decide +kernel)
theorem dX11_of_0 : decode cX11_of 0 = .ok (.aload_n 0, 1) := by decide +kernel
theorem dX11_of_1 : decode cX11_of 1 = .ok (.iload_n 1, 1) := by decide +kernel
theorem dX11_of_2 : decode cX11_of 2 = .ok (.invokevirtual 119, 3) := by decide +kernel
theorem dX11_of_5 : decode cX11_of 5 = .ok (.ifCond .ne 5, 3) := by decide +kernel
theorem dX11_of_8 : decode cX11_of 8 = .ok (.iconst (-1), 1) := by decide +kernel
theorem dX11_of_9 : decode cX11_of 9 = .ok (.ireturn, 1) := by decide +kernel
theorem dX11_of_10 : decode cX11_of 10 = .ok (.iload_n 2, 1) := by decide +kernel
theorem dX11_of_11 : decode cX11_of 11 = .ok (.tableswitch 105 0 6 #[41, 51, 61, 71, 81, 91, 98], 41) := by decide +kernel
theorem dX11_of_52 : decode cX11_of 52 = .ok (.aload_n 0, 1) := by decide +kernel
theorem dX11_of_53 : decode cX11_of 53 = .ok (.getfield 88, 3) := by decide +kernel
theorem dX11_of_56 : decode cX11_of 56 = .ok (.getfield 122, 3) := by decide +kernel
theorem dX11_of_59 : decode cX11_of 59 = .ok (.iload_n 1, 1) := by decide +kernel
theorem dX11_of_60 : decode cX11_of 60 = .ok (.iaload, 1) := by decide +kernel
theorem dX11_of_61 : decode cX11_of 61 = .ok (.ireturn, 1) := by decide +kernel
theorem dX11_of_62 : decode cX11_of 62 = .ok (.aload_n 0, 1) := by decide +kernel
theorem dX11_of_63 : decode cX11_of 63 = .ok (.getfield 88, 3) := by decide +kernel
theorem dX11_of_66 : decode cX11_of 66 = .ok (.getfield 125, 3) := by decide +kernel
theorem dX11_of_69 : decode cX11_of 69 = .ok (.iload_n 1, 1) := by decide +kernel
theorem dX11_of_70 : decode cX11_of 70 = .ok (.iaload, 1) := by decide +kernel
theorem dX11_of_71 : decode cX11_of 71 = .ok (.ireturn, 1) := by decide +kernel
theorem dX11_of_72 : decode cX11_of 72 = .ok (.aload_n 0, 1) := by decide +kernel
theorem dX11_of_73 : decode cX11_of 73 = .ok (.getfield 88, 3) := by decide +kernel
theorem dX11_of_76 : decode cX11_of 76 = .ok (.getfield 128, 3) := by decide +kernel
theorem dX11_of_79 : decode cX11_of 79 = .ok (.iload_n 1, 1) := by decide +kernel
theorem dX11_of_80 : decode cX11_of 80 = .ok (.iaload, 1) := by decide +kernel
theorem dX11_of_81 : decode cX11_of 81 = .ok (.ireturn, 1) := by decide +kernel
theorem dX11_of_82 : decode cX11_of 82 = .ok (.aload_n 0, 1) := by decide +kernel
theorem dX11_of_83 : decode cX11_of 83 = .ok (.getfield 88, 3) := by decide +kernel
theorem dX11_of_86 : decode cX11_of 86 = .ok (.getfield 131, 3) := by decide +kernel
theorem dX11_of_89 : decode cX11_of 89 = .ok (.iload_n 1, 1) := by decide +kernel
theorem dX11_of_90 : decode cX11_of 90 = .ok (.iaload, 1) := by decide +kernel
theorem dX11_of_91 : decode cX11_of 91 = .ok (.ireturn, 1) := by decide +kernel
theorem dX11_of_92 : decode cX11_of 92 = .ok (.aload_n 0, 1) := by decide +kernel
theorem dX11_of_93 : decode cX11_of 93 = .ok (.getfield 88, 3) := by decide +kernel
theorem dX11_of_96 : decode cX11_of 96 = .ok (.getfield 134, 3) := by decide +kernel
theorem dX11_of_99 : decode cX11_of 99 = .ok (.iload_n 1, 1) := by decide +kernel
theorem dX11_of_100 : decode cX11_of 100 = .ok (.iaload, 1) := by decide +kernel
theorem dX11_of_101 : decode cX11_of 101 = .ok (.ireturn, 1) := by decide +kernel
theorem dX11_of_102 : decode cX11_of 102 = .ok (.aload_n 0, 1) := by decide +kernel
theorem dX11_of_103 : decode cX11_of 103 = .ok (.iload_n 1, 1) := by decide +kernel
theorem dX11_of_104 : decode cX11_of 104 = .ok (.iconst 0, 1) := by decide +kernel
theorem dX11_of_105 : decode cX11_of 105 = .ok (.invokevirtual 137, 3) := by decide +kernel
theorem dX11_of_108 : decode cX11_of 108 = .ok (.ireturn, 1) := by decide +kernel
theorem dX11_of_109 : decode cX11_of 109 = .ok (.aload_n 0, 1) := by decide +kernel
theorem dX11_of_110 : decode cX11_of 110 = .ok (.iload_n 1, 1) := by decide +kernel
theorem dX11_of_111 : decode cX11_of 111 = .ok (.iconst 1, 1) := by decide +kernel
theorem dX11_of_112 : decode cX11_of 112 = .ok (.invokevirtual 137, 3) := by decide +kernel
theorem dX11_of_115 : decode cX11_of 115 = .ok (.ireturn, 1) := by decide +kernel
theorem dX11_of_116 : decode cX11_of 116 = .ok (.iload_n 2, 1) := by decide +kernel
theorem dX11_of_117 : decode cX11_of 117 = .ok (.bipush 10, 2) := by decide +kernel
theorem dX11_of_119 : decode cX11_of 119 = .ok (.isub, 1) := by decide +kernel
theorem dX11_of_120 : decode cX11_of 120 = .ok (.invokestatic 141, 3) := by decide +kernel
theorem dX11_of_123 : decode cX11_of 123 = .ok (.ifCond .eq 15, 3) := by decide +kernel
theorem dX11_of_126 : decode cX11_of 126 = .ok (.aload_n 0, 1) := by decide +kernel
theorem dX11_of_127 : decode cX11_of 127 = .ok (.iload_n 1, 1) := by decide +kernel
theorem dX11_of_128 : decode cX11_of 128 = .ok (.iload_n 2, 1) := by decide +kernel
theorem dX11_of_129 : decode cX11_of 129 = .ok (.bipush 10, 2) := by decide +kernel
theorem dX11_of_131 : decode cX11_of 131 = .ok (.isub, 1) := by decide +kernel
theorem dX11_of_132 : decode cX11_of 132 = .ok (.invokevirtual 144, 3) := by decide +kernel
theorem dX11_of_135 : decode cX11_of 135 = .ok (.goto 4, 3) := by decide +kernel
theorem dX11_of_138 : decode cX11_of 138 = .ok (.iconst (-1), 1) := by decide +kernel
theorem dX11_of_139 : decode cX11_of 139 = .ok (.ireturn, 1) := by decide +kernel
set_option maxRecDepth 20000 in
theorem ggX11_of_X11_isChild : GoodIn wsX11_of wsX11_isChild := goodIn_r _ [11, 1, 12, 126, 127, 128, 129, 130, 131, 132, 133, 134, 135, 136, 137, 138, 139, 140, 141, 142, 143, 144, 145, 146, 147, 148, 149, 150, 151, 152, 153, 154, 155, 156, 157, 158, 159, 160, 161] (by decide +kernel) (by decide +kernel)
set_option maxRecDepth 20000 in
theorem gX11_of_X11_isChild : GoodIn wsX11_of (wsV RX11 119 RX11 yX11_isChild wsX11_isChild) := goodIn_app (goodIn_of _ (by decide +kernel)) ggX11_of_X11_isChild
set_option maxRecDepth 20000 in
theorem ggX11_of_X11_knew : GoodIn wsX11_of wsX11_knew := goodIn_r _ [16, 1, 17, 18, 19, 20, 21, 22, 23, 24, 10, 25, 3, 26, 27, 28, 29, 30, 31, 32, 33, 34, 35, 36, 37, 38, 2, 39, 40, 5, 41, 42, 43, 44, 45, 46, 47, 48, 49, 50, 51, 52, 53, 54, 55, 56, 57, 58, 59, 60, 61, 62, 63, 64, 65, 66, 67, 68, 69, 70, 71, 72, 73, 74, 75, 76, 77, 78, 79, 80, 81, 82, 83, 84, 85, 86, 87, 88, 89, 90, 91, 92, 93, 94, 95, 96, 97, 98, 99, 100, 101, 102, 103, 104, 105, 106, 107, 108, 109, 110, 111, 126, 127, 128, 129, 130, 131, 132, 133, 134, 135, 136, 137, 138, 139, 140, 141, 142, 143, 144, 145, 146, 147, 148, 149, 150, 151, 152, 153, 154, 155, 156, 157, 158, 159, 160, 161, 162, 163, 164, 165, 166, 167, 168, 169, 170, 171, 172, 173] (by decide +kernel) (by decide +kernel)
set_option maxRecDepth 20000 in
theorem gX11_of_X11_knew : GoodIn wsX11_of (wsV RX11 137 RX11 yX11_knew wsX11_knew) := goodIn_app (goodIn_of _ (by decide +kernel)) ggX11_of_X11_knew
set_option maxRecDepth 20000 in
theorem ggX11_of_X11_isElder : GoodIn wsX11_of wsX11_isElder := goodIn_r _ [114] (by decide +kernel) (by decide +kernel)
set_option maxRecDepth 20000 in
theorem gX11_of_X11_isElder : GoodIn wsX11_of (va_wsS RX11 141 yX11_isElder wsX11_isElder) := goodIn_app (goodIn_of _ (by decide +kernel)) ggX11_of_X11_isElder
set_option maxRecDepth 20000 in
theorem ggX11_of_X11_saysNow : GoodIn wsX11_of wsX11_saysNow := goodIn_r _ [118, 1, 3, 4, 119, 120, 121, 10, 122, 26, 27, 28, 29, 30, 31, 32, 33, 34, 35, 36, 37, 38, 2, 39, 40, 5, 41, 42, 43, 44, 45, 46, 47, 48, 49, 50, 51, 52, 53, 54, 55, 56, 57, 58, 59, 60, 61, 62, 63, 64, 65, 66, 67, 68, 69, 70, 71, 72, 73, 74, 75, 76, 77, 78, 79, 80, 81, 82, 83, 84, 85, 86, 87, 88, 89, 90, 91, 92, 93, 94, 95, 96, 97, 98, 99, 100, 123, 124, 125, 126, 127, 128, 129, 130, 131, 132, 133, 134, 135, 136, 137, 138, 139, 140, 141, 142, 143, 144, 145, 146, 147, 148, 149, 150, 151, 152, 153, 154, 155, 156, 157, 158, 159, 160, 161, 166, 167, 168, 169, 170, 171, 172, 173] (by decide +kernel) (by decide +kernel)
set_option maxRecDepth 20000 in
theorem gX11_of_X11_saysNow : GoodIn wsX11_of (wsV RX11 144 RX11 yX11_saysNow wsX11_saysNow) := goodIn_app (goodIn_of _ (by decide +kernel)) ggX11_of_X11_saysNow
def fX11_of (g : c_G) (a1 : Int32) (a2 : Int32) : Option (c_G × Int32) :=
  (fX11_isChild g a1).bind fun r1 => if r1 = 0 then (some (g, (-1 : Int32))) else (if a2 = (0 : Int32) then (if c_in (a1) (6) = true then some (g, (g.1 60 (a1).toNatClampNeg)) else none) else if a2 = (1 : Int32) then (if c_in (a1) (6) = true then some (g, (g.1 61 (a1).toNatClampNeg)) else none) else if a2 = (2 : Int32) then (if c_in (a1) (6) = true then some (g, (g.1 62 (a1).toNatClampNeg)) else none) else if a2 = (3 : Int32) then (if c_in (a1) (6) = true then some (g, (g.1 63 (a1).toNatClampNeg)) else none) else if a2 = (4 : Int32) then (if c_in (a1) (6) = true then some (g, (g.1 64 (a1).toNatClampNeg)) else none) else if a2 = (5 : Int32) then (c_b2 (fX11_knew g a1 ((0 : Int32))) fun g16 r17 => some (g16, r17)) else if a2 = (6 : Int32) then (c_b2 (fX11_knew g a1 ((1 : Int32))) fun g20 r21 => some (g20, r21)) else (if (fX11_isElder ((a2 - (10 : Int32)))) = 0 then (some (g, (-1 : Int32))) else (c_b2 (fX11_saysNow g a1 ((a2 - (10 : Int32)))) fun g24 r25 => some (g24, r25))))
set_option maxRecDepth 100000 in
set_option maxHeartbeats 4000000 in
theorem kX11_of {l : Launch} {D : va_G} {tc : Nat → ClassId} {ad : Nat → Nat} {A : Nat → Prop} {E : (Nat → Nat) × (Nat → Nat) × Nat} (hD : c_D A ad TC) {a1 : Int32} {a2 : Int32} {g g' : c_G} {r : Int32} (hf : fX11_of g a1 a2 = some (g', r)) : c_Mi l yX11_of wsX11_of (c_rm 5) D tc ad A E TC ([.ref (ad 0), .int a1, .int a2] : List Value) g g' r := by
  refine c_ofW (bytes := cX11_of) (maxL := 3) (ret := (some .int)) (by decide) rfl (Nat.le_of_ble_eq_true rfl) ?_
  intro p e s m below meth c ls C hP hS hl
  unfold fX11_of at hf
  obtain ⟨hx, hb, hr, hml, hts, hown, hlk, hK, hE⟩ := id C
  have hl : lv_has ls 3 [(0, .ref (ad 0)), (1, .int a1), (2, .int a2)] := hl
  refine lv_aload_n hx hb dX11_of_0 rfl (lv_at hl 0 rfl) ?_
  refine lv_iload_n hx hb dX11_of_1 rfl (lv_at hl 1 rfl) ?_
  obtain ⟨r1, hc2, hf⟩ := c_bd hf
  refine c_goi (va_runV (As := [.int a1]) (rest := []) ⟨hx, hb, hml, hown, hts⟩ (kX11_isChild hD hc2) (cwV 1 hts gX11_of_X11_isChild rfl rfl rfl (by decide +kernel) ⟨Nat.le_of_ble_eq_true rfl, Nat.le_of_ble_eq_true rfl⟩) (c_preV hK hP hE hS tC0 rfl) rfl rfl hl.1 rfl (lv_room (Nat.le_of_ble_eq_true rfl)) dX11_of_2 ⟨Nat.zero_le _, Nat.zero_le _⟩) hS (fun H locs hP hS => ?_)
  refine lv_if_ne (tgt := 10) hx hb dX11_of_5 (by decide) (fun c3 => ?_) (fun c3 => ?_)
  · have hf := c_ie c3 hf
    refine lv_iload_n hx hb dX11_of_10 rfl (lv_at hl 2 rfl) ?_
    by_cases c4 : a2 = (0 : Int32)
    · have hf := c_it c4 hf
      refine lv_tableIn (off := 41) (tgt := 52) hx hb dX11_of_11 (by rw [c4]; decide) (by rw [c4]; decide) (by rw [c4]; rfl) (by decide) ?_
      refine lv_aload_n hx hb dX11_of_52 rfl (lv_at hl 0 rfl) ?_
      refine c_get hx hb hts i_X11_of_X11 hown hK hP 0 tC0 rfl 5 (by decide) (hts _ (List.mem_of_getElem? (i := 1) rfl)) (fun _ h9 => h9) rfl (v := .ref (ad 55)) rfl dX11_of_53 ?_
      refine c_get hx hb hts i_X11_of_X7 hown hK hP 55 tC55 rfl 7 (by decide) (hts _ (List.mem_of_getElem? (i := 2) rfl)) (fun _ h9 => h9) rfl (v := .ref (ad 60)) rfl dX11_of_56 ?_
      refine lv_iload_n hx hb dX11_of_59 rfl (lv_at hl 1 rfl) ?_
      obtain ⟨hi5, hf⟩ := c_gd hf
      refine c_iald (j := (a1).toNatClampNeg) hx hb hK hP 60 tC60 rfl (c_inV hi5) dX11_of_60 ?_
      exact c_iret hx hb hr hlk hP hS rfl (c_inj hf) dX11_of_61
    have hf := c_ie c4 hf
    by_cases c6 : a2 = (1 : Int32)
    · have hf := c_it c6 hf
      refine lv_tableIn (off := 51) (tgt := 62) hx hb dX11_of_11 (by rw [c6]; decide) (by rw [c6]; decide) (by rw [c6]; rfl) (by decide) ?_
      refine lv_aload_n hx hb dX11_of_62 rfl (lv_at hl 0 rfl) ?_
      refine c_get hx hb hts i_X11_of_X11 hown hK hP 0 tC0 rfl 5 (by decide) (hts _ (List.mem_of_getElem? (i := 1) rfl)) (fun _ h9 => h9) rfl (v := .ref (ad 55)) rfl dX11_of_63 ?_
      refine c_get hx hb hts i_X11_of_X7 hown hK hP 55 tC55 rfl 8 (by decide) (hts _ (List.mem_of_getElem? (i := 3) rfl)) (fun _ h9 => h9) rfl (v := .ref (ad 61)) rfl dX11_of_66 ?_
      refine lv_iload_n hx hb dX11_of_69 rfl (lv_at hl 1 rfl) ?_
      obtain ⟨hi7, hf⟩ := c_gd hf
      refine c_iald (j := (a1).toNatClampNeg) hx hb hK hP 61 tC61 rfl (c_inV hi7) dX11_of_70 ?_
      exact c_iret hx hb hr hlk hP hS rfl (c_inj hf) dX11_of_71
    have hf := c_ie c6 hf
    by_cases c8 : a2 = (2 : Int32)
    · have hf := c_it c8 hf
      refine lv_tableIn (off := 61) (tgt := 72) hx hb dX11_of_11 (by rw [c8]; decide) (by rw [c8]; decide) (by rw [c8]; rfl) (by decide) ?_
      refine lv_aload_n hx hb dX11_of_72 rfl (lv_at hl 0 rfl) ?_
      refine c_get hx hb hts i_X11_of_X11 hown hK hP 0 tC0 rfl 5 (by decide) (hts _ (List.mem_of_getElem? (i := 1) rfl)) (fun _ h9 => h9) rfl (v := .ref (ad 55)) rfl dX11_of_73 ?_
      refine c_get hx hb hts i_X11_of_X7 hown hK hP 55 tC55 rfl 9 (by decide) (hts _ (List.mem_of_getElem? (i := 4) rfl)) (fun _ h9 => h9) rfl (v := .ref (ad 62)) rfl dX11_of_76 ?_
      refine lv_iload_n hx hb dX11_of_79 rfl (lv_at hl 1 rfl) ?_
      obtain ⟨hi9, hf⟩ := c_gd hf
      refine c_iald (j := (a1).toNatClampNeg) hx hb hK hP 62 tC62 rfl (c_inV hi9) dX11_of_80 ?_
      exact c_iret hx hb hr hlk hP hS rfl (c_inj hf) dX11_of_81
    have hf := c_ie c8 hf
    by_cases c10 : a2 = (3 : Int32)
    · have hf := c_it c10 hf
      refine lv_tableIn (off := 71) (tgt := 82) hx hb dX11_of_11 (by rw [c10]; decide) (by rw [c10]; decide) (by rw [c10]; rfl) (by decide) ?_
      refine lv_aload_n hx hb dX11_of_82 rfl (lv_at hl 0 rfl) ?_
      refine c_get hx hb hts i_X11_of_X11 hown hK hP 0 tC0 rfl 5 (by decide) (hts _ (List.mem_of_getElem? (i := 1) rfl)) (fun _ h9 => h9) rfl (v := .ref (ad 55)) rfl dX11_of_83 ?_
      refine c_get hx hb hts i_X11_of_X7 hown hK hP 55 tC55 rfl 10 (by decide) (hts _ (List.mem_of_getElem? (i := 5) rfl)) (fun _ h9 => h9) rfl (v := .ref (ad 63)) rfl dX11_of_86 ?_
      refine lv_iload_n hx hb dX11_of_89 rfl (lv_at hl 1 rfl) ?_
      obtain ⟨hi11, hf⟩ := c_gd hf
      refine c_iald (j := (a1).toNatClampNeg) hx hb hK hP 63 tC63 rfl (c_inV hi11) dX11_of_90 ?_
      exact c_iret hx hb hr hlk hP hS rfl (c_inj hf) dX11_of_91
    have hf := c_ie c10 hf
    by_cases c12 : a2 = (4 : Int32)
    · have hf := c_it c12 hf
      refine lv_tableIn (off := 81) (tgt := 92) hx hb dX11_of_11 (by rw [c12]; decide) (by rw [c12]; decide) (by rw [c12]; rfl) (by decide) ?_
      refine lv_aload_n hx hb dX11_of_92 rfl (lv_at hl 0 rfl) ?_
      refine c_get hx hb hts i_X11_of_X11 hown hK hP 0 tC0 rfl 5 (by decide) (hts _ (List.mem_of_getElem? (i := 1) rfl)) (fun _ h9 => h9) rfl (v := .ref (ad 55)) rfl dX11_of_93 ?_
      refine c_get hx hb hts i_X11_of_X7 hown hK hP 55 tC55 rfl 11 (by decide) (hts _ (List.mem_of_getElem? (i := 6) rfl)) (fun _ h9 => h9) rfl (v := .ref (ad 64)) rfl dX11_of_96 ?_
      refine lv_iload_n hx hb dX11_of_99 rfl (lv_at hl 1 rfl) ?_
      obtain ⟨hi13, hf⟩ := c_gd hf
      refine c_iald (j := (a1).toNatClampNeg) hx hb hK hP 64 tC64 rfl (c_inV hi13) dX11_of_100 ?_
      exact c_iret hx hb hr hlk hP hS rfl (c_inj hf) dX11_of_101
    have hf := c_ie c12 hf
    by_cases c14 : a2 = (5 : Int32)
    · have hf := c_it c14 hf
      refine lv_tableIn (off := 91) (tgt := 102) hx hb dX11_of_11 (by rw [c14]; decide) (by rw [c14]; decide) (by rw [c14]; rfl) (by decide) ?_
      refine lv_aload_n hx hb dX11_of_102 rfl (lv_at hl 0 rfl) ?_
      refine lv_iload_n hx hb dX11_of_103 rfl (lv_at hl 1 rfl) ?_
      refine lv_iconst (v := (0 : Int32)) hx hb dX11_of_104 (by decide) ?_
      obtain ⟨g16, r17, hc15, hf⟩ := c_b2E hf
      refine c_goi (va_runV (As := [.int a1, .int (0 : Int32)]) (rest := []) ⟨hx, hb, hml, hown, hts⟩ (kX11_knew hD hc15) (cwV 2 hts gX11_of_X11_knew rfl rfl rfl (by decide +kernel) ⟨Nat.le_of_ble_eq_true rfl, Nat.le_of_ble_eq_true rfl⟩) (c_preV hK hP hE hS tC0 rfl) rfl rfl hl.1 rfl (lv_room (Nat.le_of_ble_eq_true rfl)) dX11_of_105 ⟨Nat.zero_le _, Nat.zero_le _⟩) hS (fun H locs hP hS => ?_)
      exact c_iret hx hb hr hlk hP hS rfl (c_inj hf) dX11_of_108
    have hf := c_ie c14 hf
    by_cases c18 : a2 = (6 : Int32)
    · have hf := c_it c18 hf
      refine lv_tableIn (off := 98) (tgt := 109) hx hb dX11_of_11 (by rw [c18]; decide) (by rw [c18]; decide) (by rw [c18]; rfl) (by decide) ?_
      refine lv_aload_n hx hb dX11_of_109 rfl (lv_at hl 0 rfl) ?_
      refine lv_iload_n hx hb dX11_of_110 rfl (lv_at hl 1 rfl) ?_
      refine lv_iconst (v := (1 : Int32)) hx hb dX11_of_111 (by decide) ?_
      obtain ⟨g20, r21, hc19, hf⟩ := c_b2E hf
      refine c_goi (va_runV (As := [.int a1, .int (1 : Int32)]) (rest := []) ⟨hx, hb, hml, hown, hts⟩ (kX11_knew hD hc19) (cwV 2 hts gX11_of_X11_knew rfl rfl rfl (by decide +kernel) ⟨Nat.le_of_ble_eq_true rfl, Nat.le_of_ble_eq_true rfl⟩) (c_preV hK hP hE hS tC0 rfl) rfl rfl hl.1 rfl (lv_room (Nat.le_of_ble_eq_true rfl)) dX11_of_112 ⟨Nat.zero_le _, Nat.zero_le _⟩) hS (fun H locs hP hS => ?_)
      exact c_iret hx hb hr hlk hP hS rfl (c_inj hf) dX11_of_115
    have hf := c_ie c18 hf
    have h9 := c_sw (x := a2) (lo := 0) (n := 6) (by decide) (fun k hj hk => by rcases (show k = 0 ∨ k = 1 ∨ k = 2 ∨ k = 3 ∨ k = 4 ∨ k = 5 ∨ k = 6 by omega) with rfl | rfl | rfl | rfl | rfl | rfl | rfl <;> assumption)
    refine lv_tableOut (tgt := 116) hx hb dX11_of_11 (by omega) (by decide) ?_
    refine lv_iload_n hx hb dX11_of_116 rfl (lv_at hl 2 rfl) ?_
    refine lv_bipush (v := (10 : Int32)) hx hb dX11_of_117 (by decide) ?_
    refine lv_isub hx hb dX11_of_119 ?_
    refine c_goi (va_runS (As := [.int (a2 - (10 : Int32))]) (rest := []) ⟨hx, hb, hml, hown, hts⟩ (kX11_isElder (T := TC) (g := g) rfl) (va_cwS 1 hts gX11_of_X11_isElder rfl rfl rfl (by decide +kernel) ⟨Nat.le_of_ble_eq_true rfl, Nat.le_of_ble_eq_true rfl⟩) (c_preS hK hP hE hS) rfl rfl hl.1 rfl (lv_room (Nat.le_of_ble_eq_true rfl)) dX11_of_120 ⟨Nat.zero_le _, Nat.zero_le _⟩) hS (fun H locs hP hS => ?_)
    refine lv_if_eq (tgt := 138) hx hb dX11_of_123 (by decide) (fun c22 => ?_) (fun c22 => ?_)
    · have hf := c_it c22 hf
      refine lv_iconst (v := (-1 : Int32)) hx hb dX11_of_138 (by decide) ?_
      exact c_iret hx hb hr hlk hP hS rfl (c_inj hf) dX11_of_139
    · have hf := c_ie c22 hf
      refine lv_aload_n hx hb dX11_of_126 rfl (lv_at hl 0 rfl) ?_
      refine lv_iload_n hx hb dX11_of_127 rfl (lv_at hl 1 rfl) ?_
      refine lv_iload_n hx hb dX11_of_128 rfl (lv_at hl 2 rfl) ?_
      refine lv_bipush (v := (10 : Int32)) hx hb dX11_of_129 (by decide) ?_
      refine lv_isub hx hb dX11_of_131 ?_
      obtain ⟨g24, r25, hc23, hf⟩ := c_b2E hf
      refine c_goi (va_runV (As := [.int a1, .int (a2 - (10 : Int32))]) (rest := []) ⟨hx, hb, hml, hown, hts⟩ (kX11_saysNow hD hc23) (cwV 2 hts gX11_of_X11_saysNow rfl rfl rfl (by decide +kernel) ⟨Nat.le_of_ble_eq_true rfl, Nat.le_of_ble_eq_true rfl⟩) (c_preV hK hP hE hS tC0 rfl) rfl rfl hl.1 rfl (lv_room (Nat.le_of_ble_eq_true rfl)) dX11_of_132 ⟨Nat.zero_le _, Nat.zero_le _⟩) hS (fun H locs hP hS => ?_)
      refine lv_goto (tgt := 139) hx hb dX11_of_135 (by decide) ?_
      exact c_iret hx hb hr hlk hP hS rfl (c_inj hf) dX11_of_139
  · have hf := c_it c3 hf
    refine lv_iconst (v := (-1 : Int32)) hx hb dX11_of_8 (by decide) ?_
    exact c_iret hx hb hr hlk hP hS rfl (c_inj hf) dX11_of_9
theorem i_X11_takeTo_X7 : ∀ w ∈ u_ws RX7 TX7 17, w ∈ wsX11_takeTo := c_inP [90, 91, 92, 93, 94, 95, 96, 97, 98, 99, 100, 101, 102, 103, 104, 105, 106] (by decide +kernel)
theorem dX11_takeTo_0 : decode cX11_takeTo 0 = .ok (.aload_n 0, 1) := by decide +kernel
theorem dX11_takeTo_1 : decode cX11_takeTo 1 = .ok (.aload_n 1, 1) := by decide +kernel
theorem dX11_takeTo_2 : decode cX11_takeTo 2 = .ok (.iload_n 2, 1) := by decide +kernel
theorem dX11_takeTo_3 : decode cX11_takeTo 3 = .ok (.aload_n 1, 1) := by decide +kernel
theorem dX11_takeTo_4 : decode cX11_takeTo 4 = .ok (.getfield 125, 3) := by decide +kernel
theorem dX11_takeTo_7 : decode cX11_takeTo 7 = .ok (.iload_n 2, 1) := by decide +kernel
theorem dX11_takeTo_8 : decode cX11_takeTo 8 = .ok (.iaload, 1) := by decide +kernel
theorem dX11_takeTo_9 : decode cX11_takeTo 9 = .ok (.aload_n 1, 1) := by decide +kernel
theorem dX11_takeTo_10 : decode cX11_takeTo 10 = .ok (.getfield 128, 3) := by decide +kernel
theorem dX11_takeTo_13 : decode cX11_takeTo 13 = .ok (.iload_n 2, 1) := by decide +kernel
theorem dX11_takeTo_14 : decode cX11_takeTo 14 = .ok (.iaload, 1) := by decide +kernel
theorem dX11_takeTo_15 : decode cX11_takeTo 15 = .ok (.iload_n 3, 1) := by decide +kernel
theorem dX11_takeTo_16 : decode cX11_takeTo 16 = .ok (.invokevirtual 229, 3) := by decide +kernel
theorem dX11_takeTo_19 : decode cX11_takeTo 19 = .ok (.istore 4, 2) := by decide +kernel
theorem dX11_takeTo_21 : decode cX11_takeTo 21 = .ok (.iload 4, 2) := by decide +kernel
theorem dX11_takeTo_23 : decode cX11_takeTo 23 = .ok (.bipush (-5), 2) := by decide +kernel
theorem dX11_takeTo_25 : decode cX11_takeTo 25 = .ok (.if_icmp .eq 18, 3) := by decide +kernel
theorem dX11_takeTo_28 : decode cX11_takeTo 28 = .ok (.aload_n 1, 1) := by decide +kernel
theorem dX11_takeTo_29 : decode cX11_takeTo 29 = .ok (.getfield 151, 3) := by decide +kernel
theorem dX11_takeTo_32 : decode cX11_takeTo 32 = .ok (.iload_n 3, 1) := by decide +kernel
theorem dX11_takeTo_33 : decode cX11_takeTo 33 = .ok (.iload 4, 2) := by decide +kernel
theorem dX11_takeTo_35 : decode cX11_takeTo 35 = .ok (.iastore, 1) := by decide +kernel
theorem dX11_takeTo_36 : decode cX11_takeTo 36 = .ok (.aload_n 1, 1) := by decide +kernel
theorem dX11_takeTo_37 : decode cX11_takeTo 37 = .ok (.getfield 154, 3) := by decide +kernel
theorem dX11_takeTo_40 : decode cX11_takeTo 40 = .ok (.iload_n 3, 1) := by decide +kernel
theorem dX11_takeTo_41 : decode cX11_takeTo 41 = .ok (.iload_n 2, 1) := by decide +kernel
theorem dX11_takeTo_42 : decode cX11_takeTo 42 = .ok (.iastore, 1) := by decide +kernel
theorem dX11_takeTo_43 : decode cX11_takeTo 43 = .ok (.iload 4, 2) := by decide +kernel
theorem dX11_takeTo_45 : decode cX11_takeTo 45 = .ok (.ireturn, 1) := by decide +kernel
set_option maxRecDepth 20000 in
theorem ggX11_takeTo_X11_says : GoodIn wsX11_takeTo wsX11_says := goodIn_r _ [9, 10, 11, 12, 13, 14, 15, 16, 17, 18, 19, 20, 8, 21, 22, 23, 24, 25, 26, 27, 28, 29, 30, 31, 32, 33, 34, 35, 36, 37, 38, 39, 40, 41, 42, 43, 44, 45, 46, 47, 48, 49, 50, 51, 52, 53, 54, 55, 56, 57, 58, 59, 60, 61, 62, 63, 64, 65, 66, 67, 68, 69, 70, 71, 72, 73, 74, 75, 76, 77, 78, 79, 80, 81, 82, 83, 84, 85, 86, 87, 88, 89, 107, 108, 109, 110, 111, 112, 113, 114, 115, 116, 117, 118, 119, 120, 121, 122, 123, 124, 125, 90, 91, 92, 93, 94, 95, 96, 97, 98, 99, 100, 101, 102, 103, 104, 105, 106, 126, 127, 128, 129, 130, 131, 132, 133] (by decide +kernel) (by decide +kernel)
set_option maxRecDepth 20000 in
theorem gX11_takeTo_X11_says : GoodIn wsX11_takeTo (wsV RX11 229 RX11 yX11_says wsX11_says) := goodIn_app (goodIn_of _ (by decide +kernel)) ggX11_takeTo_X11_says
def fX11_takeTo (g : c_G) (a1 : Nat) (a2 : Int32) (a3 : Int32) : Option (c_G × Int32) :=
  if c_isS a1 = true then (if c_in (a2) (6) = true then c_b2 (fX11_says g a1 a2 ((g.1 (a1 + 6) (a2).toNatClampNeg)) ((g.1 (a1 + 7) (a2).toNatClampNeg)) a3) fun g3 r4 => if r4 = (-5 : Int32) then (some (g3, r4)) else (if c_in (a3) (6) = true then c_let (c_si g3 (a1 + 2) (a3).toNatClampNeg r4) fun g7 => c_let (c_si g7 (a1 + 3) (a3).toNatClampNeg a2) fun g8 => some (g8, r4) else none) else none) else none
set_option maxRecDepth 100000 in
set_option maxHeartbeats 4000000 in
theorem kX11_takeTo {l : Launch} {D : va_G} {tc : Nat → ClassId} {ad : Nat → Nat} {A : Nat → Prop} {E : (Nat → Nat) × (Nat → Nat) × Nat} (hD : c_D A ad TC) {a1 : Nat} {a2 : Int32} {a3 : Int32} {g g' : c_G} {r : Int32} (hf : fX11_takeTo g a1 a2 a3 = some (g', r)) : c_Mi l yX11_takeTo wsX11_takeTo (c_rm 4) D tc ad A E TC ([.ref (ad 0), .ref (ad a1), .int a2, .int a3] : List Value) g g' r := by
  refine c_ofW (bytes := cX11_takeTo) (maxL := 5) (ret := (some .int)) (by decide) rfl (Nat.le_of_ble_eq_true rfl) ?_
  intro p e s m below meth c ls C hP hS hl
  unfold fX11_takeTo at hf
  obtain ⟨hq_a1, hf⟩ := c_gd hf
  obtain ⟨hx, hb, hr, hml, hts, hown, hlk, hK, hE⟩ := id C
  obtain ⟨fa1_0, fa1_1, fa1_2, fa1_3, fa1_4, fa1_5, fa1_6, fa1_7, fa1_8, fa1_9, fa1_10, fa1_11, fa1_12, fa1_13⟩ := c_isSE hq_a1
  have hl : lv_has ls 5 [(0, .ref (ad 0)), (1, .ref (ad a1)), (2, .int a2), (3, .int a3)] := hl
  refine lv_aload_n hx hb dX11_takeTo_0 rfl (lv_at hl 0 rfl) ?_
  refine lv_aload_n hx hb dX11_takeTo_1 rfl (lv_at hl 1 rfl) ?_
  refine lv_iload_n hx hb dX11_takeTo_2 rfl (lv_at hl 2 rfl) ?_
  refine lv_aload_n hx hb dX11_takeTo_3 rfl (lv_at hl 1 rfl) ?_
  refine c_get hx hb hts i_X11_takeTo_X7 hown hK hP a1 fa1_0 rfl 8 (by decide) (hts _ (List.mem_of_getElem? (i := 1) rfl)) (fun _ h9 => h9) rfl (v := .ref (ad (a1 + 6))) rfl dX11_takeTo_4 ?_
  refine lv_iload_n hx hb dX11_takeTo_7 rfl (lv_at hl 2 rfl) ?_
  obtain ⟨hi1, hf⟩ := c_gd hf
  refine c_iald (j := (a2).toNatClampNeg) hx hb hK hP (a1 + 6) fa1_6 rfl (c_inV hi1) dX11_takeTo_8 ?_
  refine lv_aload_n hx hb dX11_takeTo_9 rfl (lv_at hl 1 rfl) ?_
  refine c_get hx hb hts i_X11_takeTo_X7 hown hK hP a1 fa1_0 rfl 9 (by decide) (hts _ (List.mem_of_getElem? (i := 2) rfl)) (fun _ h9 => h9) rfl (v := .ref (ad (a1 + 7))) rfl dX11_takeTo_10 ?_
  refine lv_iload_n hx hb dX11_takeTo_13 rfl (lv_at hl 2 rfl) ?_
  refine c_iald (j := (a2).toNatClampNeg) hx hb hK hP (a1 + 7) fa1_7 rfl (c_inV hi1) dX11_takeTo_14 ?_
  refine lv_iload_n hx hb dX11_takeTo_15 rfl (lv_at hl 3 rfl) ?_
  obtain ⟨g3, r4, hc2, hf⟩ := c_b2E hf
  refine c_goi (va_runV (As := [.ref (ad a1), .int a2, .int (g.1 (a1 + 6) (a2).toNatClampNeg), .int (g.1 (a1 + 7) (a2).toNatClampNeg), .int a3]) (rest := []) ⟨hx, hb, hml, hown, hts⟩ (kX11_says hD hc2) (cwV 5 hts gX11_takeTo_X11_says rfl rfl rfl (by decide +kernel) ⟨Nat.le_of_ble_eq_true rfl, Nat.le_of_ble_eq_true rfl⟩) (c_preV hK hP hE hS tC0 rfl) rfl rfl hl.1 rfl (lv_room (Nat.le_of_ble_eq_true rfl)) dX11_takeTo_16 ⟨Nat.zero_le _, Nat.zero_le _⟩) hS (fun H locs hP hS => ?_)
  refine lv_istore (lv' := [(4, .int r4), (0, .ref (ad 0)), (1, .ref (ad a1)), (2, .int a2), (3, .int a3)]) hx hb dX11_takeTo_19 hl (by decide) rfl (fun ls hl => ?_)
  refine lv_iload hx hb dX11_takeTo_21 (lv_at hl 0 rfl) ?_
  refine lv_bipush (v := (-5 : Int32)) hx hb dX11_takeTo_23 (by decide) ?_
  refine lv_icmp_eq (tgt := 43) hx hb dX11_takeTo_25 (by decide) (fun c5 => ?_) (fun c5 => ?_)
  · have hf := c_it c5 hf
    refine lv_iload hx hb dX11_takeTo_43 (lv_at hl 0 rfl) ?_
    exact c_iret hx hb hr hlk hP hS rfl (c_inj hf) dX11_takeTo_45
  · have hf := c_ie c5 hf
    refine lv_aload_n hx hb dX11_takeTo_28 rfl (lv_at hl 2 rfl) ?_
    refine c_get hx hb hts i_X11_takeTo_X7 hown hK hP a1 fa1_0 rfl 1 (by decide) (hts _ (List.mem_of_getElem? (i := 3) rfl)) (fun _ h9 => h9) rfl (v := .ref (ad (a1 + 2))) rfl dX11_takeTo_29 ?_
    refine lv_iload_n hx hb dX11_takeTo_32 rfl (lv_at hl 4 rfl) ?_
    refine lv_iload hx hb dX11_takeTo_33 (lv_at hl 0 rfl) ?_
    obtain ⟨hi6, hf⟩ := c_gd hf
    obtain ⟨g7, eg7, hf⟩ := c_letE hf
    refine c_iast (j := (a3).toNatClampNeg) hx hb hK hP hD hS (a1 + 2) fa1_2 rfl (c_inV hi6) eg7 dX11_takeTo_35 (fun H locs hP hS => ?_)
    refine lv_aload_n hx hb dX11_takeTo_36 rfl (lv_at hl 2 rfl) ?_
    refine c_get hx hb hts i_X11_takeTo_X7 hown hK hP a1 fa1_0 rfl 2 (by decide) (hts _ (List.mem_of_getElem? (i := 4) rfl)) (fun _ h9 => h9) rfl (v := .ref (ad (a1 + 3))) rfl dX11_takeTo_37 ?_
    refine lv_iload_n hx hb dX11_takeTo_40 rfl (lv_at hl 4 rfl) ?_
    refine lv_iload_n hx hb dX11_takeTo_41 rfl (lv_at hl 3 rfl) ?_
    obtain ⟨g8, eg8, hf⟩ := c_letE hf
    refine c_iast (j := (a3).toNatClampNeg) hx hb hK hP hD hS (a1 + 3) fa1_3 rfl (c_inV hi6) eg8 dX11_takeTo_42 (fun H locs hP hS => ?_)
    refine lv_iload hx hb dX11_takeTo_43 (lv_at hl 0 rfl) ?_
    exact c_iret hx hb hr hlk hP hS rfl (c_inj hf) dX11_takeTo_45
theorem i_X11_letGo_X7 : ∀ w ∈ u_ws RX7 TX7 17, w ∈ wsX11_letGo := c_inP [106, 107, 108, 109, 110, 111, 112, 113, 114, 115, 116, 117, 118, 119, 120, 121, 122] (by decide +kernel)
theorem dX11_letGo_0 : decode cX11_letGo 0 = .ok (.iconst 0, 1) := by decide +kernel
theorem dX11_letGo_1 : decode cX11_letGo 1 = .ok (.istore 4, 2) := by decide +kernel
theorem dX11_letGo_3 : decode cX11_letGo 3 = .ok (.iload 4, 2) := by decide +kernel
theorem dX11_letGo_5 : decode cX11_letGo 5 = .ok (.iload_n 2, 1) := by decide +kernel
theorem dX11_letGo_6 : decode cX11_letGo 6 = .ok (.if_icmp .ge 59, 3) := by decide +kernel
theorem dX11_letGo_9 : decode cX11_letGo 9 = .ok (.iconst 0, 1) := by decide +kernel
theorem dX11_letGo_10 : decode cX11_letGo 10 = .ok (.istore 5, 2) := by decide +kernel
theorem dX11_letGo_12 : decode cX11_letGo 12 = .ok (.iload 5, 2) := by decide +kernel
theorem dX11_letGo_14 : decode cX11_letGo 14 = .ok (.aload_n 1, 1) := by decide +kernel
theorem dX11_letGo_15 : decode cX11_letGo 15 = .ok (.getfield 111, 3) := by decide +kernel
theorem dX11_letGo_18 : decode cX11_letGo 18 = .ok (.if_icmp .ge 36, 3) := by decide +kernel
theorem dX11_letGo_21 : decode cX11_letGo 21 = .ok (.aload_n 1, 1) := by decide +kernel
theorem dX11_letGo_22 : decode cX11_letGo 22 = .ok (.getfield 134, 3) := by decide +kernel
theorem dX11_letGo_25 : decode cX11_letGo 25 = .ok (.iload 5, 2) := by decide +kernel
theorem dX11_letGo_27 : decode cX11_letGo 27 = .ok (.iaload, 1) := by decide +kernel
theorem dX11_letGo_28 : decode cX11_letGo 28 = .ok (.bipush (-5), 2) := by decide +kernel
theorem dX11_letGo_30 : decode cX11_letGo 30 = .ok (.if_icmp .eq 18, 3) := by decide +kernel
theorem dX11_letGo_33 : decode cX11_letGo 33 = .ok (.aload_n 0, 1) := by decide +kernel
theorem dX11_letGo_34 : decode cX11_letGo 34 = .ok (.aload_n 1, 1) := by decide +kernel
theorem dX11_letGo_35 : decode cX11_letGo 35 = .ok (.iload 5, 2) := by decide +kernel
theorem dX11_letGo_37 : decode cX11_letGo 37 = .ok (.aload_n 1, 1) := by decide +kernel
theorem dX11_letGo_38 : decode cX11_letGo 38 = .ok (.getfield 134, 3) := by decide +kernel
theorem dX11_letGo_41 : decode cX11_letGo 41 = .ok (.iload 5, 2) := by decide +kernel
theorem dX11_letGo_43 : decode cX11_letGo 43 = .ok (.iaload, 1) := by decide +kernel
theorem dX11_letGo_44 : decode cX11_letGo 44 = .ok (.invokevirtual 171, 3) := by decide +kernel
theorem dX11_letGo_47 : decode cX11_letGo 47 = .ok (.pop, 1) := by decide +kernel
theorem dX11_letGo_48 : decode cX11_letGo 48 = .ok (.iinc 5 1, 3) := by decide +kernel
theorem dX11_letGo_51 : decode cX11_letGo 51 = .ok (.goto (-39), 3) := by decide +kernel
theorem dX11_letGo_54 : decode cX11_letGo 54 = .ok (.aload_n 1, 1) := by decide +kernel
theorem dX11_letGo_55 : decode cX11_letGo 55 = .ok (.iload_n 3, 1) := by decide +kernel
theorem dX11_letGo_56 : decode cX11_letGo 56 = .ok (.invokevirtual 337, 3) := by decide +kernel
theorem dX11_letGo_59 : decode cX11_letGo 59 = .ok (.iinc 4 1, 3) := by decide +kernel
theorem dX11_letGo_62 : decode cX11_letGo 62 = .ok (.goto (-59), 3) := by decide +kernel
theorem dX11_letGo_65 : decode cX11_letGo 65 = .ok (.return_, 1) := by decide +kernel
set_option maxRecDepth 20000 in
theorem ggX11_letGo_X11_takeTo : GoodIn wsX11_letGo wsX11_takeTo := goodIn_r _ [7, 8, 9, 10, 11, 12, 13, 14, 6, 15, 16, 17, 18, 19, 20, 21, 22, 23, 24, 25, 26, 27, 28, 29, 30, 31, 32, 33, 34, 35, 36, 37, 38, 39, 40, 41, 42, 43, 44, 45, 46, 47, 48, 49, 50, 51, 52, 53, 54, 55, 56, 57, 58, 59, 60, 61, 62, 63, 64, 65, 66, 67, 68, 69, 70, 71, 72, 73, 74, 75, 76, 77, 78, 79, 80, 81, 82, 83, 84, 85, 86, 87, 88, 89, 90, 91, 92, 93, 94, 95, 106, 107, 108, 109, 110, 111, 112, 113, 114, 115, 116, 117, 118, 119, 120, 121, 122, 123, 124, 125, 126, 127, 128, 129, 130, 131, 132, 133, 134, 135, 136, 137, 138, 139, 140, 141, 142, 143, 144, 145, 146, 147, 148, 149] (by decide +kernel) (by decide +kernel)
set_option maxRecDepth 20000 in
theorem gX11_letGo_X11_takeTo : GoodIn wsX11_letGo (wsV RX11 171 RX11 yX11_takeTo wsX11_takeTo) := goodIn_app (goodIn_of _ (by decide +kernel)) ggX11_letGo_X11_takeTo
set_option maxRecDepth 20000 in
theorem ggX11_letGo_X7_grow : GoodIn wsX11_letGo wsX7_grow := goodIn_r _ [99, 100, 101, 102, 103, 104, 105, 106, 107, 108, 109, 110, 111, 112, 113, 114, 115, 116, 117, 118, 119, 120, 121, 122, 142, 143, 144, 145, 146, 147, 148, 149] (by decide +kernel) (by decide +kernel)
set_option maxRecDepth 20000 in
theorem gX11_letGo_X7_grow : GoodIn wsX11_letGo (wsV RX11 337 RX7 yX7_grow wsX7_grow) := goodIn_app (goodIn_of _ (by decide +kernel)) ggX11_letGo_X7_grow
def fX11_letGo_48 (rec12 : Int32 → Int32 → Int32 → Int32 → c_G → Option (c_G)) (a1 : Nat) (a2 : Int32) (a3 : Int32) (x2 : Int32) (x3 : Int32) (x4 : Int32) (x5 : Int32) (g : c_G) : Option (c_G) :=
  c_let (x5 + (1 : Int32)) fun v48001 => rec12 x2 x3 x4 v48001 g
set_option maxRecDepth 100000 in
set_option maxHeartbeats 4000000 in
theorem jX11_letGo_48 {p : Program} {l : Launch} {e : Env} {s : State} {m : MethodId} {below : List Frame} {meth : Method} {c : Code} {D : va_G} {tc : Nat → ClassId} {ad : Nat → Nat} {A : Nat → Prop} {E : (Nat → Nat) × (Nat → Nat) × Nat} {a1 : Nat} {a2 : Int32} {a3 : Int32} {g' : c_G} (C : c_C p s m meth c D tc A E RX11 wsX11_letGo cX11_letGo 6 none ([.ref (ad 0), .ref (ad a1), .int a2, .int a3] : List Value).toArray) (hD : c_D A ad TC) (hq_a1 : c_isS a1 = true) {rec12 : Int32 → Int32 → Int32 → Int32 → c_G → Option (c_G)} (hrec12 : ∀ (x2 : Int32) (x3 : Int32) (x4 : Int32) (x5 : Int32) (g : c_G), rec12 x2 x3 x4 x5 g = some g' → ∀ (H : Heap) (locs : List Loc), va_P D vwCl (c_ws tc ad TC g) H → va_S A s.heap H locs → ∀ ls : Array Slot, lv_has ls 6 [(0, .ref (ad 0)), (1, .ref (ad a1)), (2, .int x2), (3, .int x3), (4, .int x4), (5, .int x5)] → W p l e (c_rm 5) s m ([.ref (ad 0), .ref (ad a1), .int a2, .int a3] : List Value).toArray below meth c H locs 0 0 (MQ below (va_Qv (fun (_ : Unit) => True) (fun _ t => va_P D vwCl (c_ws tc ad TC g') t.heap) A) ([.ref (ad 0), .ref (ad a1), .int a2, .int a3] : List Value).toArray s 0 0 A) (F0 m 12 ls [])) : ∀ (x2 : Int32) (x3 : Int32) (x4 : Int32) (x5 : Int32) (g : c_G), fX11_letGo_48 rec12 a1 a2 a3 x2 x3 x4 x5 g = some g' → ∀ (H : Heap) (locs : List Loc), va_P D vwCl (c_ws tc ad TC g) H → va_S A s.heap H locs → ∀ ls : Array Slot, lv_has ls 6 [(0, .ref (ad 0)), (1, .ref (ad a1)), (2, .int x2), (3, .int x3), (4, .int x4), (5, .int x5)] → W p l e (c_rm 5) s m ([.ref (ad 0), .ref (ad a1), .int a2, .int a3] : List Value).toArray below meth c H locs 0 0 (MQ below (va_Qv (fun (_ : Unit) => True) (fun _ t => va_P D vwCl (c_ws tc ad TC g') t.heap) A) ([.ref (ad 0), .ref (ad a1), .int a2, .int a3] : List Value).toArray s 0 0 A) (F0 m 48 ls []) := by
  obtain ⟨hx, hb, hr, hml, hts, hown, hlk, hK, hE⟩ := id C
  obtain ⟨fa1_0, fa1_1, fa1_2, fa1_3, fa1_4, fa1_5, fa1_6, fa1_7, fa1_8, fa1_9, fa1_10, fa1_11, fa1_12, fa1_13⟩ := c_isSE hq_a1
  intro x2 x3 x4 x5 g hf H locs hP hS ls hl
  unfold fX11_letGo_48 at hf
  obtain ⟨v48001, ev48001, hf⟩ := c_letE hf
  refine lv_iinc (v := v48001) (lv' := [(5, .int v48001), (0, .ref (ad 0)), (1, .ref (ad a1)), (2, .int x2), (3, .int x3), (4, .int x4)]) hx hb dX11_letGo_48 hl (k := 5) rfl (by rw [ev48001]; rfl) (by decide) rfl (fun ls hl => ?_)
  refine lv_goto (tgt := 12) hx hb dX11_letGo_51 (by decide) ?_
  exact hrec12 x2 x3 x4 v48001 g hf _ _ hP hS _ (lv_sub hl [1, 2, 3, 4, 5, 0] rfl)
def fX11_letGo_12 (kk54 : Int32 → Int32 → Int32 → c_G → Option (c_G)) (a1 : Nat) (a2 : Int32) (a3 : Int32) : Nat → Int32 → Int32 → Int32 → Int32 → c_G → Option (c_G)
  | 0, _, _, _, _, _ => none
  | n + 1, x2, x3, x4, x5, g => if (g.1 a1 6) ≤ x5 then (kk54 x2 x3 x4 g) else (if c_in (x5) (6) = true then if (g.1 (a1 + 9) (x5).toNatClampNeg) = (-5 : Int32) then (fX11_letGo_48 (fX11_letGo_12 kk54 a1 a2 a3 n) a1 a2 a3 x2 x3 x4 x5 g) else (c_b2 (fX11_takeTo g a1 x5 ((g.1 (a1 + 9) (x5).toNatClampNeg))) fun g12005 r12006 => fX11_letGo_48 (fX11_letGo_12 kk54 a1 a2 a3 n) a1 a2 a3 x2 x3 x4 x5 g12005) else none)
set_option maxRecDepth 100000 in
set_option maxHeartbeats 4000000 in
theorem jX11_letGo_12 {p : Program} {l : Launch} {e : Env} {s : State} {m : MethodId} {below : List Frame} {meth : Method} {c : Code} {D : va_G} {tc : Nat → ClassId} {ad : Nat → Nat} {A : Nat → Prop} {E : (Nat → Nat) × (Nat → Nat) × Nat} {a1 : Nat} {a2 : Int32} {a3 : Int32} {g' : c_G} (C : c_C p s m meth c D tc A E RX11 wsX11_letGo cX11_letGo 6 none ([.ref (ad 0), .ref (ad a1), .int a2, .int a3] : List Value).toArray) (hD : c_D A ad TC) (hq_a1 : c_isS a1 = true) {kk54 : Int32 → Int32 → Int32 → c_G → Option (c_G)} (hkk54 : ∀ (x2 : Int32) (x3 : Int32) (x4 : Int32) (g : c_G), kk54 x2 x3 x4 g = some g' → ∀ (H : Heap) (locs : List Loc), va_P D vwCl (c_ws tc ad TC g) H → va_S A s.heap H locs → ∀ ls : Array Slot, lv_has ls 6 [(0, .ref (ad 0)), (1, .ref (ad a1)), (2, .int x2), (3, .int x3), (4, .int x4)] → W p l e (c_rm 5) s m ([.ref (ad 0), .ref (ad a1), .int a2, .int a3] : List Value).toArray below meth c H locs 0 0 (MQ below (va_Qv (fun (_ : Unit) => True) (fun _ t => va_P D vwCl (c_ws tc ad TC g') t.heap) A) ([.ref (ad 0), .ref (ad a1), .int a2, .int a3] : List Value).toArray s 0 0 A) (F0 m 54 ls [])) : ∀ (n : Nat) (x2 : Int32) (x3 : Int32) (x4 : Int32) (x5 : Int32) (g : c_G), fX11_letGo_12 kk54 a1 a2 a3 n x2 x3 x4 x5 g = some g' → ∀ (H : Heap) (locs : List Loc), va_P D vwCl (c_ws tc ad TC g) H → va_S A s.heap H locs → ∀ ls : Array Slot, lv_has ls 6 [(0, .ref (ad 0)), (1, .ref (ad a1)), (2, .int x2), (3, .int x3), (4, .int x4), (5, .int x5)] → W p l e (c_rm 5) s m ([.ref (ad 0), .ref (ad a1), .int a2, .int a3] : List Value).toArray below meth c H locs 0 0 (MQ below (va_Qv (fun (_ : Unit) => True) (fun _ t => va_P D vwCl (c_ws tc ad TC g') t.heap) A) ([.ref (ad 0), .ref (ad a1), .int a2, .int a3] : List Value).toArray s 0 0 A) (F0 m 12 ls []) := by
  obtain ⟨hx, hb, hr, hml, hts, hown, hlk, hK, hE⟩ := id C
  obtain ⟨fa1_0, fa1_1, fa1_2, fa1_3, fa1_4, fa1_5, fa1_6, fa1_7, fa1_8, fa1_9, fa1_10, fa1_11, fa1_12, fa1_13⟩ := c_isSE hq_a1
  intro n
  induction n with
  | zero =>
    intro x2 x3 x4 x5 g hf
    cases hf
  | succ n ih =>
    intro x2 x3 x4 x5 g hf H locs hP hS ls hl
    unfold fX11_letGo_12 at hf
    refine lv_iload hx hb dX11_letGo_12 (lv_at hl 5 rfl) ?_
    refine lv_aload_n hx hb dX11_letGo_14 rfl (lv_at hl 1 rfl) ?_
    refine c_get hx hb hts i_X11_letGo_X7 hown hK hP a1 fa1_0 rfl 6 (by decide) (hts _ (List.mem_of_getElem? (i := 1) rfl)) (fun _ h9 => h9) rfl (v := .int (g.1 a1 6)) rfl dX11_letGo_15 ?_
    refine lv_icmp_ge (tgt := 54) hx hb dX11_letGo_18 (by decide) (fun c12001 => ?_) (fun c12001 => ?_)
    · have hf := c_it c12001 hf
      exact hkk54 x2 x3 x4 g hf _ _ hP hS _ (lv_sub hl [0, 1, 2, 3, 4] rfl)
    · have hf := c_ie c12001 hf
      refine lv_aload_n hx hb dX11_letGo_21 rfl (lv_at hl 1 rfl) ?_
      refine c_get hx hb hts i_X11_letGo_X7 hown hK hP a1 fa1_0 rfl 11 (by decide) (hts _ (List.mem_of_getElem? (i := 2) rfl)) (fun _ h9 => h9) rfl (v := .ref (ad (a1 + 9))) rfl dX11_letGo_22 ?_
      refine lv_iload hx hb dX11_letGo_25 (lv_at hl 5 rfl) ?_
      obtain ⟨hi12002, hf⟩ := c_gd hf
      refine c_iald (j := (x5).toNatClampNeg) hx hb hK hP (a1 + 9) fa1_9 rfl (c_inV hi12002) dX11_letGo_27 ?_
      refine lv_bipush (v := (-5 : Int32)) hx hb dX11_letGo_28 (by decide) ?_
      refine lv_icmp_eq (tgt := 48) hx hb dX11_letGo_30 (by decide) (fun c12003 => ?_) (fun c12003 => ?_)
      · have hf := c_it c12003 hf
        exact jX11_letGo_48 C hD hq_a1 ih x2 x3 x4 x5 g hf _ _ hP hS _ (lv_sub hl [0, 1, 2, 3, 4, 5] rfl)
      · have hf := c_ie c12003 hf
        refine lv_aload_n hx hb dX11_letGo_33 rfl (lv_at hl 0 rfl) ?_
        refine lv_aload_n hx hb dX11_letGo_34 rfl (lv_at hl 1 rfl) ?_
        refine lv_iload hx hb dX11_letGo_35 (lv_at hl 5 rfl) ?_
        refine lv_aload_n hx hb dX11_letGo_37 rfl (lv_at hl 1 rfl) ?_
        refine c_get hx hb hts i_X11_letGo_X7 hown hK hP a1 fa1_0 rfl 11 (by decide) (hts _ (List.mem_of_getElem? (i := 2) rfl)) (fun _ h9 => h9) rfl (v := .ref (ad (a1 + 9))) rfl dX11_letGo_38 ?_
        refine lv_iload hx hb dX11_letGo_41 (lv_at hl 5 rfl) ?_
        refine c_iald (j := (x5).toNatClampNeg) hx hb hK hP (a1 + 9) fa1_9 rfl (c_inV hi12002) dX11_letGo_43 ?_
        obtain ⟨g12005, r12006, hc12004, hf⟩ := c_b2E hf
        refine c_goi (va_runV (As := [.ref (ad a1), .int x5, .int (g.1 (a1 + 9) (x5).toNatClampNeg)]) (rest := []) ⟨hx, hb, hml, hown, hts⟩ (kX11_takeTo hD hc12004) (cwV 3 hts gX11_letGo_X11_takeTo rfl rfl rfl (by decide +kernel) ⟨Nat.le_of_ble_eq_true rfl, Nat.le_of_ble_eq_true rfl⟩) (c_preV hK hP hE hS tC0 rfl) rfl rfl hl.1 rfl (lv_room (Nat.le_of_ble_eq_true rfl)) dX11_letGo_44 ⟨Nat.zero_le _, Nat.zero_le _⟩) hS (fun H locs hP hS => ?_)
        refine lv_pop hx hb dX11_letGo_47 rfl ?_
        exact jX11_letGo_48 C hD hq_a1 ih x2 x3 x4 x5 g12005 hf _ _ hP hS _ (lv_sub hl [0, 1, 2, 3, 4, 5] rfl)
def fX11_letGo_54 (rec3 : Int32 → Int32 → Int32 → c_G → Option (c_G)) (a1 : Nat) (a2 : Int32) (a3 : Int32) (x2 : Int32) (x3 : Int32) (x4 : Int32) (g : c_G) : Option (c_G) :=
  (fX7_grow g a1 x3).bind fun g54002 => c_let (x4 + (1 : Int32)) fun v54003 => rec3 x2 x3 v54003 g54002
set_option maxRecDepth 100000 in
set_option maxHeartbeats 4000000 in
theorem jX11_letGo_54 {p : Program} {l : Launch} {e : Env} {s : State} {m : MethodId} {below : List Frame} {meth : Method} {c : Code} {D : va_G} {tc : Nat → ClassId} {ad : Nat → Nat} {A : Nat → Prop} {E : (Nat → Nat) × (Nat → Nat) × Nat} {a1 : Nat} {a2 : Int32} {a3 : Int32} {g' : c_G} (C : c_C p s m meth c D tc A E RX11 wsX11_letGo cX11_letGo 6 none ([.ref (ad 0), .ref (ad a1), .int a2, .int a3] : List Value).toArray) (hD : c_D A ad TC) (hq_a1 : c_isS a1 = true) {rec3 : Int32 → Int32 → Int32 → c_G → Option (c_G)} (hrec3 : ∀ (x2 : Int32) (x3 : Int32) (x4 : Int32) (g : c_G), rec3 x2 x3 x4 g = some g' → ∀ (H : Heap) (locs : List Loc), va_P D vwCl (c_ws tc ad TC g) H → va_S A s.heap H locs → ∀ ls : Array Slot, lv_has ls 6 [(0, .ref (ad 0)), (1, .ref (ad a1)), (2, .int x2), (3, .int x3), (4, .int x4)] → W p l e (c_rm 5) s m ([.ref (ad 0), .ref (ad a1), .int a2, .int a3] : List Value).toArray below meth c H locs 0 0 (MQ below (va_Qv (fun (_ : Unit) => True) (fun _ t => va_P D vwCl (c_ws tc ad TC g') t.heap) A) ([.ref (ad 0), .ref (ad a1), .int a2, .int a3] : List Value).toArray s 0 0 A) (F0 m 3 ls [])) : ∀ (x2 : Int32) (x3 : Int32) (x4 : Int32) (g : c_G), fX11_letGo_54 rec3 a1 a2 a3 x2 x3 x4 g = some g' → ∀ (H : Heap) (locs : List Loc), va_P D vwCl (c_ws tc ad TC g) H → va_S A s.heap H locs → ∀ ls : Array Slot, lv_has ls 6 [(0, .ref (ad 0)), (1, .ref (ad a1)), (2, .int x2), (3, .int x3), (4, .int x4)] → W p l e (c_rm 5) s m ([.ref (ad 0), .ref (ad a1), .int a2, .int a3] : List Value).toArray below meth c H locs 0 0 (MQ below (va_Qv (fun (_ : Unit) => True) (fun _ t => va_P D vwCl (c_ws tc ad TC g') t.heap) A) ([.ref (ad 0), .ref (ad a1), .int a2, .int a3] : List Value).toArray s 0 0 A) (F0 m 54 ls []) := by
  obtain ⟨hx, hb, hr, hml, hts, hown, hlk, hK, hE⟩ := id C
  obtain ⟨fa1_0, fa1_1, fa1_2, fa1_3, fa1_4, fa1_5, fa1_6, fa1_7, fa1_8, fa1_9, fa1_10, fa1_11, fa1_12, fa1_13⟩ := c_isSE hq_a1
  intro x2 x3 x4 g hf H locs hP hS ls hl
  unfold fX11_letGo_54 at hf
  refine lv_aload_n hx hb dX11_letGo_54 rfl (lv_at hl 1 rfl) ?_
  refine lv_iload_n hx hb dX11_letGo_55 rfl (lv_at hl 3 rfl) ?_
  obtain ⟨g54002, hc54001, hf⟩ := c_bd hf
  refine c_gov (va_runV (As := [.int x3]) (rest := []) ⟨hx, hb, hml, hown, hts⟩ (kX7_grow hD hc54001) (cwV 1 hts gX11_letGo_X7_grow rfl rfl rfl (by decide +kernel) ⟨Nat.le_of_ble_eq_true rfl, Nat.le_of_ble_eq_true rfl⟩) (c_preV hK hP hE hS fa1_0 rfl) rfl rfl hl.1 rfl (lv_room (Nat.le_of_ble_eq_true rfl)) dX11_letGo_56 ⟨Nat.zero_le _, Nat.zero_le _⟩) hS (fun H locs hP hS => ?_)
  obtain ⟨v54003, ev54003, hf⟩ := c_letE hf
  refine lv_iinc (v := v54003) (lv' := [(4, .int v54003), (0, .ref (ad 0)), (1, .ref (ad a1)), (2, .int x2), (3, .int x3)]) hx hb dX11_letGo_59 hl (k := 4) rfl (by rw [ev54003]; rfl) (by decide) rfl (fun ls hl => ?_)
  refine lv_goto (tgt := 3) hx hb dX11_letGo_62 (by decide) ?_
  exact hrec3 x2 x3 v54003 g54002 hf _ _ hP hS _ (lv_sub hl [1, 2, 3, 4, 0] rfl)
def fX11_letGo_3  (a1 : Nat) (a2 : Int32) (a3 : Int32) : Nat → Int32 → Int32 → Int32 → c_G → Option (c_G)
  | 0, _, _, _, _ => none
  | n + 1, x2, x3, x4, g => if x2 ≤ x4 then (some g) else (fX11_letGo_12 (fX11_letGo_54 (fX11_letGo_3 a1 a2 a3 n) a1 a2 a3) a1 a2 a3 c_F x2 x3 x4 ((0 : Int32)) g)
set_option maxRecDepth 100000 in
set_option maxHeartbeats 4000000 in
theorem jX11_letGo_3 {p : Program} {l : Launch} {e : Env} {s : State} {m : MethodId} {below : List Frame} {meth : Method} {c : Code} {D : va_G} {tc : Nat → ClassId} {ad : Nat → Nat} {A : Nat → Prop} {E : (Nat → Nat) × (Nat → Nat) × Nat} {a1 : Nat} {a2 : Int32} {a3 : Int32} {g' : c_G} (C : c_C p s m meth c D tc A E RX11 wsX11_letGo cX11_letGo 6 none ([.ref (ad 0), .ref (ad a1), .int a2, .int a3] : List Value).toArray) (hD : c_D A ad TC) (hq_a1 : c_isS a1 = true)  : ∀ (n : Nat) (x2 : Int32) (x3 : Int32) (x4 : Int32) (g : c_G), fX11_letGo_3 a1 a2 a3 n x2 x3 x4 g = some g' → ∀ (H : Heap) (locs : List Loc), va_P D vwCl (c_ws tc ad TC g) H → va_S A s.heap H locs → ∀ ls : Array Slot, lv_has ls 6 [(0, .ref (ad 0)), (1, .ref (ad a1)), (2, .int x2), (3, .int x3), (4, .int x4)] → W p l e (c_rm 5) s m ([.ref (ad 0), .ref (ad a1), .int a2, .int a3] : List Value).toArray below meth c H locs 0 0 (MQ below (va_Qv (fun (_ : Unit) => True) (fun _ t => va_P D vwCl (c_ws tc ad TC g') t.heap) A) ([.ref (ad 0), .ref (ad a1), .int a2, .int a3] : List Value).toArray s 0 0 A) (F0 m 3 ls []) := by
  obtain ⟨hx, hb, hr, hml, hts, hown, hlk, hK, hE⟩ := id C
  obtain ⟨fa1_0, fa1_1, fa1_2, fa1_3, fa1_4, fa1_5, fa1_6, fa1_7, fa1_8, fa1_9, fa1_10, fa1_11, fa1_12, fa1_13⟩ := c_isSE hq_a1
  intro n
  induction n with
  | zero =>
    intro x2 x3 x4 g hf
    cases hf
  | succ n ih =>
    intro x2 x3 x4 g hf H locs hP hS ls hl
    unfold fX11_letGo_3 at hf
    refine lv_iload hx hb dX11_letGo_3 (lv_at hl 4 rfl) ?_
    refine lv_iload_n hx hb dX11_letGo_5 rfl (lv_at hl 2 rfl) ?_
    refine lv_icmp_ge (tgt := 65) hx hb dX11_letGo_6 (by decide) (fun c3001 => ?_) (fun c3001 => ?_)
    · have hf := c_it c3001 hf
      exact c_vret hx hb hr hlk hP hS (Option.some.inj hf) dX11_letGo_65
    · have hf := c_ie c3001 hf
      refine lv_iconst (v := (0 : Int32)) hx hb dX11_letGo_9 (by decide) ?_
      refine lv_istore (lv' := [(5, .int (0 : Int32)), (0, .ref (ad 0)), (1, .ref (ad a1)), (2, .int x2), (3, .int x3), (4, .int x4)]) hx hb dX11_letGo_10 hl (by decide) rfl (fun ls hl => ?_)
      exact jX11_letGo_12 C hD hq_a1 (jX11_letGo_54 C hD hq_a1 ih) c_F x2 x3 x4 ((0 : Int32)) g hf _ _ hP hS _ (lv_sub hl [1, 2, 3, 4, 5, 0] rfl)
def fX11_letGo (g : c_G) (a1 : Nat) (a2 : Int32) (a3 : Int32) : Option (c_G) :=
  if c_isS a1 = true then (fX11_letGo_3 a1 a2 a3 c_F a2 a3 ((0 : Int32)) g) else none
set_option maxRecDepth 100000 in
set_option maxHeartbeats 4000000 in
theorem kX11_letGo {l : Launch} {D : va_G} {tc : Nat → ClassId} {ad : Nat → Nat} {A : Nat → Prop} {E : (Nat → Nat) × (Nat → Nat) × Nat} (hD : c_D A ad TC) {a1 : Nat} {a2 : Int32} {a3 : Int32} {g g' : c_G} (hf : fX11_letGo g a1 a2 a3 = some g') : c_Mv l yX11_letGo wsX11_letGo (c_rm 5) D tc ad A E TC ([.ref (ad 0), .ref (ad a1), .int a2, .int a3] : List Value) g g' := by
  refine c_ofW (bytes := cX11_letGo) (maxL := 6) (ret := none) (by decide) rfl (Nat.le_of_ble_eq_true rfl) ?_
  intro p e s m below meth c ls C hP hS hl
  unfold fX11_letGo at hf
  obtain ⟨hq_a1, hf⟩ := c_gd hf
  obtain ⟨hx, hb, hr, hml, hts, hown, hlk, hK, hE⟩ := id C
  obtain ⟨fa1_0, fa1_1, fa1_2, fa1_3, fa1_4, fa1_5, fa1_6, fa1_7, fa1_8, fa1_9, fa1_10, fa1_11, fa1_12, fa1_13⟩ := c_isSE hq_a1
  have hl : lv_has ls 6 [(0, .ref (ad 0)), (1, .ref (ad a1)), (2, .int a2), (3, .int a3)] := hl
  refine lv_iconst (v := (0 : Int32)) hx hb dX11_letGo_0 (by decide) ?_
  refine lv_istore (lv' := [(4, .int (0 : Int32)), (0, .ref (ad 0)), (1, .ref (ad a1)), (2, .int a2), (3, .int a3)]) hx hb dX11_letGo_1 hl (by decide) rfl (fun ls hl => ?_)
  exact jX11_letGo_3 C hD hq_a1 c_F a2 a3 ((0 : Int32)) g hf _ _ hP hS _ (lv_sub hl [1, 2, 3, 4, 0] rfl)
theorem i_X11_sundaysTillNamed_X7 : ∀ w ∈ u_ws RX7 TX7 17, w ∈ wsX11_sundaysTillNamed := c_inP [160, 161, 162, 163, 164, 165, 166, 167, 168, 169, 170, 171, 172, 173, 174, 175, 176] (by decide +kernel)
theorem i_X11_sundaysTillNamed_X11 : ∀ w ∈ u_ws RX11 TX11 19, w ∈ wsX11_sundaysTillNamed := c_inP [141, 142, 143, 144, 145, 146, 147, 148, 149, 150, 151, 152, 153, 154, 155, 156, 157, 158, 159] (by decide +kernel)
theorem dX11_sundaysTillNamed_0 : decode cX11_sundaysTillNamed 0 = .ok (.aload_n 0, 1) := by decide +kernel
theorem dX11_sundaysTillNamed_1 : decode cX11_sundaysTillNamed 1 = .ok (.getfield 95, 3) := by decide +kernel
theorem dX11_sundaysTillNamed_4 : decode cX11_sundaysTillNamed 4 = .ok (.aload_n 0, 1) := by decide +kernel
theorem dX11_sundaysTillNamed_5 : decode cX11_sundaysTillNamed 5 = .ok (.getfield 88, 3) := by decide +kernel
theorem dX11_sundaysTillNamed_8 : decode cX11_sundaysTillNamed 8 = .ok (.invokevirtual 224, 3) := by decide +kernel
theorem dX11_sundaysTillNamed_11 : decode cX11_sundaysTillNamed 11 = .ok (.iconst 0, 1) := by decide +kernel
theorem dX11_sundaysTillNamed_12 : decode cX11_sundaysTillNamed 12 = .ok (.istore_n 2, 1) := by decide +kernel
theorem dX11_sundaysTillNamed_13 : decode cX11_sundaysTillNamed 13 = .ok (.iload_n 2, 1) := by decide +kernel
theorem dX11_sundaysTillNamed_14 : decode cX11_sundaysTillNamed 14 = .ok (.bipush 60, 2) := by decide +kernel
theorem dX11_sundaysTillNamed_16 : decode cX11_sundaysTillNamed 16 = .ok (.if_icmp .ge 34, 3) := by decide +kernel
theorem dX11_sundaysTillNamed_19 : decode cX11_sundaysTillNamed 19 = .ok (.aload_n 0, 1) := by decide +kernel
theorem dX11_sundaysTillNamed_20 : decode cX11_sundaysTillNamed 20 = .ok (.getfield 95, 3) := by decide +kernel
theorem dX11_sundaysTillNamed_23 : decode cX11_sundaysTillNamed 23 = .ok (.getfield 151, 3) := by decide +kernel
theorem dX11_sundaysTillNamed_26 : decode cX11_sundaysTillNamed 26 = .ok (.iload_n 1, 1) := by decide +kernel
theorem dX11_sundaysTillNamed_27 : decode cX11_sundaysTillNamed 27 = .ok (.iaload, 1) := by decide +kernel
theorem dX11_sundaysTillNamed_28 : decode cX11_sundaysTillNamed 28 = .ok (.bipush (-5), 2) := by decide +kernel
theorem dX11_sundaysTillNamed_30 : decode cX11_sundaysTillNamed 30 = .ok (.if_icmp .ne 20, 3) := by decide +kernel
theorem dX11_sundaysTillNamed_33 : decode cX11_sundaysTillNamed 33 = .ok (.aload_n 0, 1) := by decide +kernel
theorem dX11_sundaysTillNamed_34 : decode cX11_sundaysTillNamed 34 = .ok (.aload_n 0, 1) := by decide +kernel
theorem dX11_sundaysTillNamed_35 : decode cX11_sundaysTillNamed 35 = .ok (.getfield 95, 3) := by decide +kernel
theorem dX11_sundaysTillNamed_38 : decode cX11_sundaysTillNamed 38 = .ok (.iconst 1, 1) := by decide +kernel
theorem dX11_sundaysTillNamed_39 : decode cX11_sundaysTillNamed 39 = .ok (.ldc 228, 2) := by decide +kernel
theorem dX11_sundaysTillNamed_41 : decode cX11_sundaysTillNamed 41 = .ok (.invokevirtual 220, 3) := by decide +kernel
theorem dX11_sundaysTillNamed_44 : decode cX11_sundaysTillNamed 44 = .ok (.iinc 2 1, 3) := by decide +kernel
theorem dX11_sundaysTillNamed_47 : decode cX11_sundaysTillNamed 47 = .ok (.goto (-34), 3) := by decide +kernel
theorem dX11_sundaysTillNamed_50 : decode cX11_sundaysTillNamed 50 = .ok (.aload_n 0, 1) := by decide +kernel
theorem dX11_sundaysTillNamed_51 : decode cX11_sundaysTillNamed 51 = .ok (.getfield 95, 3) := by decide +kernel
theorem dX11_sundaysTillNamed_54 : decode cX11_sundaysTillNamed 54 = .ok (.getfield 151, 3) := by decide +kernel
theorem dX11_sundaysTillNamed_57 : decode cX11_sundaysTillNamed 57 = .ok (.iload_n 1, 1) := by decide +kernel
theorem dX11_sundaysTillNamed_58 : decode cX11_sundaysTillNamed 58 = .ok (.iaload, 1) := by decide +kernel
theorem dX11_sundaysTillNamed_59 : decode cX11_sundaysTillNamed 59 = .ok (.bipush (-5), 2) := by decide +kernel
theorem dX11_sundaysTillNamed_61 : decode cX11_sundaysTillNamed 61 = .ok (.if_icmp .ne 8, 3) := by decide +kernel
theorem dX11_sundaysTillNamed_64 : decode cX11_sundaysTillNamed 64 = .ok (.bipush (-5), 2) := by decide +kernel
theorem dX11_sundaysTillNamed_66 : decode cX11_sundaysTillNamed 66 = .ok (.goto 18, 3) := by decide +kernel
theorem dX11_sundaysTillNamed_69 : decode cX11_sundaysTillNamed 69 = .ok (.aload_n 0, 1) := by decide +kernel
theorem dX11_sundaysTillNamed_70 : decode cX11_sundaysTillNamed 70 = .ok (.getfield 95, 3) := by decide +kernel
theorem dX11_sundaysTillNamed_73 : decode cX11_sundaysTillNamed 73 = .ok (.getfield 198, 3) := by decide +kernel
theorem dX11_sundaysTillNamed_76 : decode cX11_sundaysTillNamed 76 = .ok (.aload_n 0, 1) := by decide +kernel
theorem dX11_sundaysTillNamed_77 : decode cX11_sundaysTillNamed 77 = .ok (.getfield 88, 3) := by decide +kernel
theorem dX11_sundaysTillNamed_80 : decode cX11_sundaysTillNamed 80 = .ok (.getfield 198, 3) := by decide +kernel
theorem dX11_sundaysTillNamed_83 : decode cX11_sundaysTillNamed 83 = .ok (.isub, 1) := by decide +kernel
theorem dX11_sundaysTillNamed_84 : decode cX11_sundaysTillNamed 84 = .ok (.ireturn, 1) := by decide +kernel
set_option maxRecDepth 20000 in
theorem ggX11_sundaysTillNamed_X7_copyFrom : GoodIn wsX11_sundaysTillNamed wsX7_copyFrom := goodIn_r _ [10, 11, 12, 13, 14, 15, 16, 17, 18, 19, 20, 21, 22, 23, 24, 25, 26, 27, 28, 29, 30, 31, 32, 33, 34, 35, 36, 37, 38, 39, 40, 41, 160, 161, 162, 163, 164, 165, 166, 167, 168, 169, 170, 171, 172, 173, 174, 175, 176, 177, 178, 179, 180] (by decide +kernel) (by decide +kernel)
set_option maxRecDepth 20000 in
theorem gX11_sundaysTillNamed_X7_copyFrom : GoodIn wsX11_sundaysTillNamed (wsV RX11 224 RX7 yX7_copyFrom wsX7_copyFrom) := goodIn_app (goodIn_of _ (by decide +kernel)) ggX11_sundaysTillNamed_X7_copyFrom
set_option maxRecDepth 20000 in
theorem ggX11_sundaysTillNamed_X11_letGo : GoodIn wsX11_sundaysTillNamed wsX11_letGo := goodIn_r _ [46, 47, 48, 49, 50, 51, 45, 52, 53, 54, 3, 55, 56, 57, 58, 59, 60, 61, 62, 63, 9, 64, 16, 18, 65, 66, 67, 68, 69, 70, 71, 72, 73, 74, 75, 76, 77, 78, 79, 80, 81, 82, 83, 84, 85, 86, 87, 88, 89, 90, 91, 92, 93, 94, 95, 96, 97, 98, 99, 100, 101, 102, 103, 104, 105, 106, 107, 108, 109, 110, 111, 112, 113, 114, 115, 116, 117, 118, 119, 120, 121, 122, 123, 124, 125, 126, 127, 128, 129, 130, 131, 132, 19, 133, 134, 135, 136, 137, 138, 139, 31, 140, 21, 25, 24, 20, 160, 161, 162, 163, 164, 165, 166, 167, 168, 169, 170, 171, 172, 173, 174, 175, 176, 141, 142, 143, 144, 145, 146, 147, 148, 149, 150, 151, 152, 153, 154, 155, 156, 157, 158, 159, 181, 182, 183, 184, 185, 186, 187, 188] (by decide +kernel) (by decide +kernel)
set_option maxRecDepth 20000 in
theorem gX11_sundaysTillNamed_X11_letGo : GoodIn wsX11_sundaysTillNamed (wsV RX11 220 RX11 yX11_letGo wsX11_letGo) := goodIn_app (goodIn_of _ (by decide +kernel)) ggX11_sundaysTillNamed_X11_letGo
def fX11_sundaysTillNamed_50  (a1 : Int32) (x1 : Int32) (g : c_G) : Option (c_G × Int32) :=
  if c_in (x1) (6) = true then if (g.1 103 (x1).toNatClampNeg) = (-5 : Int32) then (some (g, (-5 : Int32))) else (some (g, ((g.1 101 5) - (g.1 55 5)))) else none
set_option maxRecDepth 100000 in
set_option maxHeartbeats 4000000 in
theorem jX11_sundaysTillNamed_50 {p : Program} {l : Launch} {e : Env} {s : State} {m : MethodId} {below : List Frame} {meth : Method} {c : Code} {D : va_G} {tc : Nat → ClassId} {ad : Nat → Nat} {A : Nat → Prop} {E : (Nat → Nat) × (Nat → Nat) × Nat} {a1 : Int32} {g' : c_G} {r : Int32} (C : c_C p s m meth c D tc A E RX11 wsX11_sundaysTillNamed cX11_sundaysTillNamed 3 (some .int) ([.ref (ad 0), .int a1] : List Value).toArray) (hD : c_D A ad TC)  : ∀ (x1 : Int32) (g : c_G), fX11_sundaysTillNamed_50 a1 x1 g = some (g', r) → ∀ (H : Heap) (locs : List Loc), va_P D vwCl (c_ws tc ad TC g) H → va_S A s.heap H locs → ∀ ls : Array Slot, lv_has ls 3 [(0, .ref (ad 0)), (1, .int x1)] → W p l e (c_rm 6) s m ([.ref (ad 0), .int a1] : List Value).toArray below meth c H locs 0 0 (MQ below (va_Qi (fun (x : Int32) (_ : Unit) => x = r) (fun _ t => va_P D vwCl (c_ws tc ad TC g') t.heap) A) ([.ref (ad 0), .int a1] : List Value).toArray s 0 0 A) (F0 m 50 ls []) := by
  obtain ⟨hx, hb, hr, hml, hts, hown, hlk, hK, hE⟩ := id C
  intro x1 g hf H locs hP hS ls hl
  unfold fX11_sundaysTillNamed_50 at hf
  refine lv_aload_n hx hb dX11_sundaysTillNamed_50 rfl (lv_at hl 0 rfl) ?_
  refine c_get hx hb hts i_X11_sundaysTillNamed_X11 hown hK hP 0 tC0 rfl 7 (by decide) (hts _ (List.mem_of_getElem? (i := 1) rfl)) (fun _ h9 => h9) rfl (v := .ref (ad 101)) rfl dX11_sundaysTillNamed_51 ?_
  refine c_get hx hb hts i_X11_sundaysTillNamed_X7 hown hK hP 101 tC101 rfl 1 (by decide) (hts _ (List.mem_of_getElem? (i := 3) rfl)) (fun _ h9 => h9) rfl (v := .ref (ad 103)) rfl dX11_sundaysTillNamed_54 ?_
  refine lv_iload_n hx hb dX11_sundaysTillNamed_57 rfl (lv_at hl 1 rfl) ?_
  obtain ⟨hi50001, hf⟩ := c_gd hf
  refine c_iald (j := (x1).toNatClampNeg) hx hb hK hP 103 tC103 rfl (c_inV hi50001) dX11_sundaysTillNamed_58 ?_
  refine lv_bipush (v := (-5 : Int32)) hx hb dX11_sundaysTillNamed_59 (by decide) ?_
  refine lv_icmp_ne (tgt := 69) hx hb dX11_sundaysTillNamed_61 (by decide) (fun c50002 => ?_) (fun c50002 => ?_)
  · have hf := c_ie c50002 hf
    refine lv_aload_n hx hb dX11_sundaysTillNamed_69 rfl (lv_at hl 0 rfl) ?_
    refine c_get hx hb hts i_X11_sundaysTillNamed_X11 hown hK hP 0 tC0 rfl 7 (by decide) (hts _ (List.mem_of_getElem? (i := 1) rfl)) (fun _ h9 => h9) rfl (v := .ref (ad 101)) rfl dX11_sundaysTillNamed_70 ?_
    refine c_get hx hb hts i_X11_sundaysTillNamed_X7 hown hK hP 101 tC101 rfl 5 (by decide) (hts _ (List.mem_of_getElem? (i := 5) rfl)) (fun _ h9 => h9) rfl (v := .int (g.1 101 5)) rfl dX11_sundaysTillNamed_73 ?_
    refine lv_aload_n hx hb dX11_sundaysTillNamed_76 rfl (lv_at hl 0 rfl) ?_
    refine c_get hx hb hts i_X11_sundaysTillNamed_X11 hown hK hP 0 tC0 rfl 5 (by decide) (hts _ (List.mem_of_getElem? (i := 2) rfl)) (fun _ h9 => h9) rfl (v := .ref (ad 55)) rfl dX11_sundaysTillNamed_77 ?_
    refine c_get hx hb hts i_X11_sundaysTillNamed_X7 hown hK hP 55 tC55 rfl 5 (by decide) (hts _ (List.mem_of_getElem? (i := 5) rfl)) (fun _ h9 => h9) rfl (v := .int (g.1 55 5)) rfl dX11_sundaysTillNamed_80 ?_
    refine lv_isub hx hb dX11_sundaysTillNamed_83 ?_
    exact c_iret hx hb hr hlk hP hS rfl (c_inj hf) dX11_sundaysTillNamed_84
  · have hf := c_it c50002 hf
    refine lv_bipush (v := (-5 : Int32)) hx hb dX11_sundaysTillNamed_64 (by decide) ?_
    refine lv_goto (tgt := 84) hx hb dX11_sundaysTillNamed_66 (by decide) ?_
    exact c_iret hx hb hr hlk hP hS rfl (c_inj hf) dX11_sundaysTillNamed_84
def fX11_sundaysTillNamed_13  (a1 : Int32) : Nat → Int32 → Int32 → c_G → Option (c_G × Int32)
  | 0, _, _, _ => none
  | n + 1, x1, x2, g => if (60 : Int32) ≤ x2 then (fX11_sundaysTillNamed_50 a1 x1 g) else (if c_in (x1) (6) = true then if (g.1 103 (x1).toNatClampNeg) = (-5 : Int32) then ((fX11_letGo g 101 ((1 : Int32)) ((1000000 : Int32))).bind fun g13005 => c_let (x2 + (1 : Int32)) fun v13006 => (fX11_sundaysTillNamed_13 a1 n) x1 v13006 g13005) else (fX11_sundaysTillNamed_50 a1 x1 g) else none)
set_option maxRecDepth 100000 in
set_option maxHeartbeats 4000000 in
theorem jX11_sundaysTillNamed_13 {p : Program} {l : Launch} {e : Env} {s : State} {m : MethodId} {below : List Frame} {meth : Method} {c : Code} {D : va_G} {tc : Nat → ClassId} {ad : Nat → Nat} {A : Nat → Prop} {E : (Nat → Nat) × (Nat → Nat) × Nat} {a1 : Int32} {g' : c_G} {r : Int32} (C : c_C p s m meth c D tc A E RX11 wsX11_sundaysTillNamed cX11_sundaysTillNamed 3 (some .int) ([.ref (ad 0), .int a1] : List Value).toArray) (hD : c_D A ad TC)  : ∀ (n : Nat) (x1 : Int32) (x2 : Int32) (g : c_G), fX11_sundaysTillNamed_13 a1 n x1 x2 g = some (g', r) → ∀ (H : Heap) (locs : List Loc), va_P D vwCl (c_ws tc ad TC g) H → va_S A s.heap H locs → ∀ ls : Array Slot, lv_has ls 3 [(0, .ref (ad 0)), (1, .int x1), (2, .int x2)] → W p l e (c_rm 6) s m ([.ref (ad 0), .int a1] : List Value).toArray below meth c H locs 0 0 (MQ below (va_Qi (fun (x : Int32) (_ : Unit) => x = r) (fun _ t => va_P D vwCl (c_ws tc ad TC g') t.heap) A) ([.ref (ad 0), .int a1] : List Value).toArray s 0 0 A) (F0 m 13 ls []) := by
  obtain ⟨hx, hb, hr, hml, hts, hown, hlk, hK, hE⟩ := id C
  intro n
  induction n with
  | zero =>
    intro x1 x2 g hf
    cases hf
  | succ n ih =>
    intro x1 x2 g hf H locs hP hS ls hl
    unfold fX11_sundaysTillNamed_13 at hf
    refine lv_iload_n hx hb dX11_sundaysTillNamed_13 rfl (lv_at hl 2 rfl) ?_
    refine lv_bipush (v := (60 : Int32)) hx hb dX11_sundaysTillNamed_14 (by decide) ?_
    refine lv_icmp_ge (tgt := 50) hx hb dX11_sundaysTillNamed_16 (by decide) (fun c13001 => ?_) (fun c13001 => ?_)
    · have hf := c_it c13001 hf
      exact jX11_sundaysTillNamed_50 C hD x1 g hf _ _ hP hS _ (lv_sub hl [0, 1] rfl)
    · have hf := c_ie c13001 hf
      refine lv_aload_n hx hb dX11_sundaysTillNamed_19 rfl (lv_at hl 0 rfl) ?_
      refine c_get hx hb hts i_X11_sundaysTillNamed_X11 hown hK hP 0 tC0 rfl 7 (by decide) (hts _ (List.mem_of_getElem? (i := 1) rfl)) (fun _ h9 => h9) rfl (v := .ref (ad 101)) rfl dX11_sundaysTillNamed_20 ?_
      refine c_get hx hb hts i_X11_sundaysTillNamed_X7 hown hK hP 101 tC101 rfl 1 (by decide) (hts _ (List.mem_of_getElem? (i := 3) rfl)) (fun _ h9 => h9) rfl (v := .ref (ad 103)) rfl dX11_sundaysTillNamed_23 ?_
      refine lv_iload_n hx hb dX11_sundaysTillNamed_26 rfl (lv_at hl 1 rfl) ?_
      obtain ⟨hi13002, hf⟩ := c_gd hf
      refine c_iald (j := (x1).toNatClampNeg) hx hb hK hP 103 tC103 rfl (c_inV hi13002) dX11_sundaysTillNamed_27 ?_
      refine lv_bipush (v := (-5 : Int32)) hx hb dX11_sundaysTillNamed_28 (by decide) ?_
      refine lv_icmp_ne (tgt := 50) hx hb dX11_sundaysTillNamed_30 (by decide) (fun c13003 => ?_) (fun c13003 => ?_)
      · have hf := c_ie c13003 hf
        exact jX11_sundaysTillNamed_50 C hD x1 g hf _ _ hP hS _ (lv_sub hl [0, 1] rfl)
      · have hf := c_it c13003 hf
        refine lv_aload_n hx hb dX11_sundaysTillNamed_33 rfl (lv_at hl 0 rfl) ?_
        refine lv_aload_n hx hb dX11_sundaysTillNamed_34 rfl (lv_at hl 0 rfl) ?_
        refine c_get hx hb hts i_X11_sundaysTillNamed_X11 hown hK hP 0 tC0 rfl 7 (by decide) (hts _ (List.mem_of_getElem? (i := 1) rfl)) (fun _ h9 => h9) rfl (v := .ref (ad 101)) rfl dX11_sundaysTillNamed_35 ?_
        refine lv_iconst (v := (1 : Int32)) hx hb dX11_sundaysTillNamed_38 (by decide) ?_
        refine lv_ldc hx hb hown (v := (1000000 : Int32)) (hts _ (List.mem_of_getElem? (i := 4) rfl)) dX11_sundaysTillNamed_39 ?_
        obtain ⟨g13005, hc13004, hf⟩ := c_bd hf
        refine c_gov (va_runV (As := [.ref (ad 101), .int (1 : Int32), .int (1000000 : Int32)]) (rest := []) ⟨hx, hb, hml, hown, hts⟩ (kX11_letGo hD hc13004) (cwV 3 hts gX11_sundaysTillNamed_X11_letGo rfl rfl rfl (by decide +kernel) ⟨Nat.le_of_ble_eq_true rfl, Nat.le_of_ble_eq_true rfl⟩) (c_preV hK hP hE hS tC0 rfl) rfl rfl hl.1 rfl (lv_room (Nat.le_of_ble_eq_true rfl)) dX11_sundaysTillNamed_41 ⟨Nat.zero_le _, Nat.zero_le _⟩) hS (fun H locs hP hS => ?_)
        obtain ⟨v13006, ev13006, hf⟩ := c_letE hf
        refine lv_iinc (v := v13006) (lv' := [(2, .int v13006), (0, .ref (ad 0)), (1, .int x1)]) hx hb dX11_sundaysTillNamed_44 hl (k := 2) rfl (by rw [ev13006]; rfl) (by decide) rfl (fun ls hl => ?_)
        refine lv_goto (tgt := 13) hx hb dX11_sundaysTillNamed_47 (by decide) ?_
        exact ih x1 v13006 g13005 hf _ _ hP hS _ (lv_sub hl [1, 2, 0] rfl)
def fX11_sundaysTillNamed (g : c_G) (a1 : Int32) : Option (c_G × Int32) :=
  (fX7_copyFrom g 55).bind fun g2 => fX11_sundaysTillNamed_13 a1 c_F a1 ((0 : Int32)) g2
set_option maxRecDepth 100000 in
set_option maxHeartbeats 4000000 in
theorem kX11_sundaysTillNamed {l : Launch} {D : va_G} {tc : Nat → ClassId} {ad : Nat → Nat} {A : Nat → Prop} {E : (Nat → Nat) × (Nat → Nat) × Nat} (hD : c_D A ad TC) {a1 : Int32} {g g' : c_G} {r : Int32} (hf : fX11_sundaysTillNamed g a1 = some (g', r)) : c_Mi l yX11_sundaysTillNamed wsX11_sundaysTillNamed (c_rm 6) D tc ad A E TC ([.ref (ad 0), .int a1] : List Value) g g' r := by
  refine c_ofW (bytes := cX11_sundaysTillNamed) (maxL := 3) (ret := (some .int)) (by decide) rfl (Nat.le_of_ble_eq_true rfl) ?_
  intro p e s m below meth c ls C hP hS hl
  unfold fX11_sundaysTillNamed at hf
  obtain ⟨hx, hb, hr, hml, hts, hown, hlk, hK, hE⟩ := id C
  have hl : lv_has ls 3 [(0, .ref (ad 0)), (1, .int a1)] := hl
  refine lv_aload_n hx hb dX11_sundaysTillNamed_0 rfl (lv_at hl 0 rfl) ?_
  refine c_get hx hb hts i_X11_sundaysTillNamed_X11 hown hK hP 0 tC0 rfl 7 (by decide) (hts _ (List.mem_of_getElem? (i := 1) rfl)) (fun _ h9 => h9) rfl (v := .ref (ad 101)) rfl dX11_sundaysTillNamed_1 ?_
  refine lv_aload_n hx hb dX11_sundaysTillNamed_4 rfl (lv_at hl 0 rfl) ?_
  refine c_get hx hb hts i_X11_sundaysTillNamed_X11 hown hK hP 0 tC0 rfl 5 (by decide) (hts _ (List.mem_of_getElem? (i := 2) rfl)) (fun _ h9 => h9) rfl (v := .ref (ad 55)) rfl dX11_sundaysTillNamed_5 ?_
  obtain ⟨g2, hc1, hf⟩ := c_bd hf
  refine c_gov (va_runV (As := [.ref (ad 55)]) (rest := []) ⟨hx, hb, hml, hown, hts⟩ (kX7_copyFrom hD hc1) (cwV 1 hts gX11_sundaysTillNamed_X7_copyFrom rfl rfl rfl (by decide +kernel) ⟨Nat.le_of_ble_eq_true rfl, Nat.le_of_ble_eq_true rfl⟩) (c_preV hK hP hE hS tC101 rfl) rfl rfl hl.1 rfl (lv_room (Nat.le_of_ble_eq_true rfl)) dX11_sundaysTillNamed_8 ⟨Nat.zero_le _, Nat.zero_le _⟩) hS (fun H locs hP hS => ?_)
  refine lv_iconst (v := (0 : Int32)) hx hb dX11_sundaysTillNamed_11 (by decide) ?_
  refine lv_istore_n (lv' := [(2, .int (0 : Int32)), (0, .ref (ad 0)), (1, .int a1)]) hx hb dX11_sundaysTillNamed_12 rfl hl (by decide) rfl (fun ls hl => ?_)
  exact jX11_sundaysTillNamed_13 C hD c_F a1 ((0 : Int32)) g2 hf _ _ hP hS _ (lv_sub hl [1, 2, 0] rfl)
theorem i_X11_elder_X7 : ∀ w ∈ u_ws RX7 TX7 17, w ∈ wsX11_elder := c_inP [168, 169, 170, 171, 172, 173, 174, 175, 176, 177, 178, 179, 180, 181, 182, 183, 184] (by decide +kernel)
theorem i_X11_elder_X11 : ∀ w ∈ u_ws RX11 TX11 19, w ∈ wsX11_elder := c_inP [149, 150, 151, 152, 153, 154, 155, 156, 157, 158, 159, 160, 161, 162, 163, 164, 165, 166, 167] (by decide +kernel)
theorem dX11_elder_0 : decode cX11_elder 0 = .ok (.iload_n 1, 1) := by decide +kernel
theorem dX11_elder_1 : decode cX11_elder 1 = .ok (.invokestatic 141, 3) := by decide +kernel
theorem dX11_elder_4 : decode cX11_elder 4 = .ok (.ifCond .ne 5, 3) := by decide +kernel
theorem dX11_elder_7 : decode cX11_elder 7 = .ok (.iconst (-1), 1) := by decide +kernel
theorem dX11_elder_8 : decode cX11_elder 8 = .ok (.ireturn, 1) := by decide +kernel
theorem dX11_elder_9 : decode cX11_elder 9 = .ok (.iload_n 2, 1) := by decide +kernel
theorem dX11_elder_10 : decode cX11_elder 10 = .ok (.tableswitch 80 0 4 #[34, 44, 54, 64, 74], 34) := by decide +kernel
theorem dX11_elder_44 : decode cX11_elder 44 = .ok (.aload_n 0, 1) := by decide +kernel
theorem dX11_elder_45 : decode cX11_elder 45 = .ok (.getfield 88, 3) := by decide +kernel
theorem dX11_elder_48 : decode cX11_elder 48 = .ok (.getfield 148, 3) := by decide +kernel
theorem dX11_elder_51 : decode cX11_elder 51 = .ok (.iload_n 1, 1) := by decide +kernel
theorem dX11_elder_52 : decode cX11_elder 52 = .ok (.iaload, 1) := by decide +kernel
theorem dX11_elder_53 : decode cX11_elder 53 = .ok (.ireturn, 1) := by decide +kernel
theorem dX11_elder_54 : decode cX11_elder 54 = .ok (.aload_n 0, 1) := by decide +kernel
theorem dX11_elder_55 : decode cX11_elder 55 = .ok (.getfield 88, 3) := by decide +kernel
theorem dX11_elder_58 : decode cX11_elder 58 = .ok (.getfield 151, 3) := by decide +kernel
theorem dX11_elder_61 : decode cX11_elder 61 = .ok (.iload_n 1, 1) := by decide +kernel
theorem dX11_elder_62 : decode cX11_elder 62 = .ok (.iaload, 1) := by decide +kernel
theorem dX11_elder_63 : decode cX11_elder 63 = .ok (.ireturn, 1) := by decide +kernel
theorem dX11_elder_64 : decode cX11_elder 64 = .ok (.aload_n 0, 1) := by decide +kernel
theorem dX11_elder_65 : decode cX11_elder 65 = .ok (.getfield 88, 3) := by decide +kernel
theorem dX11_elder_68 : decode cX11_elder 68 = .ok (.getfield 154, 3) := by decide +kernel
theorem dX11_elder_71 : decode cX11_elder 71 = .ok (.iload_n 1, 1) := by decide +kernel
theorem dX11_elder_72 : decode cX11_elder 72 = .ok (.iaload, 1) := by decide +kernel
theorem dX11_elder_73 : decode cX11_elder 73 = .ok (.ireturn, 1) := by decide +kernel
theorem dX11_elder_74 : decode cX11_elder 74 = .ok (.aload_n 0, 1) := by decide +kernel
theorem dX11_elder_75 : decode cX11_elder 75 = .ok (.getfield 88, 3) := by decide +kernel
theorem dX11_elder_78 : decode cX11_elder 78 = .ok (.getfield 157, 3) := by decide +kernel
theorem dX11_elder_81 : decode cX11_elder 81 = .ok (.iload_n 1, 1) := by decide +kernel
theorem dX11_elder_82 : decode cX11_elder 82 = .ok (.iaload, 1) := by decide +kernel
theorem dX11_elder_83 : decode cX11_elder 83 = .ok (.ireturn, 1) := by decide +kernel
theorem dX11_elder_84 : decode cX11_elder 84 = .ok (.aload_n 0, 1) := by decide +kernel
theorem dX11_elder_85 : decode cX11_elder 85 = .ok (.iload_n 1, 1) := by decide +kernel
theorem dX11_elder_86 : decode cX11_elder 86 = .ok (.invokevirtual 160, 3) := by decide +kernel
theorem dX11_elder_89 : decode cX11_elder 89 = .ok (.ireturn, 1) := by decide +kernel
theorem dX11_elder_90 : decode cX11_elder 90 = .ok (.iconst (-1), 1) := by decide +kernel
theorem dX11_elder_91 : decode cX11_elder 91 = .ok (.ireturn, 1) := by decide +kernel
set_option maxRecDepth 20000 in
theorem ggX11_elder_X11_isElder : GoodIn wsX11_elder wsX11_isElder := goodIn_r _ [9] (by decide +kernel) (by decide +kernel)
set_option maxRecDepth 20000 in
theorem gX11_elder_X11_isElder : GoodIn wsX11_elder (va_wsS RX11 141 yX11_isElder wsX11_isElder) := goodIn_app (goodIn_of _ (by decide +kernel)) ggX11_elder_X11_isElder
set_option maxRecDepth 20000 in
theorem ggX11_elder_X11_sundaysTillNamed : GoodIn wsX11_elder wsX11_sundaysTillNamed := goodIn_r _ [13, 14, 1, 3, 15, 16, 17, 18, 19, 20, 21, 22, 23, 24, 25, 26, 27, 28, 29, 30, 31, 32, 33, 34, 35, 36, 37, 38, 39, 40, 41, 42, 43, 44, 45, 46, 47, 48, 49, 50, 51, 52, 53, 54, 55, 8, 56, 57, 58, 59, 60, 61, 62, 63, 64, 4, 65, 66, 67, 68, 69, 70, 71, 72, 73, 74, 75, 76, 77, 78, 79, 80, 2, 81, 82, 83, 84, 85, 86, 87, 88, 89, 90, 91, 92, 93, 94, 95, 96, 97, 98, 99, 100, 101, 102, 103, 104, 105, 106, 107, 108, 109, 110, 111, 112, 113, 114, 115, 116, 117, 118, 119, 120, 121, 122, 123, 124, 125, 126, 127, 128, 129, 130, 131, 132, 133, 134, 135, 136, 137, 138, 139, 140, 141, 142, 143, 144, 145, 146, 147, 148, 149, 150, 151, 152, 153, 154, 155, 156, 157, 158, 159, 160, 161, 162, 163, 164, 165, 166, 167, 168, 169, 170, 171, 172, 173, 174, 175, 176, 177, 178, 179, 180, 181, 182, 183, 184, 185, 186, 187, 188, 189, 190, 191, 192, 193, 194, 195, 196] (by decide +kernel) (by decide +kernel)
set_option maxRecDepth 20000 in
theorem gX11_elder_X11_sundaysTillNamed : GoodIn wsX11_elder (wsV RX11 160 RX11 yX11_sundaysTillNamed wsX11_sundaysTillNamed) := goodIn_app (goodIn_of _ (by decide +kernel)) ggX11_elder_X11_sundaysTillNamed
def fX11_elder (g : c_G) (a1 : Int32) (a2 : Int32) : Option (c_G × Int32) :=
  if (fX11_isElder a1) = 0 then (some (g, (-1 : Int32))) else (if a2 = (0 : Int32) then (if c_in (a1) (6) = true then some (g, (g.1 56 (a1).toNatClampNeg)) else none) else if a2 = (1 : Int32) then (if c_in (a1) (6) = true then some (g, (g.1 57 (a1).toNatClampNeg)) else none) else if a2 = (2 : Int32) then (if c_in (a1) (6) = true then some (g, (g.1 58 (a1).toNatClampNeg)) else none) else if a2 = (3 : Int32) then (if c_in (a1) (6) = true then some (g, (g.1 59 (a1).toNatClampNeg)) else none) else if a2 = (4 : Int32) then (c_b2 (fX11_sundaysTillNamed g a1) fun g12 r13 => some (g12, r13)) else (some (g, (-1 : Int32))))
set_option maxRecDepth 100000 in
set_option maxHeartbeats 4000000 in
theorem kX11_elder {l : Launch} {D : va_G} {tc : Nat → ClassId} {ad : Nat → Nat} {A : Nat → Prop} {E : (Nat → Nat) × (Nat → Nat) × Nat} (hD : c_D A ad TC) {a1 : Int32} {a2 : Int32} {g g' : c_G} {r : Int32} (hf : fX11_elder g a1 a2 = some (g', r)) : c_Mi l yX11_elder wsX11_elder (c_rm 7) D tc ad A E TC ([.ref (ad 0), .int a1, .int a2] : List Value) g g' r := by
  refine c_ofW (bytes := cX11_elder) (maxL := 3) (ret := (some .int)) (by decide) rfl (Nat.le_of_ble_eq_true rfl) ?_
  intro p e s m below meth c ls C hP hS hl
  unfold fX11_elder at hf
  obtain ⟨hx, hb, hr, hml, hts, hown, hlk, hK, hE⟩ := id C
  have hl : lv_has ls 3 [(0, .ref (ad 0)), (1, .int a1), (2, .int a2)] := hl
  refine lv_iload_n hx hb dX11_elder_0 rfl (lv_at hl 1 rfl) ?_
  refine c_goi (va_runS (As := [.int a1]) (rest := []) ⟨hx, hb, hml, hown, hts⟩ (kX11_isElder (T := TC) (g := g) rfl) (va_cwS 1 hts gX11_elder_X11_isElder rfl rfl rfl (by decide +kernel) ⟨Nat.le_of_ble_eq_true rfl, Nat.le_of_ble_eq_true rfl⟩) (c_preS hK hP hE hS) rfl rfl hl.1 rfl (lv_room (Nat.le_of_ble_eq_true rfl)) dX11_elder_1 ⟨Nat.zero_le _, Nat.zero_le _⟩) hS (fun H locs hP hS => ?_)
  refine lv_if_ne (tgt := 9) hx hb dX11_elder_4 (by decide) (fun c1 => ?_) (fun c1 => ?_)
  · have hf := c_ie c1 hf
    refine lv_iload_n hx hb dX11_elder_9 rfl (lv_at hl 2 rfl) ?_
    by_cases c2 : a2 = (0 : Int32)
    · have hf := c_it c2 hf
      refine lv_tableIn (off := 34) (tgt := 44) hx hb dX11_elder_10 (by rw [c2]; decide) (by rw [c2]; decide) (by rw [c2]; rfl) (by decide) ?_
      refine lv_aload_n hx hb dX11_elder_44 rfl (lv_at hl 0 rfl) ?_
      refine c_get hx hb hts i_X11_elder_X11 hown hK hP 0 tC0 rfl 5 (by decide) (hts _ (List.mem_of_getElem? (i := 1) rfl)) (fun _ h9 => h9) rfl (v := .ref (ad 55)) rfl dX11_elder_45 ?_
      refine c_get hx hb hts i_X11_elder_X7 hown hK hP 55 tC55 rfl 0 (by decide) (hts _ (List.mem_of_getElem? (i := 2) rfl)) (fun _ h9 => h9) rfl (v := .ref (ad 56)) rfl dX11_elder_48 ?_
      refine lv_iload_n hx hb dX11_elder_51 rfl (lv_at hl 1 rfl) ?_
      obtain ⟨hi3, hf⟩ := c_gd hf
      refine c_iald (j := (a1).toNatClampNeg) hx hb hK hP 56 tC56 rfl (c_inV hi3) dX11_elder_52 ?_
      exact c_iret hx hb hr hlk hP hS rfl (c_inj hf) dX11_elder_53
    have hf := c_ie c2 hf
    by_cases c4 : a2 = (1 : Int32)
    · have hf := c_it c4 hf
      refine lv_tableIn (off := 44) (tgt := 54) hx hb dX11_elder_10 (by rw [c4]; decide) (by rw [c4]; decide) (by rw [c4]; rfl) (by decide) ?_
      refine lv_aload_n hx hb dX11_elder_54 rfl (lv_at hl 0 rfl) ?_
      refine c_get hx hb hts i_X11_elder_X11 hown hK hP 0 tC0 rfl 5 (by decide) (hts _ (List.mem_of_getElem? (i := 1) rfl)) (fun _ h9 => h9) rfl (v := .ref (ad 55)) rfl dX11_elder_55 ?_
      refine c_get hx hb hts i_X11_elder_X7 hown hK hP 55 tC55 rfl 1 (by decide) (hts _ (List.mem_of_getElem? (i := 3) rfl)) (fun _ h9 => h9) rfl (v := .ref (ad 57)) rfl dX11_elder_58 ?_
      refine lv_iload_n hx hb dX11_elder_61 rfl (lv_at hl 1 rfl) ?_
      obtain ⟨hi5, hf⟩ := c_gd hf
      refine c_iald (j := (a1).toNatClampNeg) hx hb hK hP 57 tC57 rfl (c_inV hi5) dX11_elder_62 ?_
      exact c_iret hx hb hr hlk hP hS rfl (c_inj hf) dX11_elder_63
    have hf := c_ie c4 hf
    by_cases c6 : a2 = (2 : Int32)
    · have hf := c_it c6 hf
      refine lv_tableIn (off := 54) (tgt := 64) hx hb dX11_elder_10 (by rw [c6]; decide) (by rw [c6]; decide) (by rw [c6]; rfl) (by decide) ?_
      refine lv_aload_n hx hb dX11_elder_64 rfl (lv_at hl 0 rfl) ?_
      refine c_get hx hb hts i_X11_elder_X11 hown hK hP 0 tC0 rfl 5 (by decide) (hts _ (List.mem_of_getElem? (i := 1) rfl)) (fun _ h9 => h9) rfl (v := .ref (ad 55)) rfl dX11_elder_65 ?_
      refine c_get hx hb hts i_X11_elder_X7 hown hK hP 55 tC55 rfl 2 (by decide) (hts _ (List.mem_of_getElem? (i := 4) rfl)) (fun _ h9 => h9) rfl (v := .ref (ad 58)) rfl dX11_elder_68 ?_
      refine lv_iload_n hx hb dX11_elder_71 rfl (lv_at hl 1 rfl) ?_
      obtain ⟨hi7, hf⟩ := c_gd hf
      refine c_iald (j := (a1).toNatClampNeg) hx hb hK hP 58 tC58 rfl (c_inV hi7) dX11_elder_72 ?_
      exact c_iret hx hb hr hlk hP hS rfl (c_inj hf) dX11_elder_73
    have hf := c_ie c6 hf
    by_cases c8 : a2 = (3 : Int32)
    · have hf := c_it c8 hf
      refine lv_tableIn (off := 64) (tgt := 74) hx hb dX11_elder_10 (by rw [c8]; decide) (by rw [c8]; decide) (by rw [c8]; rfl) (by decide) ?_
      refine lv_aload_n hx hb dX11_elder_74 rfl (lv_at hl 0 rfl) ?_
      refine c_get hx hb hts i_X11_elder_X11 hown hK hP 0 tC0 rfl 5 (by decide) (hts _ (List.mem_of_getElem? (i := 1) rfl)) (fun _ h9 => h9) rfl (v := .ref (ad 55)) rfl dX11_elder_75 ?_
      refine c_get hx hb hts i_X11_elder_X7 hown hK hP 55 tC55 rfl 3 (by decide) (hts _ (List.mem_of_getElem? (i := 5) rfl)) (fun _ h9 => h9) rfl (v := .ref (ad 59)) rfl dX11_elder_78 ?_
      refine lv_iload_n hx hb dX11_elder_81 rfl (lv_at hl 1 rfl) ?_
      obtain ⟨hi9, hf⟩ := c_gd hf
      refine c_iald (j := (a1).toNatClampNeg) hx hb hK hP 59 tC59 rfl (c_inV hi9) dX11_elder_82 ?_
      exact c_iret hx hb hr hlk hP hS rfl (c_inj hf) dX11_elder_83
    have hf := c_ie c8 hf
    by_cases c10 : a2 = (4 : Int32)
    · have hf := c_it c10 hf
      refine lv_tableIn (off := 74) (tgt := 84) hx hb dX11_elder_10 (by rw [c10]; decide) (by rw [c10]; decide) (by rw [c10]; rfl) (by decide) ?_
      refine lv_aload_n hx hb dX11_elder_84 rfl (lv_at hl 0 rfl) ?_
      refine lv_iload_n hx hb dX11_elder_85 rfl (lv_at hl 1 rfl) ?_
      obtain ⟨g12, r13, hc11, hf⟩ := c_b2E hf
      refine c_goi (va_runV (As := [.int a1]) (rest := []) ⟨hx, hb, hml, hown, hts⟩ (kX11_sundaysTillNamed hD hc11) (cwV 1 hts gX11_elder_X11_sundaysTillNamed rfl rfl rfl (by decide +kernel) ⟨Nat.le_of_ble_eq_true rfl, Nat.le_of_ble_eq_true rfl⟩) (c_preV hK hP hE hS tC0 rfl) rfl rfl hl.1 rfl (lv_room (Nat.le_of_ble_eq_true rfl)) dX11_elder_86 ⟨Nat.zero_le _, Nat.zero_le _⟩) hS (fun H locs hP hS => ?_)
      exact c_iret hx hb hr hlk hP hS rfl (c_inj hf) dX11_elder_89
    have hf := c_ie c10 hf
    have h9 := c_sw (x := a2) (lo := 0) (n := 4) (by decide) (fun k hj hk => by rcases (show k = 0 ∨ k = 1 ∨ k = 2 ∨ k = 3 ∨ k = 4 by omega) with rfl | rfl | rfl | rfl | rfl <;> assumption)
    refine lv_tableOut (tgt := 90) hx hb dX11_elder_10 (by omega) (by decide) ?_
    refine lv_iconst (v := (-1 : Int32)) hx hb dX11_elder_90 (by decide) ?_
    exact c_iret hx hb hr hlk hP hS rfl (c_inj hf) dX11_elder_91
  · have hf := c_it c1 hf
    refine lv_iconst (v := (-1 : Int32)) hx hb dX11_elder_7 (by decide) ?_
    exact c_iret hx hb hr hlk hP hS rfl (c_inj hf) dX11_elder_8
theorem dX11_isWord_0 : decode cX11_isWord 0 = .ok (.iload_n 0, 1) := by decide +kernel
theorem dX11_isWord_1 : decode cX11_isWord 1 = .ok (.ifCond .lt 13, 3) := by decide +kernel
theorem dX11_isWord_4 : decode cX11_isWord 4 = .ok (.iload_n 0, 1) := by decide +kernel
theorem dX11_isWord_5 : decode cX11_isWord 5 = .ok (.bipush 12, 2) := by decide +kernel
theorem dX11_isWord_7 : decode cX11_isWord 7 = .ok (.if_icmp .ge 7, 3) := by decide +kernel
theorem dX11_isWord_10 : decode cX11_isWord 10 = .ok (.iconst 1, 1) := by decide +kernel
theorem dX11_isWord_11 : decode cX11_isWord 11 = .ok (.goto 4, 3) := by decide +kernel
theorem dX11_isWord_14 : decode cX11_isWord 14 = .ok (.iconst 0, 1) := by decide +kernel
theorem dX11_isWord_15 : decode cX11_isWord 15 = .ok (.ireturn, 1) := by decide +kernel
def fX11_isWord (a1 : Int32) : Int32 :=
  if a1 < 0 then ((0 : Int32)) else (if (12 : Int32) ≤ a1 then ((0 : Int32)) else ((1 : Int32)))
set_option maxRecDepth 100000 in
set_option maxHeartbeats 4000000 in
theorem kX11_isWord {l : Launch} {D : va_G} {tc : Nat → ClassId} {ad : Nat → Nat} {A : Nat → Prop} {E : (Nat → Nat) × (Nat → Nat) × Nat} {T : List c_T} {a1 : Int32} {g : c_G} {r : Int32} (hf : fX11_isWord a1 = r) : c_Mi l yX11_isWord wsX11_isWord (c_rm 0) D tc ad A E T ([.int a1] : List Value) g g r := by
  refine c_ofW (bytes := cX11_isWord) (maxL := 1) (ret := (some .boolean)) (by decide) rfl (Nat.le_of_ble_eq_true rfl) ?_
  intro p e s m below meth c ls C hP hS hl
  unfold fX11_isWord at hf
  obtain ⟨hx, hb, hr, hml, hts, hown, hlk, hK, hE⟩ := id C
  have hl : lv_has ls 1 [(0, .int a1)] := hl
  refine lv_iload_n hx hb dX11_isWord_0 rfl (lv_at hl 0 rfl) ?_
  refine lv_if_lt (tgt := 14) hx hb dX11_isWord_1 (by decide) (fun c1 => ?_) (fun c1 => ?_)
  · have hf := c_it c1 hf
    refine lv_iconst (v := (0 : Int32)) hx hb dX11_isWord_14 (by decide) ?_
    exact c_iret hx hb hr hlk hP hS rfl ⟨rfl, hf⟩ dX11_isWord_15
  · have hf := c_ie c1 hf
    refine lv_iload_n hx hb dX11_isWord_4 rfl (lv_at hl 0 rfl) ?_
    refine lv_bipush (v := (12 : Int32)) hx hb dX11_isWord_5 (by decide) ?_
    refine lv_icmp_ge (tgt := 14) hx hb dX11_isWord_7 (by decide) (fun c2 => ?_) (fun c2 => ?_)
    · have hf := c_it c2 hf
      refine lv_iconst (v := (0 : Int32)) hx hb dX11_isWord_14 (by decide) ?_
      exact c_iret hx hb hr hlk hP hS rfl ⟨rfl, hf⟩ dX11_isWord_15
    · have hf := c_ie c2 hf
      refine lv_iconst (v := (1 : Int32)) hx hb dX11_isWord_10 (by decide) ?_
      refine lv_goto (tgt := 15) hx hb dX11_isWord_11 (by decide) ?_
      exact c_iret hx hb hr hlk hP hS rfl ⟨rfl, hf⟩ dX11_isWord_15
theorem bX11_isWord (a1 : Int32) : fX11_isWord a1 = 0 ∨ fX11_isWord a1 = 1 := by
  unfold fX11_isWord
  first | (repeat' split) <;> first | exact Or.inl rfl | exact Or.inr rfl
theorem i_X11_fits_X7 : ∀ w ∈ u_ws RX7 TX7 17, w ∈ wsX11_fits := c_inP [99, 100, 101, 102, 103, 104, 105, 106, 107, 108, 109, 110, 111, 112, 113, 114, 115] (by decide +kernel)
theorem i_X11_fits_X11 : ∀ w ∈ u_ws RX11 TX11 19, w ∈ wsX11_fits := c_inP [80, 81, 82, 83, 84, 85, 86, 87, 88, 89, 90, 91, 92, 93, 94, 95, 96, 97, 98] (by decide +kernel)
theorem dX11_fits_0 : decode cX11_fits 0 = .ok (.aload_n 0, 1) := by decide +kernel
theorem dX11_fits_1 : decode cX11_fits 1 = .ok (.iload_n 1, 1) := by decide +kernel
theorem dX11_fits_2 : decode cX11_fits 2 = .ok (.invokevirtual 119, 3) := by decide +kernel
theorem dX11_fits_5 : decode cX11_fits 5 = .ok (.ifCond .eq 17, 3) := by decide +kernel
theorem dX11_fits_8 : decode cX11_fits 8 = .ok (.iload_n 2, 1) := by decide +kernel
theorem dX11_fits_9 : decode cX11_fits 9 = .ok (.invokestatic 164, 3) := by decide +kernel
theorem dX11_fits_12 : decode cX11_fits 12 = .ok (.ifCond .eq 10, 3) := by decide +kernel
theorem dX11_fits_15 : decode cX11_fits 15 = .ok (.iload_n 3, 1) := by decide +kernel
theorem dX11_fits_16 : decode cX11_fits 16 = .ok (.invokestatic 141, 3) := by decide +kernel
theorem dX11_fits_19 : decode cX11_fits 19 = .ok (.ifCond .ne 7, 3) := by decide +kernel
theorem dX11_fits_22 : decode cX11_fits 22 = .ok (.sipush (-10001), 3) := by decide +kernel
theorem dX11_fits_25 : decode cX11_fits 25 = .ok (.ireturn, 1) := by decide +kernel
theorem dX11_fits_26 : decode cX11_fits 26 = .ok (.aload_n 0, 1) := by decide +kernel
theorem dX11_fits_27 : decode cX11_fits 27 = .ok (.aload_n 0, 1) := by decide +kernel
theorem dX11_fits_28 : decode cX11_fits 28 = .ok (.getfield 88, 3) := by decide +kernel
theorem dX11_fits_31 : decode cX11_fits 31 = .ok (.iload_n 1, 1) := by decide +kernel
theorem dX11_fits_32 : decode cX11_fits 32 = .ok (.aload_n 0, 1) := by decide +kernel
theorem dX11_fits_33 : decode cX11_fits 33 = .ok (.getfield 88, 3) := by decide +kernel
theorem dX11_fits_36 : decode cX11_fits 36 = .ok (.getfield 125, 3) := by decide +kernel
theorem dX11_fits_39 : decode cX11_fits 39 = .ok (.iload_n 1, 1) := by decide +kernel
theorem dX11_fits_40 : decode cX11_fits 40 = .ok (.iaload, 1) := by decide +kernel
theorem dX11_fits_41 : decode cX11_fits 41 = .ok (.iload_n 3, 1) := by decide +kernel
theorem dX11_fits_42 : decode cX11_fits 42 = .ok (.invokevirtual 167, 3) := by decide +kernel
theorem dX11_fits_45 : decode cX11_fits 45 = .ok (.aload_n 0, 1) := by decide +kernel
theorem dX11_fits_46 : decode cX11_fits 46 = .ok (.getfield 25, 3) := by decide +kernel
theorem dX11_fits_49 : decode cX11_fits 49 = .ok (.iload_n 2, 1) := by decide +kernel
theorem dX11_fits_50 : decode cX11_fits 50 = .ok (.iaload, 1) := by decide +kernel
theorem dX11_fits_51 : decode cX11_fits 51 = .ok (.ireturn, 1) := by decide +kernel
set_option maxRecDepth 20000 in
theorem ggX11_fits_X11_isChild : GoodIn wsX11_fits wsX11_isChild := goodIn_r _ [8, 1, 9, 80, 81, 82, 83, 84, 85, 86, 87, 88, 89, 90, 91, 92, 93, 94, 95, 96, 97, 98, 99, 100, 101, 102, 103, 104, 105, 106, 107, 108, 109, 110, 111, 112, 113, 114, 115] (by decide +kernel) (by decide +kernel)
set_option maxRecDepth 20000 in
theorem gX11_fits_X11_isChild : GoodIn wsX11_fits (wsV RX11 119 RX11 yX11_isChild wsX11_isChild) := goodIn_app (goodIn_of _ (by decide +kernel)) ggX11_fits_X11_isChild
set_option maxRecDepth 20000 in
theorem ggX11_fits_X11_isWord : GoodIn wsX11_fits wsX11_isWord := goodIn_r _ [12] (by decide +kernel) (by decide +kernel)
set_option maxRecDepth 20000 in
theorem gX11_fits_X11_isWord : GoodIn wsX11_fits (va_wsS RX11 164 yX11_isWord wsX11_isWord) := goodIn_app (goodIn_of _ (by decide +kernel)) ggX11_fits_X11_isWord
set_option maxRecDepth 20000 in
theorem ggX11_fits_X11_isElder : GoodIn wsX11_fits wsX11_isElder := goodIn_r _ [15] (by decide +kernel) (by decide +kernel)
set_option maxRecDepth 20000 in
theorem gX11_fits_X11_isElder : GoodIn wsX11_fits (va_wsS RX11 141 yX11_isElder wsX11_isElder) := goodIn_app (goodIn_of _ (by decide +kernel)) ggX11_fits_X11_isElder
set_option maxRecDepth 20000 in
theorem ggX11_fits_X11_weigh : GoodIn wsX11_fits wsX11_weigh := goodIn_r _ [19, 20, 21, 22, 23, 24, 25, 3, 26, 27, 28, 29, 30, 31, 32, 33, 34, 35, 36, 37, 38, 39, 40, 41, 42, 43, 44, 45, 46, 47, 48, 49, 50, 51, 52, 53, 54, 55, 56, 57, 58, 59, 60, 61, 62, 63, 64, 65, 66, 67, 68, 69, 70, 71, 72, 73, 74, 75, 76, 77, 78, 79, 80, 81, 82, 83, 84, 85, 86, 87, 88, 89, 90, 91, 92, 93, 94, 95, 96, 97, 98, 99, 100, 101, 102, 103, 104, 105, 106, 107, 108, 109, 110, 111, 112, 113, 114, 115, 116, 117, 118, 119, 120, 121, 122, 123] (by decide +kernel) (by decide +kernel)
set_option maxRecDepth 20000 in
theorem gX11_fits_X11_weigh : GoodIn wsX11_fits (wsV RX11 167 RX11 yX11_weigh wsX11_weigh) := goodIn_app (goodIn_of _ (by decide +kernel)) ggX11_fits_X11_weigh
def fX11_fits (g : c_G) (a1 : Int32) (a2 : Int32) (a3 : Int32) : Option (c_G × Int32) :=
  (fX11_isChild g a1).bind fun r1 => if r1 = 0 then (some (g, (-10001 : Int32))) else (if (fX11_isWord a2) = 0 then (some (g, (-10001 : Int32))) else (if (fX11_isElder a3) = 0 then (some (g, (-10001 : Int32))) else (if c_in (a1) (6) = true then (fX11_weigh g 55 a1 ((g.1 61 (a1).toNatClampNeg)) a3).bind fun g8 => if c_in (a2) (12) = true then some (g8, (g8.1 4 (a2).toNatClampNeg)) else none else none)))
set_option maxRecDepth 100000 in
set_option maxHeartbeats 4000000 in
theorem kX11_fits {l : Launch} {D : va_G} {tc : Nat → ClassId} {ad : Nat → Nat} {A : Nat → Prop} {E : (Nat → Nat) × (Nat → Nat) × Nat} (hD : c_D A ad TC) {a1 : Int32} {a2 : Int32} {a3 : Int32} {g g' : c_G} {r : Int32} (hf : fX11_fits g a1 a2 a3 = some (g', r)) : c_Mi l yX11_fits wsX11_fits (c_rm 3) D tc ad A E TC ([.ref (ad 0), .int a1, .int a2, .int a3] : List Value) g g' r := by
  refine c_ofW (bytes := cX11_fits) (maxL := 4) (ret := (some .int)) (by decide) rfl (Nat.le_of_ble_eq_true rfl) ?_
  intro p e s m below meth c ls C hP hS hl
  unfold fX11_fits at hf
  obtain ⟨hx, hb, hr, hml, hts, hown, hlk, hK, hE⟩ := id C
  have hl : lv_has ls 4 [(0, .ref (ad 0)), (1, .int a1), (2, .int a2), (3, .int a3)] := hl
  refine lv_aload_n hx hb dX11_fits_0 rfl (lv_at hl 0 rfl) ?_
  refine lv_iload_n hx hb dX11_fits_1 rfl (lv_at hl 1 rfl) ?_
  obtain ⟨r1, hc2, hf⟩ := c_bd hf
  refine c_goi (va_runV (As := [.int a1]) (rest := []) ⟨hx, hb, hml, hown, hts⟩ (kX11_isChild hD hc2) (cwV 1 hts gX11_fits_X11_isChild rfl rfl rfl (by decide +kernel) ⟨Nat.le_of_ble_eq_true rfl, Nat.le_of_ble_eq_true rfl⟩) (c_preV hK hP hE hS tC0 rfl) rfl rfl hl.1 rfl (lv_room (Nat.le_of_ble_eq_true rfl)) dX11_fits_2 ⟨Nat.zero_le _, Nat.zero_le _⟩) hS (fun H locs hP hS => ?_)
  refine lv_if_eq (tgt := 22) hx hb dX11_fits_5 (by decide) (fun c3 => ?_) (fun c3 => ?_)
  · have hf := c_it c3 hf
    refine lv_sipush (v := (-10001 : Int32)) hx hb dX11_fits_22 (by decide) ?_
    exact c_iret hx hb hr hlk hP hS rfl (c_inj hf) dX11_fits_25
  · have hf := c_ie c3 hf
    refine lv_iload_n hx hb dX11_fits_8 rfl (lv_at hl 2 rfl) ?_
    refine c_goi (va_runS (As := [.int a2]) (rest := []) ⟨hx, hb, hml, hown, hts⟩ (kX11_isWord (T := TC) (g := g) rfl) (va_cwS 1 hts gX11_fits_X11_isWord rfl rfl rfl (by decide +kernel) ⟨Nat.le_of_ble_eq_true rfl, Nat.le_of_ble_eq_true rfl⟩) (c_preS hK hP hE hS) rfl rfl hl.1 rfl (lv_room (Nat.le_of_ble_eq_true rfl)) dX11_fits_9 ⟨Nat.zero_le _, Nat.zero_le _⟩) hS (fun H locs hP hS => ?_)
    refine lv_if_eq (tgt := 22) hx hb dX11_fits_12 (by decide) (fun c4 => ?_) (fun c4 => ?_)
    · have hf := c_it c4 hf
      refine lv_sipush (v := (-10001 : Int32)) hx hb dX11_fits_22 (by decide) ?_
      exact c_iret hx hb hr hlk hP hS rfl (c_inj hf) dX11_fits_25
    · have hf := c_ie c4 hf
      refine lv_iload_n hx hb dX11_fits_15 rfl (lv_at hl 3 rfl) ?_
      refine c_goi (va_runS (As := [.int a3]) (rest := []) ⟨hx, hb, hml, hown, hts⟩ (kX11_isElder (T := TC) (g := g) rfl) (va_cwS 1 hts gX11_fits_X11_isElder rfl rfl rfl (by decide +kernel) ⟨Nat.le_of_ble_eq_true rfl, Nat.le_of_ble_eq_true rfl⟩) (c_preS hK hP hE hS) rfl rfl hl.1 rfl (lv_room (Nat.le_of_ble_eq_true rfl)) dX11_fits_16 ⟨Nat.zero_le _, Nat.zero_le _⟩) hS (fun H locs hP hS => ?_)
      refine lv_if_ne (tgt := 26) hx hb dX11_fits_19 (by decide) (fun c5 => ?_) (fun c5 => ?_)
      · have hf := c_ie c5 hf
        refine lv_aload_n hx hb dX11_fits_26 rfl (lv_at hl 0 rfl) ?_
        refine lv_aload_n hx hb dX11_fits_27 rfl (lv_at hl 0 rfl) ?_
        refine c_get hx hb hts i_X11_fits_X11 hown hK hP 0 tC0 rfl 5 (by decide) (hts _ (List.mem_of_getElem? (i := 1) rfl)) (fun _ h9 => h9) rfl (v := .ref (ad 55)) rfl dX11_fits_28 ?_
        refine lv_iload_n hx hb dX11_fits_31 rfl (lv_at hl 1 rfl) ?_
        refine lv_aload_n hx hb dX11_fits_32 rfl (lv_at hl 0 rfl) ?_
        refine c_get hx hb hts i_X11_fits_X11 hown hK hP 0 tC0 rfl 5 (by decide) (hts _ (List.mem_of_getElem? (i := 1) rfl)) (fun _ h9 => h9) rfl (v := .ref (ad 55)) rfl dX11_fits_33 ?_
        refine c_get hx hb hts i_X11_fits_X7 hown hK hP 55 tC55 rfl 8 (by decide) (hts _ (List.mem_of_getElem? (i := 2) rfl)) (fun _ h9 => h9) rfl (v := .ref (ad 61)) rfl dX11_fits_36 ?_
        refine lv_iload_n hx hb dX11_fits_39 rfl (lv_at hl 1 rfl) ?_
        obtain ⟨hi6, hf⟩ := c_gd hf
        refine c_iald (j := (a1).toNatClampNeg) hx hb hK hP 61 tC61 rfl (c_inV hi6) dX11_fits_40 ?_
        refine lv_iload_n hx hb dX11_fits_41 rfl (lv_at hl 3 rfl) ?_
        obtain ⟨g8, hc7, hf⟩ := c_bd hf
        refine c_gov (va_runV (As := [.ref (ad 55), .int a1, .int (g.1 61 (a1).toNatClampNeg), .int a3]) (rest := []) ⟨hx, hb, hml, hown, hts⟩ (kX11_weigh hD hc7) (cwV 4 hts gX11_fits_X11_weigh rfl rfl rfl (by decide +kernel) ⟨Nat.le_of_ble_eq_true rfl, Nat.le_of_ble_eq_true rfl⟩) (c_preV hK hP hE hS tC0 rfl) rfl rfl hl.1 rfl (lv_room (Nat.le_of_ble_eq_true rfl)) dX11_fits_42 ⟨Nat.zero_le _, Nat.zero_le _⟩) hS (fun H locs hP hS => ?_)
        refine lv_aload_n hx hb dX11_fits_45 rfl (lv_at hl 0 rfl) ?_
        refine c_get hx hb hts i_X11_fits_X11 hown hK hP 0 tC0 rfl 10 (by decide) (hts _ (List.mem_of_getElem? (i := 3) rfl)) (fun _ h9 => h9) rfl (v := .ref (ad 4)) rfl dX11_fits_46 ?_
        refine lv_iload_n hx hb dX11_fits_49 rfl (lv_at hl 2 rfl) ?_
        obtain ⟨hi9, hf⟩ := c_gd hf
        refine c_iald (j := (a2).toNatClampNeg) hx hb hK hP 4 tC4 rfl (c_inV hi9) dX11_fits_50 ?_
        exact c_iret hx hb hr hlk hP hS rfl (c_inj hf) dX11_fits_51
      · have hf := c_it c5 hf
        refine lv_sipush (v := (-10001 : Int32)) hx hb dX11_fits_22 (by decide) ?_
        exact c_iret hx hb hr hlk hP hS rfl (c_inj hf) dX11_fits_25
theorem i_X11_know_X7 : ∀ w ∈ u_ws RX7 TX7 17, w ∈ wsX11_know := c_inP [31, 32, 33, 34, 35, 36, 37, 38, 39, 40, 41, 42, 43, 44, 45, 46, 47] (by decide +kernel)
theorem i_X11_know_X11 : ∀ w ∈ u_ws RX11 TX11 19, w ∈ wsX11_know := c_inP [12, 13, 14, 15, 16, 17, 18, 19, 20, 21, 22, 23, 24, 25, 26, 27, 28, 29, 30] (by decide +kernel)
theorem dX11_know_0 : decode cX11_know 0 = .ok (.aload_n 0, 1) := by decide +kernel
theorem dX11_know_1 : decode cX11_know 1 = .ok (.iload_n 1, 1) := by decide +kernel
theorem dX11_know_2 : decode cX11_know 2 = .ok (.invokevirtual 119, 3) := by decide +kernel
theorem dX11_know_5 : decode cX11_know 5 = .ok (.ifCond .ne 5, 3) := by decide +kernel
theorem dX11_know_8 : decode cX11_know 8 = .ok (.iconst (-1), 1) := by decide +kernel
theorem dX11_know_9 : decode cX11_know 9 = .ok (.ireturn, 1) := by decide +kernel
theorem dX11_know_10 : decode cX11_know 10 = .ok (.iload_n 2, 1) := by decide +kernel
theorem dX11_know_11 : decode cX11_know 11 = .ok (.invokestatic 108, 3) := by decide +kernel
theorem dX11_know_14 : decode cX11_know 14 = .ok (.ifCond .ne 6, 3) := by decide +kernel
theorem dX11_know_17 : decode cX11_know 17 = .ok (.bipush (-2), 2) := by decide +kernel
theorem dX11_know_19 : decode cX11_know 19 = .ok (.ireturn, 1) := by decide +kernel
theorem dX11_know_20 : decode cX11_know 20 = .ok (.aload_n 0, 1) := by decide +kernel
theorem dX11_know_21 : decode cX11_know 21 = .ok (.getfield 88, 3) := by decide +kernel
theorem dX11_know_24 : decode cX11_know 24 = .ok (.getfield 128, 3) := by decide +kernel
theorem dX11_know_27 : decode cX11_know 27 = .ok (.iload_n 1, 1) := by decide +kernel
theorem dX11_know_28 : decode cX11_know 28 = .ok (.iaload, 1) := by decide +kernel
theorem dX11_know_29 : decode cX11_know 29 = .ok (.istore_n 3, 1) := by decide +kernel
theorem dX11_know_30 : decode cX11_know 30 = .ok (.aload_n 0, 1) := by decide +kernel
theorem dX11_know_31 : decode cX11_know 31 = .ok (.getfield 88, 3) := by decide +kernel
theorem dX11_know_34 : decode cX11_know 34 = .ok (.getfield 128, 3) := by decide +kernel
theorem dX11_know_37 : decode cX11_know 37 = .ok (.iload_n 1, 1) := by decide +kernel
theorem dX11_know_38 : decode cX11_know 38 = .ok (.iload_n 2, 1) := by decide +kernel
theorem dX11_know_39 : decode cX11_know 39 = .ok (.iastore, 1) := by decide +kernel
theorem dX11_know_40 : decode cX11_know 40 = .ok (.iload_n 3, 1) := by decide +kernel
theorem dX11_know_41 : decode cX11_know 41 = .ok (.ireturn, 1) := by decide +kernel
set_option maxRecDepth 20000 in
theorem ggX11_know_X11_isChild : GoodIn wsX11_know wsX11_isChild := goodIn_r _ [7, 1, 8, 12, 13, 14, 15, 16, 17, 18, 19, 20, 21, 22, 23, 24, 25, 26, 27, 28, 29, 30, 31, 32, 33, 34, 35, 36, 37, 38, 39, 40, 41, 42, 43, 44, 45, 46, 47] (by decide +kernel) (by decide +kernel)
set_option maxRecDepth 20000 in
theorem gX11_know_X11_isChild : GoodIn wsX11_know (wsV RX11 119 RX11 yX11_isChild wsX11_isChild) := goodIn_app (goodIn_of _ (by decide +kernel)) ggX11_know_X11_isChild
set_option maxRecDepth 20000 in
theorem ggX11_know_X11_areWords : GoodIn wsX11_know wsX11_areWords := goodIn_r _ [11] (by decide +kernel) (by decide +kernel)
set_option maxRecDepth 20000 in
theorem gX11_know_X11_areWords : GoodIn wsX11_know (va_wsS RX11 108 yX11_areWords wsX11_areWords) := goodIn_app (goodIn_of _ (by decide +kernel)) ggX11_know_X11_areWords
def fX11_know (g : c_G) (a1 : Int32) (a2 : Int32) : Option (c_G × Int32) :=
  (fX11_isChild g a1).bind fun r1 => if r1 = 0 then (some (g, (-1 : Int32))) else (if (fX11_areWords a2) = 0 then (some (g, (-2 : Int32))) else (if c_in (a1) (6) = true then c_let (c_si g 62 (a1).toNatClampNeg a2) fun g6 => some (g6, (g.1 62 (a1).toNatClampNeg)) else none))
set_option maxRecDepth 100000 in
set_option maxHeartbeats 4000000 in
theorem kX11_know {l : Launch} {D : va_G} {tc : Nat → ClassId} {ad : Nat → Nat} {A : Nat → Prop} {E : (Nat → Nat) × (Nat → Nat) × Nat} (hD : c_D A ad TC) {a1 : Int32} {a2 : Int32} {g g' : c_G} {r : Int32} (hf : fX11_know g a1 a2 = some (g', r)) : c_Mi l yX11_know wsX11_know (c_rm 1) D tc ad A E TC ([.ref (ad 0), .int a1, .int a2] : List Value) g g' r := by
  refine c_ofW (bytes := cX11_know) (maxL := 4) (ret := (some .int)) (by decide) rfl (Nat.le_of_ble_eq_true rfl) ?_
  intro p e s m below meth c ls C hP hS hl
  unfold fX11_know at hf
  obtain ⟨hx, hb, hr, hml, hts, hown, hlk, hK, hE⟩ := id C
  have hl : lv_has ls 4 [(0, .ref (ad 0)), (1, .int a1), (2, .int a2)] := hl
  refine lv_aload_n hx hb dX11_know_0 rfl (lv_at hl 0 rfl) ?_
  refine lv_iload_n hx hb dX11_know_1 rfl (lv_at hl 1 rfl) ?_
  obtain ⟨r1, hc2, hf⟩ := c_bd hf
  refine c_goi (va_runV (As := [.int a1]) (rest := []) ⟨hx, hb, hml, hown, hts⟩ (kX11_isChild hD hc2) (cwV 1 hts gX11_know_X11_isChild rfl rfl rfl (by decide +kernel) ⟨Nat.le_of_ble_eq_true rfl, Nat.le_of_ble_eq_true rfl⟩) (c_preV hK hP hE hS tC0 rfl) rfl rfl hl.1 rfl (lv_room (Nat.le_of_ble_eq_true rfl)) dX11_know_2 ⟨Nat.zero_le _, Nat.zero_le _⟩) hS (fun H locs hP hS => ?_)
  refine lv_if_ne (tgt := 10) hx hb dX11_know_5 (by decide) (fun c3 => ?_) (fun c3 => ?_)
  · have hf := c_ie c3 hf
    refine lv_iload_n hx hb dX11_know_10 rfl (lv_at hl 2 rfl) ?_
    refine c_goi (va_runS (As := [.int a2]) (rest := []) ⟨hx, hb, hml, hown, hts⟩ (kX11_areWords (T := TC) (g := g) rfl) (va_cwS 1 hts gX11_know_X11_areWords rfl rfl rfl (by decide +kernel) ⟨Nat.le_of_ble_eq_true rfl, Nat.le_of_ble_eq_true rfl⟩) (c_preS hK hP hE hS) rfl rfl hl.1 rfl (lv_room (Nat.le_of_ble_eq_true rfl)) dX11_know_11 ⟨Nat.zero_le _, Nat.zero_le _⟩) hS (fun H locs hP hS => ?_)
    refine lv_if_ne (tgt := 20) hx hb dX11_know_14 (by decide) (fun c4 => ?_) (fun c4 => ?_)
    · have hf := c_ie c4 hf
      refine lv_aload_n hx hb dX11_know_20 rfl (lv_at hl 0 rfl) ?_
      refine c_get hx hb hts i_X11_know_X11 hown hK hP 0 tC0 rfl 5 (by decide) (hts _ (List.mem_of_getElem? (i := 1) rfl)) (fun _ h9 => h9) rfl (v := .ref (ad 55)) rfl dX11_know_21 ?_
      refine c_get hx hb hts i_X11_know_X7 hown hK hP 55 tC55 rfl 9 (by decide) (hts _ (List.mem_of_getElem? (i := 2) rfl)) (fun _ h9 => h9) rfl (v := .ref (ad 62)) rfl dX11_know_24 ?_
      refine lv_iload_n hx hb dX11_know_27 rfl (lv_at hl 1 rfl) ?_
      obtain ⟨hi5, hf⟩ := c_gd hf
      refine c_iald (j := (a1).toNatClampNeg) hx hb hK hP 62 tC62 rfl (c_inV hi5) dX11_know_28 ?_
      refine lv_istore_n (lv' := [(3, .int (g.1 62 (a1).toNatClampNeg)), (0, .ref (ad 0)), (1, .int a1), (2, .int a2)]) hx hb dX11_know_29 rfl hl (by decide) rfl (fun ls hl => ?_)
      refine lv_aload_n hx hb dX11_know_30 rfl (lv_at hl 1 rfl) ?_
      refine c_get hx hb hts i_X11_know_X11 hown hK hP 0 tC0 rfl 5 (by decide) (hts _ (List.mem_of_getElem? (i := 1) rfl)) (fun _ h9 => h9) rfl (v := .ref (ad 55)) rfl dX11_know_31 ?_
      refine c_get hx hb hts i_X11_know_X7 hown hK hP 55 tC55 rfl 9 (by decide) (hts _ (List.mem_of_getElem? (i := 2) rfl)) (fun _ h9 => h9) rfl (v := .ref (ad 62)) rfl dX11_know_34 ?_
      refine lv_iload_n hx hb dX11_know_37 rfl (lv_at hl 2 rfl) ?_
      refine lv_iload_n hx hb dX11_know_38 rfl (lv_at hl 3 rfl) ?_
      obtain ⟨g6, eg6, hf⟩ := c_letE hf
      refine c_iast (j := (a1).toNatClampNeg) hx hb hK hP hD hS 62 tC62 rfl (c_inV hi5) eg6 dX11_know_39 (fun H locs hP hS => ?_)
      refine lv_iload_n hx hb dX11_know_40 rfl (lv_at hl 0 rfl) ?_
      exact c_iret hx hb hr hlk hP hS rfl (c_inj hf) dX11_know_41
    · have hf := c_it c4 hf
      refine lv_bipush (v := (-2 : Int32)) hx hb dX11_know_17 (by decide) ?_
      exact c_iret hx hb hr hlk hP hS rfl (c_inj hf) dX11_know_19
  · have hf := c_it c3 hf
    refine lv_iconst (v := (-1 : Int32)) hx hb dX11_know_8 (by decide) ?_
    exact c_iret hx hb hr hlk hP hS rfl (c_inj hf) dX11_know_9
theorem i_X11_basket_X7 : ∀ w ∈ u_ws RX7 TX7 17, w ∈ wsX11_basket := c_inP [31, 32, 33, 34, 35, 36, 37, 38, 39, 40, 41, 42, 43, 44, 45, 46, 47] (by decide +kernel)
theorem i_X11_basket_X11 : ∀ w ∈ u_ws RX11 TX11 19, w ∈ wsX11_basket := c_inP [12, 13, 14, 15, 16, 17, 18, 19, 20, 21, 22, 23, 24, 25, 26, 27, 28, 29, 30] (by decide +kernel)
theorem dX11_basket_0 : decode cX11_basket 0 = .ok (.aload_n 0, 1) := by decide +kernel
theorem dX11_basket_1 : decode cX11_basket 1 = .ok (.iload_n 1, 1) := by decide +kernel
theorem dX11_basket_2 : decode cX11_basket 2 = .ok (.invokevirtual 119, 3) := by decide +kernel
theorem dX11_basket_5 : decode cX11_basket 5 = .ok (.ifCond .eq 15, 3) := by decide +kernel
theorem dX11_basket_8 : decode cX11_basket 8 = .ok (.iload_n 2, 1) := by decide +kernel
theorem dX11_basket_9 : decode cX11_basket 9 = .ok (.iconst (-1), 1) := by decide +kernel
theorem dX11_basket_10 : decode cX11_basket 10 = .ok (.if_icmp .eq 12, 3) := by decide +kernel
theorem dX11_basket_13 : decode cX11_basket 13 = .ok (.iload_n 2, 1) := by decide +kernel
theorem dX11_basket_14 : decode cX11_basket 14 = .ok (.invokestatic 141, 3) := by decide +kernel
theorem dX11_basket_17 : decode cX11_basket 17 = .ok (.ifCond .ne 5, 3) := by decide +kernel
theorem dX11_basket_20 : decode cX11_basket 20 = .ok (.iconst (-1), 1) := by decide +kernel
theorem dX11_basket_21 : decode cX11_basket 21 = .ok (.ireturn, 1) := by decide +kernel
theorem dX11_basket_22 : decode cX11_basket 22 = .ok (.aload_n 0, 1) := by decide +kernel
theorem dX11_basket_23 : decode cX11_basket 23 = .ok (.getfield 88, 3) := by decide +kernel
theorem dX11_basket_26 : decode cX11_basket 26 = .ok (.getfield 134, 3) := by decide +kernel
theorem dX11_basket_29 : decode cX11_basket 29 = .ok (.iload_n 1, 1) := by decide +kernel
theorem dX11_basket_30 : decode cX11_basket 30 = .ok (.iaload, 1) := by decide +kernel
theorem dX11_basket_31 : decode cX11_basket 31 = .ok (.istore_n 3, 1) := by decide +kernel
theorem dX11_basket_32 : decode cX11_basket 32 = .ok (.aload_n 0, 1) := by decide +kernel
theorem dX11_basket_33 : decode cX11_basket 33 = .ok (.getfield 88, 3) := by decide +kernel
theorem dX11_basket_36 : decode cX11_basket 36 = .ok (.getfield 134, 3) := by decide +kernel
theorem dX11_basket_39 : decode cX11_basket 39 = .ok (.iload_n 1, 1) := by decide +kernel
theorem dX11_basket_40 : decode cX11_basket 40 = .ok (.iload_n 2, 1) := by decide +kernel
theorem dX11_basket_41 : decode cX11_basket 41 = .ok (.ifCond .ge 8, 3) := by decide +kernel
theorem dX11_basket_44 : decode cX11_basket 44 = .ok (.bipush (-5), 2) := by decide +kernel
theorem dX11_basket_46 : decode cX11_basket 46 = .ok (.goto 4, 3) := by decide +kernel
theorem dX11_basket_49 : decode cX11_basket 49 = .ok (.iload_n 2, 1) := by decide +kernel
theorem dX11_basket_50 : decode cX11_basket 50 = .ok (.iastore, 1) := by decide +kernel
theorem dX11_basket_51 : decode cX11_basket 51 = .ok (.iload_n 3, 1) := by decide +kernel
theorem dX11_basket_52 : decode cX11_basket 52 = .ok (.ireturn, 1) := by decide +kernel
set_option maxRecDepth 20000 in
theorem ggX11_basket_X11_isChild : GoodIn wsX11_basket wsX11_isChild := goodIn_r _ [7, 1, 8, 12, 13, 14, 15, 16, 17, 18, 19, 20, 21, 22, 23, 24, 25, 26, 27, 28, 29, 30, 31, 32, 33, 34, 35, 36, 37, 38, 39, 40, 41, 42, 43, 44, 45, 46, 47] (by decide +kernel) (by decide +kernel)
set_option maxRecDepth 20000 in
theorem gX11_basket_X11_isChild : GoodIn wsX11_basket (wsV RX11 119 RX11 yX11_isChild wsX11_isChild) := goodIn_app (goodIn_of _ (by decide +kernel)) ggX11_basket_X11_isChild
set_option maxRecDepth 20000 in
theorem ggX11_basket_X11_isElder : GoodIn wsX11_basket wsX11_isElder := goodIn_r _ [11] (by decide +kernel) (by decide +kernel)
set_option maxRecDepth 20000 in
theorem gX11_basket_X11_isElder : GoodIn wsX11_basket (va_wsS RX11 141 yX11_isElder wsX11_isElder) := goodIn_app (goodIn_of _ (by decide +kernel)) ggX11_basket_X11_isElder
def fX11_basket_50  (a1 : Int32) (a2 : Int32) (x3 : Int32) (y1 : Int32) (y2 : Int32) (g : c_G) : Option (c_G × Int32) :=
  if c_in (y1) (6) = true then c_let (c_si g 64 (y1).toNatClampNeg y2) fun g50002 => some (g50002, x3) else none
set_option maxRecDepth 100000 in
set_option maxHeartbeats 4000000 in
theorem jX11_basket_50 {p : Program} {l : Launch} {e : Env} {s : State} {m : MethodId} {below : List Frame} {meth : Method} {c : Code} {D : va_G} {tc : Nat → ClassId} {ad : Nat → Nat} {A : Nat → Prop} {E : (Nat → Nat) × (Nat → Nat) × Nat} {a1 : Int32} {a2 : Int32} {g' : c_G} {r : Int32} (C : c_C p s m meth c D tc A E RX11 wsX11_basket cX11_basket 4 (some .int) ([.ref (ad 0), .int a1, .int a2] : List Value).toArray) (hD : c_D A ad TC)  : ∀ (x3 : Int32) (y1 : Int32) (y2 : Int32) (g : c_G), fX11_basket_50 a1 a2 x3 y1 y2 g = some (g', r) → ∀ (H : Heap) (locs : List Loc), va_P D vwCl (c_ws tc ad TC g) H → va_S A s.heap H locs → ∀ ls : Array Slot, lv_has ls 4 [(3, .int x3)] → W p l e (c_rm 1) s m ([.ref (ad 0), .int a1, .int a2] : List Value).toArray below meth c H locs 0 0 (MQ below (va_Qi (fun (x : Int32) (_ : Unit) => x = r) (fun _ t => va_P D vwCl (c_ws tc ad TC g') t.heap) A) ([.ref (ad 0), .int a1, .int a2] : List Value).toArray s 0 0 A) (F0 m 50 ls [.int y2, .int y1, .ref (ad 64)]) := by
  obtain ⟨hx, hb, hr, hml, hts, hown, hlk, hK, hE⟩ := id C
  intro x3 y1 y2 g hf H locs hP hS ls hl
  unfold fX11_basket_50 at hf
  obtain ⟨hi50001, hf⟩ := c_gd hf
  obtain ⟨g50002, eg50002, hf⟩ := c_letE hf
  refine c_iast (j := (y1).toNatClampNeg) hx hb hK hP hD hS 64 tC64 rfl (c_inV hi50001) eg50002 dX11_basket_50 (fun H locs hP hS => ?_)
  refine lv_iload_n hx hb dX11_basket_51 rfl (lv_at hl 0 rfl) ?_
  exact c_iret hx hb hr hlk hP hS rfl (c_inj hf) dX11_basket_52
def fX11_basket_22  (a1 : Int32) (a2 : Int32) (x1 : Int32) (x2 : Int32) (g : c_G) : Option (c_G × Int32) :=
  if c_in (x1) (6) = true then if 0 ≤ x2 then (fX11_basket_50 a1 a2 ((g.1 64 (x1).toNatClampNeg)) x1 x2 g) else (fX11_basket_50 a1 a2 ((g.1 64 (x1).toNatClampNeg)) x1 ((-5 : Int32)) g) else none
set_option maxRecDepth 100000 in
set_option maxHeartbeats 4000000 in
theorem jX11_basket_22 {p : Program} {l : Launch} {e : Env} {s : State} {m : MethodId} {below : List Frame} {meth : Method} {c : Code} {D : va_G} {tc : Nat → ClassId} {ad : Nat → Nat} {A : Nat → Prop} {E : (Nat → Nat) × (Nat → Nat) × Nat} {a1 : Int32} {a2 : Int32} {g' : c_G} {r : Int32} (C : c_C p s m meth c D tc A E RX11 wsX11_basket cX11_basket 4 (some .int) ([.ref (ad 0), .int a1, .int a2] : List Value).toArray) (hD : c_D A ad TC)  : ∀ (x1 : Int32) (x2 : Int32) (g : c_G), fX11_basket_22 a1 a2 x1 x2 g = some (g', r) → ∀ (H : Heap) (locs : List Loc), va_P D vwCl (c_ws tc ad TC g) H → va_S A s.heap H locs → ∀ ls : Array Slot, lv_has ls 4 [(0, .ref (ad 0)), (1, .int x1), (2, .int x2)] → W p l e (c_rm 1) s m ([.ref (ad 0), .int a1, .int a2] : List Value).toArray below meth c H locs 0 0 (MQ below (va_Qi (fun (x : Int32) (_ : Unit) => x = r) (fun _ t => va_P D vwCl (c_ws tc ad TC g') t.heap) A) ([.ref (ad 0), .int a1, .int a2] : List Value).toArray s 0 0 A) (F0 m 22 ls []) := by
  obtain ⟨hx, hb, hr, hml, hts, hown, hlk, hK, hE⟩ := id C
  intro x1 x2 g hf H locs hP hS ls hl
  unfold fX11_basket_22 at hf
  refine lv_aload_n hx hb dX11_basket_22 rfl (lv_at hl 0 rfl) ?_
  refine c_get hx hb hts i_X11_basket_X11 hown hK hP 0 tC0 rfl 5 (by decide) (hts _ (List.mem_of_getElem? (i := 1) rfl)) (fun _ h9 => h9) rfl (v := .ref (ad 55)) rfl dX11_basket_23 ?_
  refine c_get hx hb hts i_X11_basket_X7 hown hK hP 55 tC55 rfl 11 (by decide) (hts _ (List.mem_of_getElem? (i := 2) rfl)) (fun _ h9 => h9) rfl (v := .ref (ad 64)) rfl dX11_basket_26 ?_
  refine lv_iload_n hx hb dX11_basket_29 rfl (lv_at hl 1 rfl) ?_
  obtain ⟨hi22001, hf⟩ := c_gd hf
  refine c_iald (j := (x1).toNatClampNeg) hx hb hK hP 64 tC64 rfl (c_inV hi22001) dX11_basket_30 ?_
  refine lv_istore_n (lv' := [(3, .int (g.1 64 (x1).toNatClampNeg)), (0, .ref (ad 0)), (1, .int x1), (2, .int x2)]) hx hb dX11_basket_31 rfl hl (by decide) rfl (fun ls hl => ?_)
  refine lv_aload_n hx hb dX11_basket_32 rfl (lv_at hl 1 rfl) ?_
  refine c_get hx hb hts i_X11_basket_X11 hown hK hP 0 tC0 rfl 5 (by decide) (hts _ (List.mem_of_getElem? (i := 1) rfl)) (fun _ h9 => h9) rfl (v := .ref (ad 55)) rfl dX11_basket_33 ?_
  refine c_get hx hb hts i_X11_basket_X7 hown hK hP 55 tC55 rfl 11 (by decide) (hts _ (List.mem_of_getElem? (i := 2) rfl)) (fun _ h9 => h9) rfl (v := .ref (ad 64)) rfl dX11_basket_36 ?_
  refine lv_iload_n hx hb dX11_basket_39 rfl (lv_at hl 2 rfl) ?_
  refine lv_iload_n hx hb dX11_basket_40 rfl (lv_at hl 3 rfl) ?_
  refine lv_if_ge (tgt := 49) hx hb dX11_basket_41 (by decide) (fun c22002 => ?_) (fun c22002 => ?_)
  · have hf := c_it c22002 hf
    refine lv_iload_n hx hb dX11_basket_49 rfl (lv_at hl 3 rfl) ?_
    exact jX11_basket_50 C hD ((g.1 64 (x1).toNatClampNeg)) x1 x2 g hf _ _ hP hS _ (lv_sub hl [0] rfl)
  · have hf := c_ie c22002 hf
    refine lv_bipush (v := (-5 : Int32)) hx hb dX11_basket_44 (by decide) ?_
    refine lv_goto (tgt := 50) hx hb dX11_basket_46 (by decide) ?_
    exact jX11_basket_50 C hD ((g.1 64 (x1).toNatClampNeg)) x1 ((-5 : Int32)) g hf _ _ hP hS _ (lv_sub hl [0] rfl)
def fX11_basket (g : c_G) (a1 : Int32) (a2 : Int32) : Option (c_G × Int32) :=
  (fX11_isChild g a1).bind fun r1 => if r1 = 0 then (some (g, (-1 : Int32))) else (if a2 = (-1 : Int32) then (fX11_basket_22 a1 a2 a1 a2 g) else (if (fX11_isElder a2) = 0 then (some (g, (-1 : Int32))) else (fX11_basket_22 a1 a2 a1 a2 g)))
set_option maxRecDepth 100000 in
set_option maxHeartbeats 4000000 in
theorem kX11_basket {l : Launch} {D : va_G} {tc : Nat → ClassId} {ad : Nat → Nat} {A : Nat → Prop} {E : (Nat → Nat) × (Nat → Nat) × Nat} (hD : c_D A ad TC) {a1 : Int32} {a2 : Int32} {g g' : c_G} {r : Int32} (hf : fX11_basket g a1 a2 = some (g', r)) : c_Mi l yX11_basket wsX11_basket (c_rm 1) D tc ad A E TC ([.ref (ad 0), .int a1, .int a2] : List Value) g g' r := by
  refine c_ofW (bytes := cX11_basket) (maxL := 4) (ret := (some .int)) (by decide) rfl (Nat.le_of_ble_eq_true rfl) ?_
  intro p e s m below meth c ls C hP hS hl
  unfold fX11_basket at hf
  obtain ⟨hx, hb, hr, hml, hts, hown, hlk, hK, hE⟩ := id C
  have hl : lv_has ls 4 [(0, .ref (ad 0)), (1, .int a1), (2, .int a2)] := hl
  refine lv_aload_n hx hb dX11_basket_0 rfl (lv_at hl 0 rfl) ?_
  refine lv_iload_n hx hb dX11_basket_1 rfl (lv_at hl 1 rfl) ?_
  obtain ⟨r1, hc2, hf⟩ := c_bd hf
  refine c_goi (va_runV (As := [.int a1]) (rest := []) ⟨hx, hb, hml, hown, hts⟩ (kX11_isChild hD hc2) (cwV 1 hts gX11_basket_X11_isChild rfl rfl rfl (by decide +kernel) ⟨Nat.le_of_ble_eq_true rfl, Nat.le_of_ble_eq_true rfl⟩) (c_preV hK hP hE hS tC0 rfl) rfl rfl hl.1 rfl (lv_room (Nat.le_of_ble_eq_true rfl)) dX11_basket_2 ⟨Nat.zero_le _, Nat.zero_le _⟩) hS (fun H locs hP hS => ?_)
  refine lv_if_eq (tgt := 20) hx hb dX11_basket_5 (by decide) (fun c3 => ?_) (fun c3 => ?_)
  · have hf := c_it c3 hf
    refine lv_iconst (v := (-1 : Int32)) hx hb dX11_basket_20 (by decide) ?_
    exact c_iret hx hb hr hlk hP hS rfl (c_inj hf) dX11_basket_21
  · have hf := c_ie c3 hf
    refine lv_iload_n hx hb dX11_basket_8 rfl (lv_at hl 2 rfl) ?_
    refine lv_iconst (v := (-1 : Int32)) hx hb dX11_basket_9 (by decide) ?_
    refine lv_icmp_eq (tgt := 22) hx hb dX11_basket_10 (by decide) (fun c4 => ?_) (fun c4 => ?_)
    · have hf := c_it c4 hf
      exact jX11_basket_22 C hD a1 a2 g hf _ _ hP hS _ (lv_sub hl [0, 1, 2] rfl)
    · have hf := c_ie c4 hf
      refine lv_iload_n hx hb dX11_basket_13 rfl (lv_at hl 2 rfl) ?_
      refine c_goi (va_runS (As := [.int a2]) (rest := []) ⟨hx, hb, hml, hown, hts⟩ (kX11_isElder (T := TC) (g := g) rfl) (va_cwS 1 hts gX11_basket_X11_isElder rfl rfl rfl (by decide +kernel) ⟨Nat.le_of_ble_eq_true rfl, Nat.le_of_ble_eq_true rfl⟩) (c_preS hK hP hE hS) rfl rfl hl.1 rfl (lv_room (Nat.le_of_ble_eq_true rfl)) dX11_basket_14 ⟨Nat.zero_le _, Nat.zero_le _⟩) hS (fun H locs hP hS => ?_)
      refine lv_if_ne (tgt := 22) hx hb dX11_basket_17 (by decide) (fun c5 => ?_) (fun c5 => ?_)
      · have hf := c_ie c5 hf
        exact jX11_basket_22 C hD a1 a2 g hf _ _ hP hS _ (lv_sub hl [0, 1, 2] rfl)
      · have hf := c_it c5 hf
        refine lv_iconst (v := (-1 : Int32)) hx hb dX11_basket_20 (by decide) ?_
        exact c_iret hx hb hr hlk hP hS rfl (c_inj hf) dX11_basket_21
theorem i_X11_take_X11 : ∀ w ∈ u_ws RX11 TX11 19, w ∈ wsX11_take := c_inP [103, 104, 105, 106, 107, 108, 109, 110, 111, 112, 113, 114, 115, 116, 117, 118, 119, 120, 121] (by decide +kernel)
theorem dX11_take_0 : decode cX11_take 0 = .ok (.aload_n 0, 1) := by decide +kernel
theorem dX11_take_1 : decode cX11_take 1 = .ok (.iload_n 1, 1) := by decide +kernel
theorem dX11_take_2 : decode cX11_take 2 = .ok (.invokevirtual 119, 3) := by decide +kernel
theorem dX11_take_5 : decode cX11_take 5 = .ok (.ifCond .eq 10, 3) := by decide +kernel
theorem dX11_take_8 : decode cX11_take 8 = .ok (.iload_n 2, 1) := by decide +kernel
theorem dX11_take_9 : decode cX11_take 9 = .ok (.invokestatic 141, 3) := by decide +kernel
theorem dX11_take_12 : decode cX11_take 12 = .ok (.ifCond .ne 5, 3) := by decide +kernel
theorem dX11_take_15 : decode cX11_take 15 = .ok (.iconst (-1), 1) := by decide +kernel
theorem dX11_take_16 : decode cX11_take 16 = .ok (.ireturn, 1) := by decide +kernel
theorem dX11_take_17 : decode cX11_take 17 = .ok (.aload_n 0, 1) := by decide +kernel
theorem dX11_take_18 : decode cX11_take 18 = .ok (.aload_n 0, 1) := by decide +kernel
theorem dX11_take_19 : decode cX11_take 19 = .ok (.getfield 88, 3) := by decide +kernel
theorem dX11_take_22 : decode cX11_take 22 = .ok (.iload_n 1, 1) := by decide +kernel
theorem dX11_take_23 : decode cX11_take 23 = .ok (.iload_n 2, 1) := by decide +kernel
theorem dX11_take_24 : decode cX11_take 24 = .ok (.invokevirtual 171, 3) := by decide +kernel
theorem dX11_take_27 : decode cX11_take 27 = .ok (.ireturn, 1) := by decide +kernel
set_option maxRecDepth 20000 in
theorem ggX11_take_X11_isChild : GoodIn wsX11_take wsX11_isChild := goodIn_r _ [6, 1, 7, 103, 104, 105, 106, 107, 108, 109, 110, 111, 112, 113, 114, 115, 116, 117, 118, 119, 120, 121, 122, 123, 124, 125, 126, 127, 128, 129, 130, 131, 132, 133, 134, 135, 136, 137, 138] (by decide +kernel) (by decide +kernel)
set_option maxRecDepth 20000 in
theorem gX11_take_X11_isChild : GoodIn wsX11_take (wsV RX11 119 RX11 yX11_isChild wsX11_isChild) := goodIn_app (goodIn_of _ (by decide +kernel)) ggX11_take_X11_isChild
set_option maxRecDepth 20000 in
theorem ggX11_take_X11_isElder : GoodIn wsX11_take wsX11_isElder := goodIn_r _ [10] (by decide +kernel) (by decide +kernel)
set_option maxRecDepth 20000 in
theorem gX11_take_X11_isElder : GoodIn wsX11_take (va_wsS RX11 141 yX11_isElder wsX11_isElder) := goodIn_app (goodIn_of _ (by decide +kernel)) ggX11_take_X11_isElder
set_option maxRecDepth 20000 in
theorem ggX11_take_X11_takeTo : GoodIn wsX11_take wsX11_takeTo := goodIn_r _ [14, 15, 16, 17, 18, 19, 20, 21, 5, 22, 23, 24, 25, 26, 27, 28, 29, 30, 31, 32, 33, 34, 35, 36, 37, 38, 39, 40, 41, 42, 43, 44, 45, 46, 47, 48, 49, 50, 51, 52, 53, 54, 55, 56, 57, 58, 59, 60, 61, 62, 63, 64, 65, 66, 67, 68, 69, 70, 71, 72, 73, 74, 75, 76, 77, 78, 79, 80, 81, 82, 83, 84, 85, 86, 87, 88, 89, 90, 91, 92, 93, 94, 95, 96, 97, 98, 99, 100, 101, 102, 122, 123, 124, 125, 126, 127, 128, 129, 130, 131, 132, 133, 134, 135, 136, 137, 138, 103, 104, 105, 106, 107, 108, 109, 110, 111, 112, 113, 114, 115, 116, 117, 118, 119, 120, 121, 139, 140, 141, 142, 143, 144, 145, 146] (by decide +kernel) (by decide +kernel)
set_option maxRecDepth 20000 in
theorem gX11_take_X11_takeTo : GoodIn wsX11_take (wsV RX11 171 RX11 yX11_takeTo wsX11_takeTo) := goodIn_app (goodIn_of _ (by decide +kernel)) ggX11_take_X11_takeTo
def fX11_take (g : c_G) (a1 : Int32) (a2 : Int32) : Option (c_G × Int32) :=
  (fX11_isChild g a1).bind fun r1 => if r1 = 0 then (some (g, (-1 : Int32))) else (if (fX11_isElder a2) = 0 then (some (g, (-1 : Int32))) else (c_b2 (fX11_takeTo g 55 a1 a2) fun g6 r7 => some (g6, r7)))
set_option maxRecDepth 100000 in
set_option maxHeartbeats 4000000 in
theorem kX11_take {l : Launch} {D : va_G} {tc : Nat → ClassId} {ad : Nat → Nat} {A : Nat → Prop} {E : (Nat → Nat) × (Nat → Nat) × Nat} (hD : c_D A ad TC) {a1 : Int32} {a2 : Int32} {g g' : c_G} {r : Int32} (hf : fX11_take g a1 a2 = some (g', r)) : c_Mi l yX11_take wsX11_take (c_rm 5) D tc ad A E TC ([.ref (ad 0), .int a1, .int a2] : List Value) g g' r := by
  refine c_ofW (bytes := cX11_take) (maxL := 3) (ret := (some .int)) (by decide) rfl (Nat.le_of_ble_eq_true rfl) ?_
  intro p e s m below meth c ls C hP hS hl
  unfold fX11_take at hf
  obtain ⟨hx, hb, hr, hml, hts, hown, hlk, hK, hE⟩ := id C
  have hl : lv_has ls 3 [(0, .ref (ad 0)), (1, .int a1), (2, .int a2)] := hl
  refine lv_aload_n hx hb dX11_take_0 rfl (lv_at hl 0 rfl) ?_
  refine lv_iload_n hx hb dX11_take_1 rfl (lv_at hl 1 rfl) ?_
  obtain ⟨r1, hc2, hf⟩ := c_bd hf
  refine c_goi (va_runV (As := [.int a1]) (rest := []) ⟨hx, hb, hml, hown, hts⟩ (kX11_isChild hD hc2) (cwV 1 hts gX11_take_X11_isChild rfl rfl rfl (by decide +kernel) ⟨Nat.le_of_ble_eq_true rfl, Nat.le_of_ble_eq_true rfl⟩) (c_preV hK hP hE hS tC0 rfl) rfl rfl hl.1 rfl (lv_room (Nat.le_of_ble_eq_true rfl)) dX11_take_2 ⟨Nat.zero_le _, Nat.zero_le _⟩) hS (fun H locs hP hS => ?_)
  refine lv_if_eq (tgt := 15) hx hb dX11_take_5 (by decide) (fun c3 => ?_) (fun c3 => ?_)
  · have hf := c_it c3 hf
    refine lv_iconst (v := (-1 : Int32)) hx hb dX11_take_15 (by decide) ?_
    exact c_iret hx hb hr hlk hP hS rfl (c_inj hf) dX11_take_16
  · have hf := c_ie c3 hf
    refine lv_iload_n hx hb dX11_take_8 rfl (lv_at hl 2 rfl) ?_
    refine c_goi (va_runS (As := [.int a2]) (rest := []) ⟨hx, hb, hml, hown, hts⟩ (kX11_isElder (T := TC) (g := g) rfl) (va_cwS 1 hts gX11_take_X11_isElder rfl rfl rfl (by decide +kernel) ⟨Nat.le_of_ble_eq_true rfl, Nat.le_of_ble_eq_true rfl⟩) (c_preS hK hP hE hS) rfl rfl hl.1 rfl (lv_room (Nat.le_of_ble_eq_true rfl)) dX11_take_9 ⟨Nat.zero_le _, Nat.zero_le _⟩) hS (fun H locs hP hS => ?_)
    refine lv_if_ne (tgt := 17) hx hb dX11_take_12 (by decide) (fun c4 => ?_) (fun c4 => ?_)
    · have hf := c_ie c4 hf
      refine lv_aload_n hx hb dX11_take_17 rfl (lv_at hl 0 rfl) ?_
      refine lv_aload_n hx hb dX11_take_18 rfl (lv_at hl 0 rfl) ?_
      refine c_get hx hb hts i_X11_take_X11 hown hK hP 0 tC0 rfl 5 (by decide) (hts _ (List.mem_of_getElem? (i := 1) rfl)) (fun _ h9 => h9) rfl (v := .ref (ad 55)) rfl dX11_take_19 ?_
      refine lv_iload_n hx hb dX11_take_22 rfl (lv_at hl 1 rfl) ?_
      refine lv_iload_n hx hb dX11_take_23 rfl (lv_at hl 2 rfl) ?_
      obtain ⟨g6, r7, hc5, hf⟩ := c_b2E hf
      refine c_goi (va_runV (As := [.ref (ad 55), .int a1, .int a2]) (rest := []) ⟨hx, hb, hml, hown, hts⟩ (kX11_takeTo hD hc5) (cwV 3 hts gX11_take_X11_takeTo rfl rfl rfl (by decide +kernel) ⟨Nat.le_of_ble_eq_true rfl, Nat.le_of_ble_eq_true rfl⟩) (c_preV hK hP hE hS tC0 rfl) rfl rfl hl.1 rfl (lv_room (Nat.le_of_ble_eq_true rfl)) dX11_take_24 ⟨Nat.zero_le _, Nat.zero_le _⟩) hS (fun H locs hP hS => ?_)
      exact c_iret hx hb hr hlk hP hS rfl (c_inj hf) dX11_take_27
    · have hf := c_it c4 hf
      refine lv_iconst (v := (-1 : Int32)) hx hb dX11_take_15 (by decide) ?_
      exact c_iret hx hb hr hlk hP hS rfl (c_inj hf) dX11_take_16
theorem i_X11_set_X7 : ∀ w ∈ u_ws RX7 TX7 17, w ∈ wsX11_set := c_inP [27, 28, 29, 30, 31, 32, 33, 34, 35, 36, 37, 38, 39, 40, 41, 42, 43] (by decide +kernel)
theorem i_X11_set_X11 : ∀ w ∈ u_ws RX11 TX11 19, w ∈ wsX11_set := c_inP [8, 9, 10, 11, 12, 13, 14, 15, 16, 17, 18, 19, 20, 21, 22, 23, 24, 25, 26] (by decide +kernel)
theorem dX11_set_0 : decode cX11_set 0 = .ok (.iload_n 1, 1) := by decide +kernel
theorem dX11_set_1 : decode cX11_set 1 = .ok (.invokestatic 141, 3) := by decide +kernel
theorem dX11_set_4 : decode cX11_set 4 = .ok (.ifCond .eq 12, 3) := by decide +kernel
theorem dX11_set_7 : decode cX11_set 7 = .ok (.iload_n 2, 1) := by decide +kernel
theorem dX11_set_8 : decode cX11_set 8 = .ok (.ifCond .lt 8, 3) := by decide +kernel
theorem dX11_set_11 : decode cX11_set 11 = .ok (.iload_n 2, 1) := by decide +kernel
theorem dX11_set_12 : decode cX11_set 12 = .ok (.iconst 1, 1) := by decide +kernel
theorem dX11_set_13 : decode cX11_set 13 = .ok (.if_icmp .le 5, 3) := by decide +kernel
theorem dX11_set_16 : decode cX11_set 16 = .ok (.iconst (-1), 1) := by decide +kernel
theorem dX11_set_17 : decode cX11_set 17 = .ok (.ireturn, 1) := by decide +kernel
theorem dX11_set_18 : decode cX11_set 18 = .ok (.iload_n 3, 1) := by decide +kernel
theorem dX11_set_19 : decode cX11_set 19 = .ok (.ifCond .lt 17, 3) := by decide +kernel
theorem dX11_set_22 : decode cX11_set 22 = .ok (.iload_n 3, 1) := by decide +kernel
theorem dX11_set_23 : decode cX11_set 23 = .ok (.iload_n 2, 1) := by decide +kernel
theorem dX11_set_24 : decode cX11_set 24 = .ok (.ifCond .ne 8, 3) := by decide +kernel
theorem dX11_set_27 : decode cX11_set 27 = .ok (.bipush 9, 2) := by decide +kernel
theorem dX11_set_29 : decode cX11_set 29 = .ok (.goto 4, 3) := by decide +kernel
theorem dX11_set_32 : decode cX11_set 32 = .ok (.iconst 1, 1) := by decide +kernel
theorem dX11_set_33 : decode cX11_set 33 = .ok (.if_icmp .le 6, 3) := by decide +kernel
theorem dX11_set_36 : decode cX11_set 36 = .ok (.bipush (-2), 2) := by decide +kernel
theorem dX11_set_38 : decode cX11_set 38 = .ok (.ireturn, 1) := by decide +kernel
theorem dX11_set_39 : decode cX11_set 39 = .ok (.iload_n 2, 1) := by decide +kernel
theorem dX11_set_40 : decode cX11_set 40 = .ok (.ifCond .ne 13, 3) := by decide +kernel
theorem dX11_set_43 : decode cX11_set 43 = .ok (.aload_n 0, 1) := by decide +kernel
theorem dX11_set_44 : decode cX11_set 44 = .ok (.getfield 88, 3) := by decide +kernel
theorem dX11_set_47 : decode cX11_set 47 = .ok (.getfield 148, 3) := by decide +kernel
theorem dX11_set_50 : decode cX11_set 50 = .ok (.goto 10, 3) := by decide +kernel
theorem dX11_set_53 : decode cX11_set 53 = .ok (.aload_n 0, 1) := by decide +kernel
theorem dX11_set_54 : decode cX11_set 54 = .ok (.getfield 88, 3) := by decide +kernel
theorem dX11_set_57 : decode cX11_set 57 = .ok (.getfield 157, 3) := by decide +kernel
theorem dX11_set_60 : decode cX11_set 60 = .ok (.astore 4, 2) := by decide +kernel
theorem dX11_set_62 : decode cX11_set 62 = .ok (.aload 4, 2) := by decide +kernel
theorem dX11_set_64 : decode cX11_set 64 = .ok (.iload_n 1, 1) := by decide +kernel
theorem dX11_set_65 : decode cX11_set 65 = .ok (.iaload, 1) := by decide +kernel
theorem dX11_set_66 : decode cX11_set 66 = .ok (.istore 5, 2) := by decide +kernel
theorem dX11_set_68 : decode cX11_set 68 = .ok (.aload 4, 2) := by decide +kernel
theorem dX11_set_70 : decode cX11_set 70 = .ok (.iload_n 1, 1) := by decide +kernel
theorem dX11_set_71 : decode cX11_set 71 = .ok (.iload_n 3, 1) := by decide +kernel
theorem dX11_set_72 : decode cX11_set 72 = .ok (.iastore, 1) := by decide +kernel
theorem dX11_set_73 : decode cX11_set 73 = .ok (.iload 5, 2) := by decide +kernel
theorem dX11_set_75 : decode cX11_set 75 = .ok (.ireturn, 1) := by decide +kernel
set_option maxRecDepth 20000 in
theorem ggX11_set_X11_isElder : GoodIn wsX11_set wsX11_isElder := goodIn_r _ [7] (by decide +kernel) (by decide +kernel)
set_option maxRecDepth 20000 in
theorem gX11_set_X11_isElder : GoodIn wsX11_set (va_wsS RX11 141 yX11_isElder wsX11_isElder) := goodIn_app (goodIn_of _ (by decide +kernel)) ggX11_set_X11_isElder
def fX11_set_60  (a1 : Int32) (a2 : Int32) (a3 : Int32) (x1 : Int32) (x3 : Int32) (y0 : Nat) (g : c_G) : Option (c_G × Int32) :=
  (c_ia TC (y0)).bind fun n60002 => if c_in (x1) (n60002) = true then c_let (c_si g y0 (x1).toNatClampNeg x3) fun g60004 => some (g60004, (g.1 y0 (x1).toNatClampNeg)) else none
set_option maxRecDepth 100000 in
set_option maxHeartbeats 4000000 in
theorem jX11_set_60 {p : Program} {l : Launch} {e : Env} {s : State} {m : MethodId} {below : List Frame} {meth : Method} {c : Code} {D : va_G} {tc : Nat → ClassId} {ad : Nat → Nat} {A : Nat → Prop} {E : (Nat → Nat) × (Nat → Nat) × Nat} {a1 : Int32} {a2 : Int32} {a3 : Int32} {g' : c_G} {r : Int32} (C : c_C p s m meth c D tc A E RX11 wsX11_set cX11_set 6 (some .int) ([.ref (ad 0), .int a1, .int a2, .int a3] : List Value).toArray) (hD : c_D A ad TC)  : ∀ (x1 : Int32) (x3 : Int32) (y0 : Nat) (g : c_G), fX11_set_60 a1 a2 a3 x1 x3 y0 g = some (g', r) → ∀ (H : Heap) (locs : List Loc), va_P D vwCl (c_ws tc ad TC g) H → va_S A s.heap H locs → ∀ ls : Array Slot, lv_has ls 6 [(1, .int x1), (3, .int x3)] → W p l e (c_rm 1) s m ([.ref (ad 0), .int a1, .int a2, .int a3] : List Value).toArray below meth c H locs 0 0 (MQ below (va_Qi (fun (x : Int32) (_ : Unit) => x = r) (fun _ t => va_P D vwCl (c_ws tc ad TC g') t.heap) A) ([.ref (ad 0), .int a1, .int a2, .int a3] : List Value).toArray s 0 0 A) (F0 m 60 ls [.ref (ad y0)]) := by
  obtain ⟨hx, hb, hr, hml, hts, hown, hlk, hK, hE⟩ := id C
  intro x1 x3 y0 g hf H locs hP hS ls hl
  unfold fX11_set_60 at hf
  refine lv_astore (lv' := [(4, .ref (ad y0)), (1, .int x1), (3, .int x3)]) hx hb dX11_set_60 hl (by decide) rfl (fun ls hl => ?_)
  refine lv_aload hx hb dX11_set_62 (lv_at hl 0 rfl) ?_
  refine lv_iload_n hx hb dX11_set_64 rfl (lv_at hl 1 rfl) ?_
  obtain ⟨n60002, ha60001, hf⟩ := c_bd hf
  have ha60001T := c_iaE ha60001
  obtain ⟨hi60003, hf⟩ := c_gd hf
  refine c_iald (j := (x1).toNatClampNeg) hx hb hK hP y0 ha60001T rfl (c_inV hi60003) dX11_set_65 ?_
  refine lv_istore (lv' := [(5, .int (g.1 y0 (x1).toNatClampNeg)), (4, .ref (ad y0)), (1, .int x1), (3, .int x3)]) hx hb dX11_set_66 hl (by decide) rfl (fun ls hl => ?_)
  refine lv_aload hx hb dX11_set_68 (lv_at hl 1 rfl) ?_
  refine lv_iload_n hx hb dX11_set_70 rfl (lv_at hl 2 rfl) ?_
  refine lv_iload_n hx hb dX11_set_71 rfl (lv_at hl 3 rfl) ?_
  obtain ⟨g60004, eg60004, hf⟩ := c_letE hf
  refine c_iast (j := (x1).toNatClampNeg) hx hb hK hP hD hS y0 ha60001T rfl (c_inV hi60003) eg60004 dX11_set_72 (fun H locs hP hS => ?_)
  refine lv_iload hx hb dX11_set_73 (lv_at hl 0 rfl) ?_
  exact c_iret hx hb hr hlk hP hS rfl (c_inj hf) dX11_set_75
def fX11_set_33  (a1 : Int32) (a2 : Int32) (a3 : Int32) (x1 : Int32) (x2 : Int32) (x3 : Int32) (y0 : Int32) (y1 : Int32) (g : c_G) : Option (c_G × Int32) :=
  if y0 ≤ y1 then (if x2 = 0 then (fX11_set_60 a1 a2 a3 x1 x3 56 g) else (fX11_set_60 a1 a2 a3 x1 x3 59 g)) else (some (g, (-2 : Int32)))
set_option maxRecDepth 100000 in
set_option maxHeartbeats 4000000 in
theorem jX11_set_33 {p : Program} {l : Launch} {e : Env} {s : State} {m : MethodId} {below : List Frame} {meth : Method} {c : Code} {D : va_G} {tc : Nat → ClassId} {ad : Nat → Nat} {A : Nat → Prop} {E : (Nat → Nat) × (Nat → Nat) × Nat} {a1 : Int32} {a2 : Int32} {a3 : Int32} {g' : c_G} {r : Int32} (C : c_C p s m meth c D tc A E RX11 wsX11_set cX11_set 6 (some .int) ([.ref (ad 0), .int a1, .int a2, .int a3] : List Value).toArray) (hD : c_D A ad TC)  : ∀ (x1 : Int32) (x2 : Int32) (x3 : Int32) (y0 : Int32) (y1 : Int32) (g : c_G), fX11_set_33 a1 a2 a3 x1 x2 x3 y0 y1 g = some (g', r) → ∀ (H : Heap) (locs : List Loc), va_P D vwCl (c_ws tc ad TC g) H → va_S A s.heap H locs → ∀ ls : Array Slot, lv_has ls 6 [(0, .ref (ad 0)), (1, .int x1), (2, .int x2), (3, .int x3)] → W p l e (c_rm 1) s m ([.ref (ad 0), .int a1, .int a2, .int a3] : List Value).toArray below meth c H locs 0 0 (MQ below (va_Qi (fun (x : Int32) (_ : Unit) => x = r) (fun _ t => va_P D vwCl (c_ws tc ad TC g') t.heap) A) ([.ref (ad 0), .int a1, .int a2, .int a3] : List Value).toArray s 0 0 A) (F0 m 33 ls [.int y1, .int y0]) := by
  obtain ⟨hx, hb, hr, hml, hts, hown, hlk, hK, hE⟩ := id C
  intro x1 x2 x3 y0 y1 g hf H locs hP hS ls hl
  unfold fX11_set_33 at hf
  refine lv_icmp_le (tgt := 39) hx hb dX11_set_33 (by decide) (fun c33001 => ?_) (fun c33001 => ?_)
  · have hf := c_it c33001 hf
    refine lv_iload_n hx hb dX11_set_39 rfl (lv_at hl 2 rfl) ?_
    refine lv_if_ne (tgt := 53) hx hb dX11_set_40 (by decide) (fun c33002 => ?_) (fun c33002 => ?_)
    · have hf := c_ie c33002 hf
      refine lv_aload_n hx hb dX11_set_53 rfl (lv_at hl 0 rfl) ?_
      refine c_get hx hb hts i_X11_set_X11 hown hK hP 0 tC0 rfl 5 (by decide) (hts _ (List.mem_of_getElem? (i := 1) rfl)) (fun _ h9 => h9) rfl (v := .ref (ad 55)) rfl dX11_set_54 ?_
      refine c_get hx hb hts i_X11_set_X7 hown hK hP 55 tC55 rfl 3 (by decide) (hts _ (List.mem_of_getElem? (i := 3) rfl)) (fun _ h9 => h9) rfl (v := .ref (ad 59)) rfl dX11_set_57 ?_
      exact jX11_set_60 C hD x1 x3 59 g hf _ _ hP hS _ (lv_sub hl [1, 3] rfl)
    · have hf := c_it c33002 hf
      refine lv_aload_n hx hb dX11_set_43 rfl (lv_at hl 0 rfl) ?_
      refine c_get hx hb hts i_X11_set_X11 hown hK hP 0 tC0 rfl 5 (by decide) (hts _ (List.mem_of_getElem? (i := 1) rfl)) (fun _ h9 => h9) rfl (v := .ref (ad 55)) rfl dX11_set_44 ?_
      refine c_get hx hb hts i_X11_set_X7 hown hK hP 55 tC55 rfl 0 (by decide) (hts _ (List.mem_of_getElem? (i := 2) rfl)) (fun _ h9 => h9) rfl (v := .ref (ad 56)) rfl dX11_set_47 ?_
      refine lv_goto (tgt := 60) hx hb dX11_set_50 (by decide) ?_
      exact jX11_set_60 C hD x1 x3 56 g hf _ _ hP hS _ (lv_sub hl [1, 3] rfl)
  · have hf := c_ie c33001 hf
    refine lv_bipush (v := (-2 : Int32)) hx hb dX11_set_36 (by decide) ?_
    exact c_iret hx hb hr hlk hP hS rfl (c_inj hf) dX11_set_38
def fX11_set (g : c_G) (a1 : Int32) (a2 : Int32) (a3 : Int32) : Option (c_G × Int32) :=
  if (fX11_isElder a1) = 0 then (some (g, (-1 : Int32))) else (if a2 < 0 then (some (g, (-1 : Int32))) else (if a2 ≤ (1 : Int32) then (if a3 < 0 then (some (g, (-2 : Int32))) else (if a2 = 0 then (fX11_set_33 a1 a2 a3 a1 a2 a3 a3 ((9 : Int32)) g) else (fX11_set_33 a1 a2 a3 a1 a2 a3 a3 ((1 : Int32)) g))) else (some (g, (-1 : Int32)))))
set_option maxRecDepth 100000 in
set_option maxHeartbeats 4000000 in
theorem kX11_set {l : Launch} {D : va_G} {tc : Nat → ClassId} {ad : Nat → Nat} {A : Nat → Prop} {E : (Nat → Nat) × (Nat → Nat) × Nat} (hD : c_D A ad TC) {a1 : Int32} {a2 : Int32} {a3 : Int32} {g g' : c_G} {r : Int32} (hf : fX11_set g a1 a2 a3 = some (g', r)) : c_Mi l yX11_set wsX11_set (c_rm 1) D tc ad A E TC ([.ref (ad 0), .int a1, .int a2, .int a3] : List Value) g g' r := by
  refine c_ofW (bytes := cX11_set) (maxL := 6) (ret := (some .int)) (by decide) rfl (Nat.le_of_ble_eq_true rfl) ?_
  intro p e s m below meth c ls C hP hS hl
  unfold fX11_set at hf
  obtain ⟨hx, hb, hr, hml, hts, hown, hlk, hK, hE⟩ := id C
  have hl : lv_has ls 6 [(0, .ref (ad 0)), (1, .int a1), (2, .int a2), (3, .int a3)] := hl
  refine lv_iload_n hx hb dX11_set_0 rfl (lv_at hl 1 rfl) ?_
  refine c_goi (va_runS (As := [.int a1]) (rest := []) ⟨hx, hb, hml, hown, hts⟩ (kX11_isElder (T := TC) (g := g) rfl) (va_cwS 1 hts gX11_set_X11_isElder rfl rfl rfl (by decide +kernel) ⟨Nat.le_of_ble_eq_true rfl, Nat.le_of_ble_eq_true rfl⟩) (c_preS hK hP hE hS) rfl rfl hl.1 rfl (lv_room (Nat.le_of_ble_eq_true rfl)) dX11_set_1 ⟨Nat.zero_le _, Nat.zero_le _⟩) hS (fun H locs hP hS => ?_)
  refine lv_if_eq (tgt := 16) hx hb dX11_set_4 (by decide) (fun c1 => ?_) (fun c1 => ?_)
  · have hf := c_it c1 hf
    refine lv_iconst (v := (-1 : Int32)) hx hb dX11_set_16 (by decide) ?_
    exact c_iret hx hb hr hlk hP hS rfl (c_inj hf) dX11_set_17
  · have hf := c_ie c1 hf
    refine lv_iload_n hx hb dX11_set_7 rfl (lv_at hl 2 rfl) ?_
    refine lv_if_lt (tgt := 16) hx hb dX11_set_8 (by decide) (fun c2 => ?_) (fun c2 => ?_)
    · have hf := c_it c2 hf
      refine lv_iconst (v := (-1 : Int32)) hx hb dX11_set_16 (by decide) ?_
      exact c_iret hx hb hr hlk hP hS rfl (c_inj hf) dX11_set_17
    · have hf := c_ie c2 hf
      refine lv_iload_n hx hb dX11_set_11 rfl (lv_at hl 2 rfl) ?_
      refine lv_iconst (v := (1 : Int32)) hx hb dX11_set_12 (by decide) ?_
      refine lv_icmp_le (tgt := 18) hx hb dX11_set_13 (by decide) (fun c3 => ?_) (fun c3 => ?_)
      · have hf := c_it c3 hf
        refine lv_iload_n hx hb dX11_set_18 rfl (lv_at hl 3 rfl) ?_
        refine lv_if_lt (tgt := 36) hx hb dX11_set_19 (by decide) (fun c4 => ?_) (fun c4 => ?_)
        · have hf := c_it c4 hf
          refine lv_bipush (v := (-2 : Int32)) hx hb dX11_set_36 (by decide) ?_
          exact c_iret hx hb hr hlk hP hS rfl (c_inj hf) dX11_set_38
        · have hf := c_ie c4 hf
          refine lv_iload_n hx hb dX11_set_22 rfl (lv_at hl 3 rfl) ?_
          refine lv_iload_n hx hb dX11_set_23 rfl (lv_at hl 2 rfl) ?_
          refine lv_if_ne (tgt := 32) hx hb dX11_set_24 (by decide) (fun c5 => ?_) (fun c5 => ?_)
          · have hf := c_ie c5 hf
            refine lv_iconst (v := (1 : Int32)) hx hb dX11_set_32 (by decide) ?_
            exact jX11_set_33 C hD a1 a2 a3 a3 ((1 : Int32)) g hf _ _ hP hS _ (lv_sub hl [0, 1, 2, 3] rfl)
          · have hf := c_it c5 hf
            refine lv_bipush (v := (9 : Int32)) hx hb dX11_set_27 (by decide) ?_
            refine lv_goto (tgt := 33) hx hb dX11_set_29 (by decide) ?_
            exact jX11_set_33 C hD a1 a2 a3 a3 ((9 : Int32)) g hf _ _ hP hS _ (lv_sub hl [0, 1, 2, 3] rfl)
      · have hf := c_ie c3 hf
        refine lv_iconst (v := (-1 : Int32)) hx hb dX11_set_16 (by decide) ?_
        exact c_iret hx hb hr hlk hP hS rfl (c_inj hf) dX11_set_17
theorem i_X11_forget_X7 : ∀ w ∈ u_ws RX7 TX7 17, w ∈ wsX11_forget := c_inP [33, 34, 35, 36, 37, 38, 39, 40, 41, 42, 43, 44, 45, 46, 47, 48, 49] (by decide +kernel)
theorem i_X11_forget_X11 : ∀ w ∈ u_ws RX11 TX11 19, w ∈ wsX11_forget := c_inP [14, 15, 16, 17, 18, 19, 20, 21, 22, 23, 24, 25, 26, 27, 28, 29, 30, 31, 32] (by decide +kernel)
theorem dX11_forget_0 : decode cX11_forget 0 = .ok (.iload_n 1, 1) := by decide +kernel
theorem dX11_forget_1 : decode cX11_forget 1 = .ok (.invokestatic 141, 3) := by decide +kernel
theorem dX11_forget_4 : decode cX11_forget 4 = .ok (.ifCond .ne 5, 3) := by decide +kernel
theorem dX11_forget_7 : decode cX11_forget 7 = .ok (.iconst (-1), 1) := by decide +kernel
theorem dX11_forget_8 : decode cX11_forget 8 = .ok (.ireturn, 1) := by decide +kernel
theorem dX11_forget_9 : decode cX11_forget 9 = .ok (.aload_n 0, 1) := by decide +kernel
theorem dX11_forget_10 : decode cX11_forget 10 = .ok (.getfield 88, 3) := by decide +kernel
theorem dX11_forget_13 : decode cX11_forget 13 = .ok (.getfield 151, 3) := by decide +kernel
theorem dX11_forget_16 : decode cX11_forget 16 = .ok (.iload_n 1, 1) := by decide +kernel
theorem dX11_forget_17 : decode cX11_forget 17 = .ok (.iaload, 1) := by decide +kernel
theorem dX11_forget_18 : decode cX11_forget 18 = .ok (.istore_n 2, 1) := by decide +kernel
theorem dX11_forget_19 : decode cX11_forget 19 = .ok (.aload_n 0, 1) := by decide +kernel
theorem dX11_forget_20 : decode cX11_forget 20 = .ok (.getfield 88, 3) := by decide +kernel
theorem dX11_forget_23 : decode cX11_forget 23 = .ok (.iload_n 1, 1) := by decide +kernel
theorem dX11_forget_24 : decode cX11_forget 24 = .ok (.invokevirtual 175, 3) := by decide +kernel
theorem dX11_forget_27 : decode cX11_forget 27 = .ok (.iload_n 2, 1) := by decide +kernel
theorem dX11_forget_28 : decode cX11_forget 28 = .ok (.ireturn, 1) := by decide +kernel
set_option maxRecDepth 20000 in
theorem ggX11_forget_X11_isElder : GoodIn wsX11_forget wsX11_isElder := goodIn_r _ [6] (by decide +kernel) (by decide +kernel)
set_option maxRecDepth 20000 in
theorem gX11_forget_X11_isElder : GoodIn wsX11_forget (va_wsS RX11 141 yX11_isElder wsX11_isElder) := goodIn_app (goodIn_of _ (by decide +kernel)) ggX11_forget_X11_isElder
set_option maxRecDepth 20000 in
theorem ggX11_forget_X7_unname : GoodIn wsX11_forget wsX7_unname := goodIn_r _ [11, 12, 13, 33, 34, 35, 36, 37, 38, 39, 40, 41, 42, 43, 44, 45, 46, 47, 48, 49] (by decide +kernel) (by decide +kernel)
set_option maxRecDepth 20000 in
theorem gX11_forget_X7_unname : GoodIn wsX11_forget (wsV RX11 175 RX7 yX7_unname wsX7_unname) := goodIn_app (goodIn_of _ (by decide +kernel)) ggX11_forget_X7_unname
def fX11_forget (g : c_G) (a1 : Int32) : Option (c_G × Int32) :=
  if (fX11_isElder a1) = 0 then (some (g, (-1 : Int32))) else (if c_in (a1) (6) = true then (fX7_unname g a1).bind fun g4 => some (g4, (g.1 57 (a1).toNatClampNeg)) else none)
set_option maxRecDepth 100000 in
set_option maxHeartbeats 4000000 in
theorem kX11_forget {l : Launch} {D : va_G} {tc : Nat → ClassId} {ad : Nat → Nat} {A : Nat → Prop} {E : (Nat → Nat) × (Nat → Nat) × Nat} (hD : c_D A ad TC) {a1 : Int32} {g g' : c_G} {r : Int32} (hf : fX11_forget g a1 = some (g', r)) : c_Mi l yX11_forget wsX11_forget (c_rm 1) D tc ad A E TC ([.ref (ad 0), .int a1] : List Value) g g' r := by
  refine c_ofW (bytes := cX11_forget) (maxL := 3) (ret := (some .int)) (by decide) rfl (Nat.le_of_ble_eq_true rfl) ?_
  intro p e s m below meth c ls C hP hS hl
  unfold fX11_forget at hf
  obtain ⟨hx, hb, hr, hml, hts, hown, hlk, hK, hE⟩ := id C
  have hl : lv_has ls 3 [(0, .ref (ad 0)), (1, .int a1)] := hl
  refine lv_iload_n hx hb dX11_forget_0 rfl (lv_at hl 1 rfl) ?_
  refine c_goi (va_runS (As := [.int a1]) (rest := []) ⟨hx, hb, hml, hown, hts⟩ (kX11_isElder (T := TC) (g := g) rfl) (va_cwS 1 hts gX11_forget_X11_isElder rfl rfl rfl (by decide +kernel) ⟨Nat.le_of_ble_eq_true rfl, Nat.le_of_ble_eq_true rfl⟩) (c_preS hK hP hE hS) rfl rfl hl.1 rfl (lv_room (Nat.le_of_ble_eq_true rfl)) dX11_forget_1 ⟨Nat.zero_le _, Nat.zero_le _⟩) hS (fun H locs hP hS => ?_)
  refine lv_if_ne (tgt := 9) hx hb dX11_forget_4 (by decide) (fun c1 => ?_) (fun c1 => ?_)
  · have hf := c_ie c1 hf
    refine lv_aload_n hx hb dX11_forget_9 rfl (lv_at hl 0 rfl) ?_
    refine c_get hx hb hts i_X11_forget_X11 hown hK hP 0 tC0 rfl 5 (by decide) (hts _ (List.mem_of_getElem? (i := 1) rfl)) (fun _ h9 => h9) rfl (v := .ref (ad 55)) rfl dX11_forget_10 ?_
    refine c_get hx hb hts i_X11_forget_X7 hown hK hP 55 tC55 rfl 1 (by decide) (hts _ (List.mem_of_getElem? (i := 2) rfl)) (fun _ h9 => h9) rfl (v := .ref (ad 57)) rfl dX11_forget_13 ?_
    refine lv_iload_n hx hb dX11_forget_16 rfl (lv_at hl 1 rfl) ?_
    obtain ⟨hi2, hf⟩ := c_gd hf
    refine c_iald (j := (a1).toNatClampNeg) hx hb hK hP 57 tC57 rfl (c_inV hi2) dX11_forget_17 ?_
    refine lv_istore_n (lv' := [(2, .int (g.1 57 (a1).toNatClampNeg)), (0, .ref (ad 0)), (1, .int a1)]) hx hb dX11_forget_18 rfl hl (by decide) rfl (fun ls hl => ?_)
    refine lv_aload_n hx hb dX11_forget_19 rfl (lv_at hl 1 rfl) ?_
    refine c_get hx hb hts i_X11_forget_X11 hown hK hP 0 tC0 rfl 5 (by decide) (hts _ (List.mem_of_getElem? (i := 1) rfl)) (fun _ h9 => h9) rfl (v := .ref (ad 55)) rfl dX11_forget_20 ?_
    refine lv_iload_n hx hb dX11_forget_23 rfl (lv_at hl 2 rfl) ?_
    obtain ⟨g4, hc3, hf⟩ := c_bd hf
    refine c_gov (va_runV (As := [.int a1]) (rest := []) ⟨hx, hb, hml, hown, hts⟩ (kX7_unname hD hc3) (cwV 1 hts gX11_forget_X7_unname rfl rfl rfl (by decide +kernel) ⟨Nat.le_of_ble_eq_true rfl, Nat.le_of_ble_eq_true rfl⟩) (c_preV hK hP hE hS tC55 rfl) rfl rfl hl.1 rfl (lv_room (Nat.le_of_ble_eq_true rfl)) dX11_forget_24 ⟨Nat.zero_le _, Nat.zero_le _⟩) hS (fun H locs hP hS => ?_)
    refine lv_iload_n hx hb dX11_forget_27 rfl (lv_at hl 0 rfl) ?_
    exact c_iret hx hb hr hlk hP hS rfl (c_inj hf) dX11_forget_28
  · have hf := c_it c1 hf
    refine lv_iconst (v := (-1 : Int32)) hx hb dX11_forget_7 (by decide) ?_
    exact c_iret hx hb hr hlk hP hS rfl (c_inj hf) dX11_forget_8
theorem i_X11_bar_X7 : ∀ w ∈ u_ws RX7 TX7 17, w ∈ wsX11_bar := c_inP [26, 27, 28, 29, 30, 31, 32, 33, 34, 35, 36, 37, 38, 39, 40, 41, 42] (by decide +kernel)
theorem i_X11_bar_X11 : ∀ w ∈ u_ws RX11 TX11 19, w ∈ wsX11_bar := c_inP [7, 8, 9, 10, 11, 12, 13, 14, 15, 16, 17, 18, 19, 20, 21, 22, 23, 24, 25] (by decide +kernel)
theorem dX11_bar_0 : decode cX11_bar 0 = .ok (.iload_n 1, 1) := by decide +kernel
theorem dX11_bar_1 : decode cX11_bar 1 = .ok (.invokestatic 108, 3) := by decide +kernel
theorem dX11_bar_4 : decode cX11_bar 4 = .ok (.ifCond .ne 6, 3) := by decide +kernel
theorem dX11_bar_7 : decode cX11_bar 7 = .ok (.bipush (-2), 2) := by decide +kernel
theorem dX11_bar_9 : decode cX11_bar 9 = .ok (.ireturn, 1) := by decide +kernel
theorem dX11_bar_10 : decode cX11_bar 10 = .ok (.aload_n 0, 1) := by decide +kernel
theorem dX11_bar_11 : decode cX11_bar 11 = .ok (.getfield 88, 3) := by decide +kernel
theorem dX11_bar_14 : decode cX11_bar 14 = .ok (.getfield 179, 3) := by decide +kernel
theorem dX11_bar_17 : decode cX11_bar 17 = .ok (.istore_n 2, 1) := by decide +kernel
theorem dX11_bar_18 : decode cX11_bar 18 = .ok (.aload_n 0, 1) := by decide +kernel
theorem dX11_bar_19 : decode cX11_bar 19 = .ok (.getfield 88, 3) := by decide +kernel
theorem dX11_bar_22 : decode cX11_bar 22 = .ok (.iload_n 1, 1) := by decide +kernel
theorem dX11_bar_23 : decode cX11_bar 23 = .ok (.putfield 179, 3) := by decide +kernel
theorem dX11_bar_26 : decode cX11_bar 26 = .ok (.iload_n 2, 1) := by decide +kernel
theorem dX11_bar_27 : decode cX11_bar 27 = .ok (.ireturn, 1) := by decide +kernel
set_option maxRecDepth 20000 in
theorem ggX11_bar_X11_areWords : GoodIn wsX11_bar wsX11_areWords := goodIn_r _ [6] (by decide +kernel) (by decide +kernel)
set_option maxRecDepth 20000 in
theorem gX11_bar_X11_areWords : GoodIn wsX11_bar (va_wsS RX11 108 yX11_areWords wsX11_areWords) := goodIn_app (goodIn_of _ (by decide +kernel)) ggX11_bar_X11_areWords
def fX11_bar (g : c_G) (a1 : Int32) : Option (c_G × Int32) :=
  if (fX11_areWords a1) = 0 then (some (g, (-2 : Int32))) else (c_let (c_si g 55 4 a1) fun g2 => some (g2, (g.1 55 4)))
set_option maxRecDepth 100000 in
set_option maxHeartbeats 4000000 in
theorem kX11_bar {l : Launch} {D : va_G} {tc : Nat → ClassId} {ad : Nat → Nat} {A : Nat → Prop} {E : (Nat → Nat) × (Nat → Nat) × Nat} (hD : c_D A ad TC) {a1 : Int32} {g g' : c_G} {r : Int32} (hf : fX11_bar g a1 = some (g', r)) : c_Mi l yX11_bar wsX11_bar (c_rm 1) D tc ad A E TC ([.ref (ad 0), .int a1] : List Value) g g' r := by
  refine c_ofW (bytes := cX11_bar) (maxL := 3) (ret := (some .int)) (by decide) rfl (Nat.le_of_ble_eq_true rfl) ?_
  intro p e s m below meth c ls C hP hS hl
  unfold fX11_bar at hf
  obtain ⟨hx, hb, hr, hml, hts, hown, hlk, hK, hE⟩ := id C
  have hl : lv_has ls 3 [(0, .ref (ad 0)), (1, .int a1)] := hl
  refine lv_iload_n hx hb dX11_bar_0 rfl (lv_at hl 1 rfl) ?_
  refine c_goi (va_runS (As := [.int a1]) (rest := []) ⟨hx, hb, hml, hown, hts⟩ (kX11_areWords (T := TC) (g := g) rfl) (va_cwS 1 hts gX11_bar_X11_areWords rfl rfl rfl (by decide +kernel) ⟨Nat.le_of_ble_eq_true rfl, Nat.le_of_ble_eq_true rfl⟩) (c_preS hK hP hE hS) rfl rfl hl.1 rfl (lv_room (Nat.le_of_ble_eq_true rfl)) dX11_bar_1 ⟨Nat.zero_le _, Nat.zero_le _⟩) hS (fun H locs hP hS => ?_)
  refine lv_if_ne (tgt := 10) hx hb dX11_bar_4 (by decide) (fun c1 => ?_) (fun c1 => ?_)
  · have hf := c_ie c1 hf
    refine lv_aload_n hx hb dX11_bar_10 rfl (lv_at hl 0 rfl) ?_
    refine c_get hx hb hts i_X11_bar_X11 hown hK hP 0 tC0 rfl 5 (by decide) (hts _ (List.mem_of_getElem? (i := 1) rfl)) (fun _ h9 => h9) rfl (v := .ref (ad 55)) rfl dX11_bar_11 ?_
    refine c_get hx hb hts i_X11_bar_X7 hown hK hP 55 tC55 rfl 4 (by decide) (hts _ (List.mem_of_getElem? (i := 2) rfl)) (fun _ h9 => h9) rfl (v := .int (g.1 55 4)) rfl dX11_bar_14 ?_
    refine lv_istore_n (lv' := [(2, .int (g.1 55 4)), (0, .ref (ad 0)), (1, .int a1)]) hx hb dX11_bar_17 rfl hl (by decide) rfl (fun ls hl => ?_)
    refine lv_aload_n hx hb dX11_bar_18 rfl (lv_at hl 1 rfl) ?_
    refine c_get hx hb hts i_X11_bar_X11 hown hK hP 0 tC0 rfl 5 (by decide) (hts _ (List.mem_of_getElem? (i := 1) rfl)) (fun _ h9 => h9) rfl (v := .ref (ad 55)) rfl dX11_bar_19 ?_
    refine lv_iload_n hx hb dX11_bar_22 rfl (lv_at hl 2 rfl) ?_
    obtain ⟨g2, eg2, hf⟩ := c_letE hf
    refine c_put hx hb hts i_X11_bar_X7 tyX7 tyX7_ok nmX7 hown hK hP hD hS 55 tC55 rfl 4 (by decide) (hts _ (List.mem_of_getElem? (i := 2) rfl)) (fun _ h9 => h9) rfl (ty := .int) (by decide +kernel) rfl rfl rfl eg2 dX11_bar_23 (fun H locs hP hS => ?_)
    refine lv_iload_n hx hb dX11_bar_26 rfl (lv_at hl 0 rfl) ?_
    exact c_iret hx hb hr hlk hP hS rfl (c_inj hf) dX11_bar_27
  · have hf := c_it c1 hf
    refine lv_bipush (v := (-2 : Int32)) hx hb dX11_bar_7 (by decide) ?_
    exact c_iret hx hb hr hlk hP hS rfl (c_inj hf) dX11_bar_9
theorem i_X11_row_X7 : ∀ w ∈ u_ws RX7 TX7 17, w ∈ wsX11_row := c_inP [32, 33, 34, 35, 36, 37, 38, 39, 40, 41, 42, 43, 44, 45, 46, 47, 48] (by decide +kernel)
theorem i_X11_row_X11 : ∀ w ∈ u_ws RX11 TX11 19, w ∈ wsX11_row := c_inP [13, 14, 15, 16, 17, 18, 19, 20, 21, 22, 23, 24, 25, 26, 27, 28, 29, 30, 31] (by decide +kernel)
theorem dX11_row_0 : decode cX11_row 0 = .ok (.aload_n 0, 1) := by decide +kernel
theorem dX11_row_1 : decode cX11_row 1 = .ok (.iload_n 1, 1) := by decide +kernel
theorem dX11_row_2 : decode cX11_row 2 = .ok (.invokevirtual 119, 3) := by decide +kernel
theorem dX11_row_5 : decode cX11_row 5 = .ok (.ifCond .eq 12, 3) := by decide +kernel
theorem dX11_row_8 : decode cX11_row 8 = .ok (.iload_n 2, 1) := by decide +kernel
theorem dX11_row_9 : decode cX11_row 9 = .ok (.ifCond .lt 8, 3) := by decide +kernel
theorem dX11_row_12 : decode cX11_row 12 = .ok (.iload_n 2, 1) := by decide +kernel
theorem dX11_row_13 : decode cX11_row 13 = .ok (.iconst 4, 1) := by decide +kernel
theorem dX11_row_14 : decode cX11_row 14 = .ok (.if_icmp .lt 5, 3) := by decide +kernel
theorem dX11_row_17 : decode cX11_row 17 = .ok (.iconst (-1), 1) := by decide +kernel
theorem dX11_row_18 : decode cX11_row 18 = .ok (.ireturn, 1) := by decide +kernel
theorem dX11_row_19 : decode cX11_row 19 = .ok (.iload_n 3, 1) := by decide +kernel
theorem dX11_row_20 : decode cX11_row 20 = .ok (.invokestatic 104, 3) := by decide +kernel
theorem dX11_row_23 : decode cX11_row 23 = .ok (.ifCond .ne 6, 3) := by decide +kernel
theorem dX11_row_26 : decode cX11_row 26 = .ok (.bipush (-2), 2) := by decide +kernel
theorem dX11_row_28 : decode cX11_row 28 = .ok (.ireturn, 1) := by decide +kernel
theorem dX11_row_29 : decode cX11_row 29 = .ok (.aload_n 0, 1) := by decide +kernel
theorem dX11_row_30 : decode cX11_row 30 = .ok (.getfield 88, 3) := by decide +kernel
theorem dX11_row_33 : decode cX11_row 33 = .ok (.getfield 122, 3) := by decide +kernel
theorem dX11_row_36 : decode cX11_row 36 = .ok (.iload_n 1, 1) := by decide +kernel
theorem dX11_row_37 : decode cX11_row 37 = .ok (.iaload, 1) := by decide +kernel
theorem dX11_row_38 : decode cX11_row 38 = .ok (.bipush 6, 2) := by decide +kernel
theorem dX11_row_40 : decode cX11_row 40 = .ok (.if_icmp .eq 6, 3) := by decide +kernel
theorem dX11_row_43 : decode cX11_row 43 = .ok (.bipush (-3), 2) := by decide +kernel
theorem dX11_row_45 : decode cX11_row 45 = .ok (.ireturn, 1) := by decide +kernel
theorem dX11_row_46 : decode cX11_row 46 = .ok (.aload_n 0, 1) := by decide +kernel
theorem dX11_row_47 : decode cX11_row 47 = .ok (.getfield 88, 3) := by decide +kernel
theorem dX11_row_50 : decode cX11_row 50 = .ok (.getfield 182, 3) := by decide +kernel
theorem dX11_row_53 : decode cX11_row 53 = .ok (.iload_n 1, 1) := by decide +kernel
theorem dX11_row_54 : decode cX11_row 54 = .ok (.iconst 4, 1) := by decide +kernel
theorem dX11_row_55 : decode cX11_row 55 = .ok (.imul, 1) := by decide +kernel
theorem dX11_row_56 : decode cX11_row 56 = .ok (.iload_n 2, 1) := by decide +kernel
theorem dX11_row_57 : decode cX11_row 57 = .ok (.iadd, 1) := by decide +kernel
theorem dX11_row_58 : decode cX11_row 58 = .ok (.iaload, 1) := by decide +kernel
theorem dX11_row_59 : decode cX11_row 59 = .ok (.istore 4, 2) := by decide +kernel
theorem dX11_row_61 : decode cX11_row 61 = .ok (.aload_n 0, 1) := by decide +kernel
theorem dX11_row_62 : decode cX11_row 62 = .ok (.getfield 88, 3) := by decide +kernel
theorem dX11_row_65 : decode cX11_row 65 = .ok (.getfield 182, 3) := by decide +kernel
theorem dX11_row_68 : decode cX11_row 68 = .ok (.iload_n 1, 1) := by decide +kernel
theorem dX11_row_69 : decode cX11_row 69 = .ok (.iconst 4, 1) := by decide +kernel
theorem dX11_row_70 : decode cX11_row 70 = .ok (.imul, 1) := by decide +kernel
theorem dX11_row_71 : decode cX11_row 71 = .ok (.iload_n 2, 1) := by decide +kernel
theorem dX11_row_72 : decode cX11_row 72 = .ok (.iadd, 1) := by decide +kernel
theorem dX11_row_73 : decode cX11_row 73 = .ok (.iload_n 3, 1) := by decide +kernel
theorem dX11_row_74 : decode cX11_row 74 = .ok (.iastore, 1) := by decide +kernel
theorem dX11_row_75 : decode cX11_row 75 = .ok (.iload 4, 2) := by decide +kernel
theorem dX11_row_77 : decode cX11_row 77 = .ok (.ireturn, 1) := by decide +kernel
set_option maxRecDepth 20000 in
theorem ggX11_row_X11_isChild : GoodIn wsX11_row wsX11_isChild := goodIn_r _ [8, 1, 9, 13, 14, 15, 16, 17, 18, 19, 20, 21, 22, 23, 24, 25, 26, 27, 28, 29, 30, 31, 32, 33, 34, 35, 36, 37, 38, 39, 40, 41, 42, 43, 44, 45, 46, 47, 48] (by decide +kernel) (by decide +kernel)
set_option maxRecDepth 20000 in
theorem gX11_row_X11_isChild : GoodIn wsX11_row (wsV RX11 119 RX11 yX11_isChild wsX11_isChild) := goodIn_app (goodIn_of _ (by decide +kernel)) ggX11_row_X11_isChild
set_option maxRecDepth 20000 in
theorem ggX11_row_X11_isDigit : GoodIn wsX11_row wsX11_isDigit := goodIn_r _ [12] (by decide +kernel) (by decide +kernel)
set_option maxRecDepth 20000 in
theorem gX11_row_X11_isDigit : GoodIn wsX11_row (va_wsS RX11 104 yX11_isDigit wsX11_isDigit) := goodIn_app (goodIn_of _ (by decide +kernel)) ggX11_row_X11_isDigit
def fX11_row (g : c_G) (a1 : Int32) (a2 : Int32) (a3 : Int32) : Option (c_G × Int32) :=
  (fX11_isChild g a1).bind fun r1 => if r1 = 0 then (some (g, (-1 : Int32))) else (if a2 < 0 then (some (g, (-1 : Int32))) else (if a2 < (4 : Int32) then (if (fX11_isDigit a3) = 0 then (some (g, (-2 : Int32))) else (if c_in (a1) (6) = true then if (g.1 60 (a1).toNatClampNeg) = (6 : Int32) then (if c_in (((a1 * (4 : Int32)) + a2)) (24) = true then c_let (c_si g 65 (((a1 * (4 : Int32)) + a2)).toNatClampNeg a3) fun g10 => some (g10, (g.1 65 (((a1 * (4 : Int32)) + a2)).toNatClampNeg)) else none) else (some (g, (-3 : Int32))) else none)) else (some (g, (-1 : Int32)))))
set_option maxRecDepth 100000 in
set_option maxHeartbeats 4000000 in
theorem kX11_row {l : Launch} {D : va_G} {tc : Nat → ClassId} {ad : Nat → Nat} {A : Nat → Prop} {E : (Nat → Nat) × (Nat → Nat) × Nat} (hD : c_D A ad TC) {a1 : Int32} {a2 : Int32} {a3 : Int32} {g g' : c_G} {r : Int32} (hf : fX11_row g a1 a2 a3 = some (g', r)) : c_Mi l yX11_row wsX11_row (c_rm 1) D tc ad A E TC ([.ref (ad 0), .int a1, .int a2, .int a3] : List Value) g g' r := by
  refine c_ofW (bytes := cX11_row) (maxL := 5) (ret := (some .int)) (by decide) rfl (Nat.le_of_ble_eq_true rfl) ?_
  intro p e s m below meth c ls C hP hS hl
  unfold fX11_row at hf
  obtain ⟨hx, hb, hr, hml, hts, hown, hlk, hK, hE⟩ := id C
  have hl : lv_has ls 5 [(0, .ref (ad 0)), (1, .int a1), (2, .int a2), (3, .int a3)] := hl
  refine lv_aload_n hx hb dX11_row_0 rfl (lv_at hl 0 rfl) ?_
  refine lv_iload_n hx hb dX11_row_1 rfl (lv_at hl 1 rfl) ?_
  obtain ⟨r1, hc2, hf⟩ := c_bd hf
  refine c_goi (va_runV (As := [.int a1]) (rest := []) ⟨hx, hb, hml, hown, hts⟩ (kX11_isChild hD hc2) (cwV 1 hts gX11_row_X11_isChild rfl rfl rfl (by decide +kernel) ⟨Nat.le_of_ble_eq_true rfl, Nat.le_of_ble_eq_true rfl⟩) (c_preV hK hP hE hS tC0 rfl) rfl rfl hl.1 rfl (lv_room (Nat.le_of_ble_eq_true rfl)) dX11_row_2 ⟨Nat.zero_le _, Nat.zero_le _⟩) hS (fun H locs hP hS => ?_)
  refine lv_if_eq (tgt := 17) hx hb dX11_row_5 (by decide) (fun c3 => ?_) (fun c3 => ?_)
  · have hf := c_it c3 hf
    refine lv_iconst (v := (-1 : Int32)) hx hb dX11_row_17 (by decide) ?_
    exact c_iret hx hb hr hlk hP hS rfl (c_inj hf) dX11_row_18
  · have hf := c_ie c3 hf
    refine lv_iload_n hx hb dX11_row_8 rfl (lv_at hl 2 rfl) ?_
    refine lv_if_lt (tgt := 17) hx hb dX11_row_9 (by decide) (fun c4 => ?_) (fun c4 => ?_)
    · have hf := c_it c4 hf
      refine lv_iconst (v := (-1 : Int32)) hx hb dX11_row_17 (by decide) ?_
      exact c_iret hx hb hr hlk hP hS rfl (c_inj hf) dX11_row_18
    · have hf := c_ie c4 hf
      refine lv_iload_n hx hb dX11_row_12 rfl (lv_at hl 2 rfl) ?_
      refine lv_iconst (v := (4 : Int32)) hx hb dX11_row_13 (by decide) ?_
      refine lv_icmp_lt (tgt := 19) hx hb dX11_row_14 (by decide) (fun c5 => ?_) (fun c5 => ?_)
      · have hf := c_it c5 hf
        refine lv_iload_n hx hb dX11_row_19 rfl (lv_at hl 3 rfl) ?_
        refine c_goi (va_runS (As := [.int a3]) (rest := []) ⟨hx, hb, hml, hown, hts⟩ (kX11_isDigit (T := TC) (g := g) rfl) (va_cwS 1 hts gX11_row_X11_isDigit rfl rfl rfl (by decide +kernel) ⟨Nat.le_of_ble_eq_true rfl, Nat.le_of_ble_eq_true rfl⟩) (c_preS hK hP hE hS) rfl rfl hl.1 rfl (lv_room (Nat.le_of_ble_eq_true rfl)) dX11_row_20 ⟨Nat.zero_le _, Nat.zero_le _⟩) hS (fun H locs hP hS => ?_)
        refine lv_if_ne (tgt := 29) hx hb dX11_row_23 (by decide) (fun c6 => ?_) (fun c6 => ?_)
        · have hf := c_ie c6 hf
          refine lv_aload_n hx hb dX11_row_29 rfl (lv_at hl 0 rfl) ?_
          refine c_get hx hb hts i_X11_row_X11 hown hK hP 0 tC0 rfl 5 (by decide) (hts _ (List.mem_of_getElem? (i := 1) rfl)) (fun _ h9 => h9) rfl (v := .ref (ad 55)) rfl dX11_row_30 ?_
          refine c_get hx hb hts i_X11_row_X7 hown hK hP 55 tC55 rfl 7 (by decide) (hts _ (List.mem_of_getElem? (i := 2) rfl)) (fun _ h9 => h9) rfl (v := .ref (ad 60)) rfl dX11_row_33 ?_
          refine lv_iload_n hx hb dX11_row_36 rfl (lv_at hl 1 rfl) ?_
          obtain ⟨hi7, hf⟩ := c_gd hf
          refine c_iald (j := (a1).toNatClampNeg) hx hb hK hP 60 tC60 rfl (c_inV hi7) dX11_row_37 ?_
          refine lv_bipush (v := (6 : Int32)) hx hb dX11_row_38 (by decide) ?_
          refine lv_icmp_eq (tgt := 46) hx hb dX11_row_40 (by decide) (fun c8 => ?_) (fun c8 => ?_)
          · have hf := c_it c8 hf
            refine lv_aload_n hx hb dX11_row_46 rfl (lv_at hl 0 rfl) ?_
            refine c_get hx hb hts i_X11_row_X11 hown hK hP 0 tC0 rfl 5 (by decide) (hts _ (List.mem_of_getElem? (i := 1) rfl)) (fun _ h9 => h9) rfl (v := .ref (ad 55)) rfl dX11_row_47 ?_
            refine c_get hx hb hts i_X11_row_X7 hown hK hP 55 tC55 rfl 12 (by decide) (hts _ (List.mem_of_getElem? (i := 3) rfl)) (fun _ h9 => h9) rfl (v := .ref (ad 65)) rfl dX11_row_50 ?_
            refine lv_iload_n hx hb dX11_row_53 rfl (lv_at hl 1 rfl) ?_
            refine lv_iconst (v := (4 : Int32)) hx hb dX11_row_54 (by decide) ?_
            refine lv_imul hx hb dX11_row_55 ?_
            refine lv_iload_n hx hb dX11_row_56 rfl (lv_at hl 2 rfl) ?_
            refine lv_iadd hx hb dX11_row_57 ?_
            obtain ⟨hi9, hf⟩ := c_gd hf
            refine c_iald (j := (((a1 * (4 : Int32)) + a2)).toNatClampNeg) hx hb hK hP 65 tC65 rfl (c_inV hi9) dX11_row_58 ?_
            refine lv_istore (lv' := [(4, .int (g.1 65 (((a1 * (4 : Int32)) + a2)).toNatClampNeg)), (0, .ref (ad 0)), (1, .int a1), (2, .int a2), (3, .int a3)]) hx hb dX11_row_59 hl (by decide) rfl (fun ls hl => ?_)
            refine lv_aload_n hx hb dX11_row_61 rfl (lv_at hl 1 rfl) ?_
            refine c_get hx hb hts i_X11_row_X11 hown hK hP 0 tC0 rfl 5 (by decide) (hts _ (List.mem_of_getElem? (i := 1) rfl)) (fun _ h9 => h9) rfl (v := .ref (ad 55)) rfl dX11_row_62 ?_
            refine c_get hx hb hts i_X11_row_X7 hown hK hP 55 tC55 rfl 12 (by decide) (hts _ (List.mem_of_getElem? (i := 3) rfl)) (fun _ h9 => h9) rfl (v := .ref (ad 65)) rfl dX11_row_65 ?_
            refine lv_iload_n hx hb dX11_row_68 rfl (lv_at hl 2 rfl) ?_
            refine lv_iconst (v := (4 : Int32)) hx hb dX11_row_69 (by decide) ?_
            refine lv_imul hx hb dX11_row_70 ?_
            refine lv_iload_n hx hb dX11_row_71 rfl (lv_at hl 3 rfl) ?_
            refine lv_iadd hx hb dX11_row_72 ?_
            refine lv_iload_n hx hb dX11_row_73 rfl (lv_at hl 4 rfl) ?_
            obtain ⟨g10, eg10, hf⟩ := c_letE hf
            refine c_iast (j := (((a1 * (4 : Int32)) + a2)).toNatClampNeg) hx hb hK hP hD hS 65 tC65 rfl (c_inV hi9) eg10 dX11_row_74 (fun H locs hP hS => ?_)
            refine lv_iload hx hb dX11_row_75 (lv_at hl 0 rfl) ?_
            exact c_iret hx hb hr hlk hP hS rfl (c_inj hf) dX11_row_77
          · have hf := c_ie c8 hf
            refine lv_bipush (v := (-3 : Int32)) hx hb dX11_row_43 (by decide) ?_
            exact c_iret hx hb hr hlk hP hS rfl (c_inj hf) dX11_row_45
        · have hf := c_it c6 hf
          refine lv_bipush (v := (-2 : Int32)) hx hb dX11_row_26 (by decide) ?_
          exact c_iret hx hb hr hlk hP hS rfl (c_inj hf) dX11_row_28
      · have hf := c_ie c5 hf
        refine lv_iconst (v := (-1 : Int32)) hx hb dX11_row_17 (by decide) ?_
        exact c_iret hx hb hr hlk hP hS rfl (c_inj hf) dX11_row_18
theorem i_X11_feed_X11 : ∀ w ∈ u_ws RX11 TX11 19, w ∈ wsX11_feed := c_inP [3, 4, 5, 6, 7, 8, 9, 10, 11, 12, 13, 14, 15, 16, 17, 18, 19, 20, 21] (by decide +kernel)
theorem dX11_feed_0 : decode cX11_feed 0 = .ok (.iload_n 1, 1) := by decide +kernel
theorem dX11_feed_1 : decode cX11_feed 1 = .ok (.ifCond .lt 9, 3) := by decide +kernel
theorem dX11_feed_4 : decode cX11_feed 4 = .ok (.iload_n 1, 1) := by decide +kernel
theorem dX11_feed_5 : decode cX11_feed 5 = .ok (.bipush 127, 2) := by decide +kernel
theorem dX11_feed_7 : decode cX11_feed 7 = .ok (.if_icmp .le 6, 3) := by decide +kernel
theorem dX11_feed_10 : decode cX11_feed 10 = .ok (.bipush (-2), 2) := by decide +kernel
theorem dX11_feed_12 : decode cX11_feed 12 = .ok (.ireturn, 1) := by decide +kernel
theorem dX11_feed_13 : decode cX11_feed 13 = .ok (.aload_n 0, 1) := by decide +kernel
theorem dX11_feed_14 : decode cX11_feed 14 = .ok (.getfield 185, 3) := by decide +kernel
theorem dX11_feed_17 : decode cX11_feed 17 = .ok (.bipush 100, 2) := by decide +kernel
theorem dX11_feed_19 : decode cX11_feed 19 = .ok (.if_icmp .lt 6, 3) := by decide +kernel
theorem dX11_feed_22 : decode cX11_feed 22 = .ok (.bipush (-4), 2) := by decide +kernel
theorem dX11_feed_24 : decode cX11_feed 24 = .ok (.ireturn, 1) := by decide +kernel
theorem dX11_feed_25 : decode cX11_feed 25 = .ok (.aload_n 0, 1) := by decide +kernel
theorem dX11_feed_26 : decode cX11_feed 26 = .ok (.getfield 11, 3) := by decide +kernel
theorem dX11_feed_29 : decode cX11_feed 29 = .ok (.aload_n 0, 1) := by decide +kernel
theorem dX11_feed_30 : decode cX11_feed 30 = .ok (.getfield 185, 3) := by decide +kernel
theorem dX11_feed_33 : decode cX11_feed 33 = .ok (.iload_n 1, 1) := by decide +kernel
theorem dX11_feed_34 : decode cX11_feed 34 = .ok (.i2b, 1) := by decide +kernel
theorem dX11_feed_35 : decode cX11_feed 35 = .ok (.bastore, 1) := by decide +kernel
theorem dX11_feed_36 : decode cX11_feed 36 = .ok (.aload_n 0, 1) := by decide +kernel
theorem dX11_feed_37 : decode cX11_feed 37 = .ok (.dup, 1) := by decide +kernel
theorem dX11_feed_38 : decode cX11_feed 38 = .ok (.getfield 185, 3) := by decide +kernel
theorem dX11_feed_41 : decode cX11_feed 41 = .ok (.iconst 1, 1) := by decide +kernel
theorem dX11_feed_42 : decode cX11_feed 42 = .ok (.iadd, 1) := by decide +kernel
theorem dX11_feed_43 : decode cX11_feed 43 = .ok (.putfield 185, 3) := by decide +kernel
theorem dX11_feed_46 : decode cX11_feed 46 = .ok (.aload_n 0, 1) := by decide +kernel
theorem dX11_feed_47 : decode cX11_feed 47 = .ok (.getfield 185, 3) := by decide +kernel
theorem dX11_feed_50 : decode cX11_feed 50 = .ok (.ireturn, 1) := by decide +kernel
def fX11_feed (g : c_G) (a1 : Int32) : Option (c_G × Int32) :=
  if a1 < 0 then (some (g, (-2 : Int32))) else (if a1 ≤ (127 : Int32) then (if (g.1 0 2) < (100 : Int32) then (c_let (((a1).toInt8.toInt32)) fun v4 => if c_in ((g.1 0 2)) (100) = true then c_let (c_si g 1 ((g.1 0 2)).toNatClampNeg (vp_nar .byte v4)) fun g6 => c_let (((g6.1 0 2) + (1 : Int32))) fun v7 => c_let (c_si g6 0 2 v7) fun g8 => some (g8, (g8.1 0 2)) else none) else (some (g, (-4 : Int32)))) else (some (g, (-2 : Int32))))
set_option maxRecDepth 100000 in
set_option maxHeartbeats 4000000 in
theorem kX11_feed {l : Launch} {D : va_G} {tc : Nat → ClassId} {ad : Nat → Nat} {A : Nat → Prop} {E : (Nat → Nat) × (Nat → Nat) × Nat} (hD : c_D A ad TC) {a1 : Int32} {g g' : c_G} {r : Int32} (hf : fX11_feed g a1 = some (g', r)) : c_Mi l yX11_feed wsX11_feed (c_rm 0) D tc ad A E TC ([.ref (ad 0), .int a1] : List Value) g g' r := by
  refine c_ofW (bytes := cX11_feed) (maxL := 2) (ret := (some .int)) (by decide) rfl (Nat.le_of_ble_eq_true rfl) ?_
  intro p e s m below meth c ls C hP hS hl
  unfold fX11_feed at hf
  obtain ⟨hx, hb, hr, hml, hts, hown, hlk, hK, hE⟩ := id C
  have hl : lv_has ls 2 [(0, .ref (ad 0)), (1, .int a1)] := hl
  refine lv_iload_n hx hb dX11_feed_0 rfl (lv_at hl 1 rfl) ?_
  refine lv_if_lt (tgt := 10) hx hb dX11_feed_1 (by decide) (fun c1 => ?_) (fun c1 => ?_)
  · have hf := c_it c1 hf
    refine lv_bipush (v := (-2 : Int32)) hx hb dX11_feed_10 (by decide) ?_
    exact c_iret hx hb hr hlk hP hS rfl (c_inj hf) dX11_feed_12
  · have hf := c_ie c1 hf
    refine lv_iload_n hx hb dX11_feed_4 rfl (lv_at hl 1 rfl) ?_
    refine lv_bipush (v := (127 : Int32)) hx hb dX11_feed_5 (by decide) ?_
    refine lv_icmp_le (tgt := 13) hx hb dX11_feed_7 (by decide) (fun c2 => ?_) (fun c2 => ?_)
    · have hf := c_it c2 hf
      refine lv_aload_n hx hb dX11_feed_13 rfl (lv_at hl 0 rfl) ?_
      refine c_get hx hb hts i_X11_feed_X11 hown hK hP 0 tC0 rfl 2 (by decide) (hts _ (List.mem_of_getElem? (i := 1) rfl)) (fun _ h9 => h9) rfl (v := .int (g.1 0 2)) rfl dX11_feed_14 ?_
      refine lv_bipush (v := (100 : Int32)) hx hb dX11_feed_17 (by decide) ?_
      refine lv_icmp_lt (tgt := 25) hx hb dX11_feed_19 (by decide) (fun c3 => ?_) (fun c3 => ?_)
      · have hf := c_it c3 hf
        refine lv_aload_n hx hb dX11_feed_25 rfl (lv_at hl 0 rfl) ?_
        refine c_get hx hb hts i_X11_feed_X11 hown hK hP 0 tC0 rfl 1 (by decide) (hts _ (List.mem_of_getElem? (i := 2) rfl)) (fun _ h9 => h9) rfl (v := .ref (ad 1)) rfl dX11_feed_26 ?_
        refine lv_aload_n hx hb dX11_feed_29 rfl (lv_at hl 0 rfl) ?_
        refine c_get hx hb hts i_X11_feed_X11 hown hK hP 0 tC0 rfl 2 (by decide) (hts _ (List.mem_of_getElem? (i := 1) rfl)) (fun _ h9 => h9) rfl (v := .int (g.1 0 2)) rfl dX11_feed_30 ?_
        refine lv_iload_n hx hb dX11_feed_33 rfl (lv_at hl 1 rfl) ?_
        refine lv_i2b hx hb dX11_feed_34 rfl ?_
        obtain ⟨v4, ev4, hf⟩ := c_letE hf
        refine c_topi ev4 ?_
        obtain ⟨hi5, hf⟩ := c_gd hf
        obtain ⟨g6, eg6, hf⟩ := c_letE hf
        refine c_bast (j := ((g.1 0 2)).toNatClampNeg) hx hb hK hP hD hS 1 tC1 rfl (c_inV hi5) eg6 dX11_feed_35 (fun H locs hP hS => ?_)
        refine lv_aload_n hx hb dX11_feed_36 rfl (lv_at hl 0 rfl) ?_
        refine lv_dup hx hb dX11_feed_37 rfl ?_
        refine c_get hx hb hts i_X11_feed_X11 hown hK hP 0 tC0 rfl 2 (by decide) (hts _ (List.mem_of_getElem? (i := 1) rfl)) (fun _ h9 => h9) rfl (v := .int (g6.1 0 2)) rfl dX11_feed_38 ?_
        refine lv_iconst (v := (1 : Int32)) hx hb dX11_feed_41 (by decide) ?_
        refine lv_iadd hx hb dX11_feed_42 ?_
        obtain ⟨v7, ev7, hf⟩ := c_letE hf
        refine c_topi ev7 ?_
        obtain ⟨g8, eg8, hf⟩ := c_letE hf
        refine c_put hx hb hts i_X11_feed_X11 tyX11 tyX11_ok nmX11 hown hK hP hD hS 0 tC0 rfl 2 (by decide) (hts _ (List.mem_of_getElem? (i := 1) rfl)) (fun _ h9 => h9) rfl (ty := .int) (by decide +kernel) rfl rfl rfl eg8 dX11_feed_43 (fun H locs hP hS => ?_)
        refine lv_aload_n hx hb dX11_feed_46 rfl (lv_at hl 0 rfl) ?_
        refine c_get hx hb hts i_X11_feed_X11 hown hK hP 0 tC0 rfl 2 (by decide) (hts _ (List.mem_of_getElem? (i := 1) rfl)) (fun _ h9 => h9) rfl (v := .int (g8.1 0 2)) rfl dX11_feed_47 ?_
        exact c_iret hx hb hr hlk hP hS rfl (c_inj hf) dX11_feed_50
      · have hf := c_ie c3 hf
        refine lv_bipush (v := (-4 : Int32)) hx hb dX11_feed_22 (by decide) ?_
        exact c_iret hx hb hr hlk hP hS rfl (c_inj hf) dX11_feed_24
    · have hf := c_ie c2 hf
      refine lv_bipush (v := (-2 : Int32)) hx hb dX11_feed_10 (by decide) ?_
      exact c_iret hx hb hr hlk hP hS rfl (c_inj hf) dX11_feed_12
theorem dX11_areSundays_0 : decode cX11_areSundays 0 = .ok (.iload_n 0, 1) := by decide +kernel
theorem dX11_areSundays_1 : decode cX11_areSundays 1 = .ok (.ifCond .lt 13, 3) := by decide +kernel
theorem dX11_areSundays_4 : decode cX11_areSundays 4 = .ok (.iload_n 0, 1) := by decide +kernel
theorem dX11_areSundays_5 : decode cX11_areSundays 5 = .ok (.bipush 60, 2) := by decide +kernel
theorem dX11_areSundays_7 : decode cX11_areSundays 7 = .ok (.if_icmp .gt 7, 3) := by decide +kernel
theorem dX11_areSundays_10 : decode cX11_areSundays 10 = .ok (.iconst 1, 1) := by decide +kernel
theorem dX11_areSundays_11 : decode cX11_areSundays 11 = .ok (.goto 4, 3) := by decide +kernel
theorem dX11_areSundays_14 : decode cX11_areSundays 14 = .ok (.iconst 0, 1) := by decide +kernel
theorem dX11_areSundays_15 : decode cX11_areSundays 15 = .ok (.ireturn, 1) := by decide +kernel
def fX11_areSundays (a1 : Int32) : Int32 :=
  if a1 < 0 then ((0 : Int32)) else (if (60 : Int32) < a1 then ((0 : Int32)) else ((1 : Int32)))
set_option maxRecDepth 100000 in
set_option maxHeartbeats 4000000 in
theorem kX11_areSundays {l : Launch} {D : va_G} {tc : Nat → ClassId} {ad : Nat → Nat} {A : Nat → Prop} {E : (Nat → Nat) × (Nat → Nat) × Nat} {T : List c_T} {a1 : Int32} {g : c_G} {r : Int32} (hf : fX11_areSundays a1 = r) : c_Mi l yX11_areSundays wsX11_areSundays (c_rm 0) D tc ad A E T ([.int a1] : List Value) g g r := by
  refine c_ofW (bytes := cX11_areSundays) (maxL := 1) (ret := (some .boolean)) (by decide) rfl (Nat.le_of_ble_eq_true rfl) ?_
  intro p e s m below meth c ls C hP hS hl
  unfold fX11_areSundays at hf
  obtain ⟨hx, hb, hr, hml, hts, hown, hlk, hK, hE⟩ := id C
  have hl : lv_has ls 1 [(0, .int a1)] := hl
  refine lv_iload_n hx hb dX11_areSundays_0 rfl (lv_at hl 0 rfl) ?_
  refine lv_if_lt (tgt := 14) hx hb dX11_areSundays_1 (by decide) (fun c1 => ?_) (fun c1 => ?_)
  · have hf := c_it c1 hf
    refine lv_iconst (v := (0 : Int32)) hx hb dX11_areSundays_14 (by decide) ?_
    exact c_iret hx hb hr hlk hP hS rfl ⟨rfl, hf⟩ dX11_areSundays_15
  · have hf := c_ie c1 hf
    refine lv_iload_n hx hb dX11_areSundays_4 rfl (lv_at hl 0 rfl) ?_
    refine lv_bipush (v := (60 : Int32)) hx hb dX11_areSundays_5 (by decide) ?_
    refine lv_icmp_gt (tgt := 14) hx hb dX11_areSundays_7 (by decide) (fun c2 => ?_) (fun c2 => ?_)
    · have hf := c_it c2 hf
      refine lv_iconst (v := (0 : Int32)) hx hb dX11_areSundays_14 (by decide) ?_
      exact c_iret hx hb hr hlk hP hS rfl ⟨rfl, hf⟩ dX11_areSundays_15
    · have hf := c_ie c2 hf
      refine lv_iconst (v := (1 : Int32)) hx hb dX11_areSundays_10 (by decide) ?_
      refine lv_goto (tgt := 15) hx hb dX11_areSundays_11 (by decide) ?_
      exact c_iret hx hb hr hlk hP hS rfl ⟨rfl, hf⟩ dX11_areSundays_15
theorem bX11_areSundays (a1 : Int32) : fX11_areSundays a1 = 0 ∨ fX11_areSundays a1 = 1 := by
  unfold fX11_areSundays
  first | (repeat' split) <;> first | exact Or.inl rfl | exact Or.inr rfl
theorem i_X11_pass_X7 : ∀ w ∈ u_ws RX7 TX7 17, w ∈ wsX11_pass := c_inP [134, 135, 136, 137, 138, 139, 140, 141, 142, 143, 144, 145, 146, 147, 148, 149, 150] (by decide +kernel)
theorem i_X11_pass_X11 : ∀ w ∈ u_ws RX11 TX11 19, w ∈ wsX11_pass := c_inP [115, 116, 117, 118, 119, 120, 121, 122, 123, 124, 125, 126, 127, 128, 129, 130, 131, 132, 133] (by decide +kernel)
theorem dX11_pass_0 : decode cX11_pass 0 = .ok (.iload_n 1, 1) := by decide +kernel
theorem dX11_pass_1 : decode cX11_pass 1 = .ok (.invokestatic 217, 3) := by decide +kernel
theorem dX11_pass_4 : decode cX11_pass 4 = .ok (.ifCond .ne 6, 3) := by decide +kernel
theorem dX11_pass_7 : decode cX11_pass 7 = .ok (.bipush (-2), 2) := by decide +kernel
theorem dX11_pass_9 : decode cX11_pass 9 = .ok (.ireturn, 1) := by decide +kernel
theorem dX11_pass_10 : decode cX11_pass 10 = .ok (.aload_n 0, 1) := by decide +kernel
theorem dX11_pass_11 : decode cX11_pass 11 = .ok (.getfield 88, 3) := by decide +kernel
theorem dX11_pass_14 : decode cX11_pass 14 = .ok (.getfield 198, 3) := by decide +kernel
theorem dX11_pass_17 : decode cX11_pass 17 = .ok (.iload_n 1, 1) := by decide +kernel
theorem dX11_pass_18 : decode cX11_pass 18 = .ok (.iadd, 1) := by decide +kernel
theorem dX11_pass_19 : decode cX11_pass 19 = .ok (.sipush 9999, 3) := by decide +kernel
theorem dX11_pass_22 : decode cX11_pass 22 = .ok (.if_icmp .le 6, 3) := by decide +kernel
theorem dX11_pass_25 : decode cX11_pass 25 = .ok (.bipush (-3), 2) := by decide +kernel
theorem dX11_pass_27 : decode cX11_pass 27 = .ok (.ireturn, 1) := by decide +kernel
theorem dX11_pass_28 : decode cX11_pass 28 = .ok (.aload_n 0, 1) := by decide +kernel
theorem dX11_pass_29 : decode cX11_pass 29 = .ok (.aload_n 0, 1) := by decide +kernel
theorem dX11_pass_30 : decode cX11_pass 30 = .ok (.getfield 88, 3) := by decide +kernel
theorem dX11_pass_33 : decode cX11_pass 33 = .ok (.iload_n 1, 1) := by decide +kernel
theorem dX11_pass_34 : decode cX11_pass 34 = .ok (.sipush 9999, 3) := by decide +kernel
theorem dX11_pass_37 : decode cX11_pass 37 = .ok (.invokevirtual 220, 3) := by decide +kernel
theorem dX11_pass_40 : decode cX11_pass 40 = .ok (.aload_n 0, 1) := by decide +kernel
theorem dX11_pass_41 : decode cX11_pass 41 = .ok (.getfield 88, 3) := by decide +kernel
theorem dX11_pass_44 : decode cX11_pass 44 = .ok (.getfield 198, 3) := by decide +kernel
theorem dX11_pass_47 : decode cX11_pass 47 = .ok (.ireturn, 1) := by decide +kernel
set_option maxRecDepth 20000 in
theorem ggX11_pass_X11_areSundays : GoodIn wsX11_pass wsX11_areSundays := goodIn_r _ [6] (by decide +kernel) (by decide +kernel)
set_option maxRecDepth 20000 in
theorem gX11_pass_X11_areSundays : GoodIn wsX11_pass (va_wsS RX11 217 yX11_areSundays wsX11_areSundays) := goodIn_app (goodIn_of _ (by decide +kernel)) ggX11_pass_X11_areSundays
set_option maxRecDepth 20000 in
theorem ggX11_pass_X11_letGo : GoodIn wsX11_pass wsX11_letGo := goodIn_r _ [10, 11, 12, 13, 14, 15, 5, 16, 17, 18, 19, 20, 21, 22, 23, 24, 25, 26, 27, 28, 29, 30, 31, 32, 33, 34, 35, 36, 37, 38, 39, 40, 41, 42, 43, 44, 45, 46, 47, 48, 49, 50, 51, 52, 53, 54, 55, 56, 57, 58, 59, 60, 61, 62, 63, 64, 65, 66, 67, 68, 69, 70, 71, 72, 73, 74, 75, 76, 77, 78, 79, 80, 81, 82, 83, 84, 85, 86, 87, 88, 89, 90, 91, 92, 93, 94, 95, 96, 97, 98, 99, 100, 101, 102, 103, 104, 105, 106, 107, 108, 109, 110, 111, 112, 113, 114, 134, 135, 136, 137, 138, 139, 140, 141, 142, 143, 144, 145, 146, 147, 148, 149, 150, 115, 116, 117, 118, 119, 120, 121, 122, 123, 124, 125, 126, 127, 128, 129, 130, 131, 132, 133, 151, 152, 153, 154, 155, 156, 157, 158] (by decide +kernel) (by decide +kernel)
set_option maxRecDepth 20000 in
theorem gX11_pass_X11_letGo : GoodIn wsX11_pass (wsV RX11 220 RX11 yX11_letGo wsX11_letGo) := goodIn_app (goodIn_of _ (by decide +kernel)) ggX11_pass_X11_letGo
def fX11_pass (g : c_G) (a1 : Int32) : Option (c_G × Int32) :=
  if (fX11_areSundays a1) = 0 then (some (g, (-2 : Int32))) else (if ((g.1 55 5) + a1) ≤ (9999 : Int32) then ((fX11_letGo g 55 a1 ((9999 : Int32))).bind fun g4 => some (g4, (g4.1 55 5))) else (some (g, (-3 : Int32))))
set_option maxRecDepth 100000 in
set_option maxHeartbeats 4000000 in
theorem kX11_pass {l : Launch} {D : va_G} {tc : Nat → ClassId} {ad : Nat → Nat} {A : Nat → Prop} {E : (Nat → Nat) × (Nat → Nat) × Nat} (hD : c_D A ad TC) {a1 : Int32} {g g' : c_G} {r : Int32} (hf : fX11_pass g a1 = some (g', r)) : c_Mi l yX11_pass wsX11_pass (c_rm 6) D tc ad A E TC ([.ref (ad 0), .int a1] : List Value) g g' r := by
  refine c_ofW (bytes := cX11_pass) (maxL := 2) (ret := (some .int)) (by decide) rfl (Nat.le_of_ble_eq_true rfl) ?_
  intro p e s m below meth c ls C hP hS hl
  unfold fX11_pass at hf
  obtain ⟨hx, hb, hr, hml, hts, hown, hlk, hK, hE⟩ := id C
  have hl : lv_has ls 2 [(0, .ref (ad 0)), (1, .int a1)] := hl
  refine lv_iload_n hx hb dX11_pass_0 rfl (lv_at hl 1 rfl) ?_
  refine c_goi (va_runS (As := [.int a1]) (rest := []) ⟨hx, hb, hml, hown, hts⟩ (kX11_areSundays (T := TC) (g := g) rfl) (va_cwS 1 hts gX11_pass_X11_areSundays rfl rfl rfl (by decide +kernel) ⟨Nat.le_of_ble_eq_true rfl, Nat.le_of_ble_eq_true rfl⟩) (c_preS hK hP hE hS) rfl rfl hl.1 rfl (lv_room (Nat.le_of_ble_eq_true rfl)) dX11_pass_1 ⟨Nat.zero_le _, Nat.zero_le _⟩) hS (fun H locs hP hS => ?_)
  refine lv_if_ne (tgt := 10) hx hb dX11_pass_4 (by decide) (fun c1 => ?_) (fun c1 => ?_)
  · have hf := c_ie c1 hf
    refine lv_aload_n hx hb dX11_pass_10 rfl (lv_at hl 0 rfl) ?_
    refine c_get hx hb hts i_X11_pass_X11 hown hK hP 0 tC0 rfl 5 (by decide) (hts _ (List.mem_of_getElem? (i := 1) rfl)) (fun _ h9 => h9) rfl (v := .ref (ad 55)) rfl dX11_pass_11 ?_
    refine c_get hx hb hts i_X11_pass_X7 hown hK hP 55 tC55 rfl 5 (by decide) (hts _ (List.mem_of_getElem? (i := 2) rfl)) (fun _ h9 => h9) rfl (v := .int (g.1 55 5)) rfl dX11_pass_14 ?_
    refine lv_iload_n hx hb dX11_pass_17 rfl (lv_at hl 1 rfl) ?_
    refine lv_iadd hx hb dX11_pass_18 ?_
    refine lv_sipush (v := (9999 : Int32)) hx hb dX11_pass_19 (by decide) ?_
    refine lv_icmp_le (tgt := 28) hx hb dX11_pass_22 (by decide) (fun c2 => ?_) (fun c2 => ?_)
    · have hf := c_it c2 hf
      refine lv_aload_n hx hb dX11_pass_28 rfl (lv_at hl 0 rfl) ?_
      refine lv_aload_n hx hb dX11_pass_29 rfl (lv_at hl 0 rfl) ?_
      refine c_get hx hb hts i_X11_pass_X11 hown hK hP 0 tC0 rfl 5 (by decide) (hts _ (List.mem_of_getElem? (i := 1) rfl)) (fun _ h9 => h9) rfl (v := .ref (ad 55)) rfl dX11_pass_30 ?_
      refine lv_iload_n hx hb dX11_pass_33 rfl (lv_at hl 1 rfl) ?_
      refine lv_sipush (v := (9999 : Int32)) hx hb dX11_pass_34 (by decide) ?_
      obtain ⟨g4, hc3, hf⟩ := c_bd hf
      refine c_gov (va_runV (As := [.ref (ad 55), .int a1, .int (9999 : Int32)]) (rest := []) ⟨hx, hb, hml, hown, hts⟩ (kX11_letGo hD hc3) (cwV 3 hts gX11_pass_X11_letGo rfl rfl rfl (by decide +kernel) ⟨Nat.le_of_ble_eq_true rfl, Nat.le_of_ble_eq_true rfl⟩) (c_preV hK hP hE hS tC0 rfl) rfl rfl hl.1 rfl (lv_room (Nat.le_of_ble_eq_true rfl)) dX11_pass_37 ⟨Nat.zero_le _, Nat.zero_le _⟩) hS (fun H locs hP hS => ?_)
      refine lv_aload_n hx hb dX11_pass_40 rfl (lv_at hl 0 rfl) ?_
      refine c_get hx hb hts i_X11_pass_X11 hown hK hP 0 tC0 rfl 5 (by decide) (hts _ (List.mem_of_getElem? (i := 1) rfl)) (fun _ h9 => h9) rfl (v := .ref (ad 55)) rfl dX11_pass_41 ?_
      refine c_get hx hb hts i_X11_pass_X7 hown hK hP 55 tC55 rfl 5 (by decide) (hts _ (List.mem_of_getElem? (i := 2) rfl)) (fun _ h9 => h9) rfl (v := .int (g4.1 55 5)) rfl dX11_pass_44 ?_
      exact c_iret hx hb hr hlk hP hS rfl (c_inj hf) dX11_pass_47
    · have hf := c_ie c2 hf
      refine lv_bipush (v := (-3 : Int32)) hx hb dX11_pass_25 (by decide) ?_
      exact c_iret hx hb hr hlk hP hS rfl (c_inj hf) dX11_pass_27
  · have hf := c_it c1 hf
    refine lv_bipush (v := (-2 : Int32)) hx hb dX11_pass_7 (by decide) ?_
    exact c_iret hx hb hr hlk hP hS rfl (c_inj hf) dX11_pass_9
theorem i_X11_on_X7 : ∀ w ∈ u_ws RX7 TX7 17, w ∈ wsX11_on := c_inP [173, 174, 175, 176, 177, 178, 179, 180, 181, 182, 183, 184, 185, 186, 187, 188, 189] (by decide +kernel)
theorem i_X11_on_X11 : ∀ w ∈ u_ws RX11 TX11 19, w ∈ wsX11_on := c_inP [154, 155, 156, 157, 158, 159, 160, 161, 162, 163, 164, 165, 166, 167, 168, 169, 170, 171, 172] (by decide +kernel)
theorem dX11_on_0 : decode cX11_on 0 = .ok (.iload_n 2, 1) := by decide +kernel
theorem dX11_on_1 : decode cX11_on 1 = .ok (.bipush 10, 2) := by decide +kernel
theorem dX11_on_3 : decode cX11_on 3 = .ok (.isub, 1) := by decide +kernel
theorem dX11_on_4 : decode cX11_on 4 = .ok (.invokestatic 141, 3) := by decide +kernel
theorem dX11_on_7 : decode cX11_on 7 = .ok (.istore_n 3, 1) := by decide +kernel
theorem dX11_on_8 : decode cX11_on 8 = .ok (.aload_n 0, 1) := by decide +kernel
theorem dX11_on_9 : decode cX11_on 9 = .ok (.iload_n 2, 1) := by decide +kernel
theorem dX11_on_10 : decode cX11_on 10 = .ok (.bipush 20, 2) := by decide +kernel
theorem dX11_on_12 : decode cX11_on 12 = .ok (.isub, 1) := by decide +kernel
theorem dX11_on_13 : decode cX11_on 13 = .ok (.invokevirtual 119, 3) := by decide +kernel
theorem dX11_on_16 : decode cX11_on 16 = .ok (.istore 4, 2) := by decide +kernel
theorem dX11_on_18 : decode cX11_on 18 = .ok (.iload_n 2, 1) := by decide +kernel
theorem dX11_on_19 : decode cX11_on 19 = .ok (.ifCond .eq 14, 3) := by decide +kernel
theorem dX11_on_22 : decode cX11_on 22 = .ok (.iload_n 3, 1) := by decide +kernel
theorem dX11_on_23 : decode cX11_on 23 = .ok (.ifCond .ne 10, 3) := by decide +kernel
theorem dX11_on_26 : decode cX11_on 26 = .ok (.iload 4, 2) := by decide +kernel
theorem dX11_on_28 : decode cX11_on 28 = .ok (.ifCond .ne 5, 3) := by decide +kernel
theorem dX11_on_31 : decode cX11_on 31 = .ok (.iconst (-1), 1) := by decide +kernel
theorem dX11_on_32 : decode cX11_on 32 = .ok (.ireturn, 1) := by decide +kernel
theorem dX11_on_33 : decode cX11_on 33 = .ok (.iload_n 1, 1) := by decide +kernel
theorem dX11_on_34 : decode cX11_on 34 = .ok (.invokestatic 217, 3) := by decide +kernel
theorem dX11_on_37 : decode cX11_on 37 = .ok (.ifCond .ne 6, 3) := by decide +kernel
theorem dX11_on_40 : decode cX11_on 40 = .ok (.bipush (-2), 2) := by decide +kernel
theorem dX11_on_42 : decode cX11_on 42 = .ok (.ireturn, 1) := by decide +kernel
theorem dX11_on_43 : decode cX11_on 43 = .ok (.aload_n 0, 1) := by decide +kernel
theorem dX11_on_44 : decode cX11_on 44 = .ok (.getfield 95, 3) := by decide +kernel
theorem dX11_on_47 : decode cX11_on 47 = .ok (.aload_n 0, 1) := by decide +kernel
theorem dX11_on_48 : decode cX11_on 48 = .ok (.getfield 88, 3) := by decide +kernel
theorem dX11_on_51 : decode cX11_on 51 = .ok (.invokevirtual 224, 3) := by decide +kernel
theorem dX11_on_54 : decode cX11_on 54 = .ok (.aload_n 0, 1) := by decide +kernel
theorem dX11_on_55 : decode cX11_on 55 = .ok (.aload_n 0, 1) := by decide +kernel
theorem dX11_on_56 : decode cX11_on 56 = .ok (.getfield 95, 3) := by decide +kernel
theorem dX11_on_59 : decode cX11_on 59 = .ok (.iload_n 1, 1) := by decide +kernel
theorem dX11_on_60 : decode cX11_on 60 = .ok (.ldc 228, 2) := by decide +kernel
theorem dX11_on_62 : decode cX11_on 62 = .ok (.invokevirtual 220, 3) := by decide +kernel
theorem dX11_on_65 : decode cX11_on 65 = .ok (.iload_n 3, 1) := by decide +kernel
theorem dX11_on_66 : decode cX11_on 66 = .ok (.ifCond .eq 16, 3) := by decide +kernel
theorem dX11_on_69 : decode cX11_on 69 = .ok (.aload_n 0, 1) := by decide +kernel
theorem dX11_on_70 : decode cX11_on 70 = .ok (.getfield 95, 3) := by decide +kernel
theorem dX11_on_73 : decode cX11_on 73 = .ok (.getfield 151, 3) := by decide +kernel
theorem dX11_on_76 : decode cX11_on 76 = .ok (.iload_n 2, 1) := by decide +kernel
theorem dX11_on_77 : decode cX11_on 77 = .ok (.bipush 10, 2) := by decide +kernel
theorem dX11_on_79 : decode cX11_on 79 = .ok (.isub, 1) := by decide +kernel
theorem dX11_on_80 : decode cX11_on 80 = .ok (.iaload, 1) := by decide +kernel
theorem dX11_on_81 : decode cX11_on 81 = .ok (.ireturn, 1) := by decide +kernel
theorem dX11_on_82 : decode cX11_on 82 = .ok (.iload 4, 2) := by decide +kernel
theorem dX11_on_84 : decode cX11_on 84 = .ok (.ifCond .eq 18, 3) := by decide +kernel
theorem dX11_on_87 : decode cX11_on 87 = .ok (.aload_n 0, 1) := by decide +kernel
theorem dX11_on_88 : decode cX11_on 88 = .ok (.getfield 95, 3) := by decide +kernel
theorem dX11_on_91 : decode cX11_on 91 = .ok (.getfield 128, 3) := by decide +kernel
theorem dX11_on_94 : decode cX11_on 94 = .ok (.iload_n 2, 1) := by decide +kernel
theorem dX11_on_95 : decode cX11_on 95 = .ok (.bipush 20, 2) := by decide +kernel
theorem dX11_on_97 : decode cX11_on 97 = .ok (.isub, 1) := by decide +kernel
theorem dX11_on_98 : decode cX11_on 98 = .ok (.iaload, 1) := by decide +kernel
theorem dX11_on_99 : decode cX11_on 99 = .ok (.goto 10, 3) := by decide +kernel
theorem dX11_on_102 : decode cX11_on 102 = .ok (.aload_n 0, 1) := by decide +kernel
theorem dX11_on_103 : decode cX11_on 103 = .ok (.getfield 95, 3) := by decide +kernel
theorem dX11_on_106 : decode cX11_on 106 = .ok (.invokevirtual 208, 3) := by decide +kernel
theorem dX11_on_109 : decode cX11_on 109 = .ok (.ireturn, 1) := by decide +kernel
set_option maxRecDepth 20000 in
theorem ggX11_on_X11_isElder : GoodIn wsX11_on wsX11_isElder := goodIn_r _ [9] (by decide +kernel) (by decide +kernel)
set_option maxRecDepth 20000 in
theorem gX11_on_X11_isElder : GoodIn wsX11_on (va_wsS RX11 141 yX11_isElder wsX11_isElder) := goodIn_app (goodIn_of _ (by decide +kernel)) ggX11_on_X11_isElder
set_option maxRecDepth 20000 in
theorem ggX11_on_X11_isChild : GoodIn wsX11_on wsX11_isChild := goodIn_r _ [13, 2, 14, 154, 155, 156, 157, 158, 159, 160, 161, 162, 163, 164, 165, 166, 167, 168, 169, 170, 171, 172, 173, 174, 175, 176, 177, 178, 179, 180, 181, 182, 183, 184, 185, 186, 187, 188, 189] (by decide +kernel) (by decide +kernel)
set_option maxRecDepth 20000 in
theorem gX11_on_X11_isChild : GoodIn wsX11_on (wsV RX11 119 RX11 yX11_isChild wsX11_isChild) := goodIn_app (goodIn_of _ (by decide +kernel)) ggX11_on_X11_isChild
set_option maxRecDepth 20000 in
theorem ggX11_on_X11_areSundays : GoodIn wsX11_on wsX11_areSundays := goodIn_r _ [17] (by decide +kernel) (by decide +kernel)
set_option maxRecDepth 20000 in
theorem gX11_on_X11_areSundays : GoodIn wsX11_on (va_wsS RX11 217 yX11_areSundays wsX11_areSundays) := goodIn_app (goodIn_of _ (by decide +kernel)) ggX11_on_X11_areSundays
set_option maxRecDepth 20000 in
theorem ggX11_on_X7_copyFrom : GoodIn wsX11_on wsX7_copyFrom := goodIn_r _ [22, 23, 24, 25, 26, 27, 28, 29, 30, 31, 32, 33, 34, 35, 36, 37, 38, 39, 40, 41, 42, 43, 44, 45, 46, 47, 48, 49, 50, 51, 52, 53, 173, 174, 175, 176, 177, 178, 179, 180, 181, 182, 183, 184, 185, 186, 187, 188, 189, 190, 191, 192, 193] (by decide +kernel) (by decide +kernel)
set_option maxRecDepth 20000 in
theorem gX11_on_X7_copyFrom : GoodIn wsX11_on (wsV RX11 224 RX7 yX7_copyFrom wsX7_copyFrom) := goodIn_app (goodIn_of _ (by decide +kernel)) ggX11_on_X7_copyFrom
set_option maxRecDepth 20000 in
theorem ggX11_on_X11_letGo : GoodIn wsX11_on wsX11_letGo := goodIn_r _ [57, 14, 58, 59, 60, 61, 8, 62, 63, 5, 4, 64, 65, 66, 67, 68, 69, 70, 71, 72, 21, 73, 28, 30, 74, 75, 76, 77, 78, 79, 80, 81, 82, 83, 84, 85, 86, 87, 88, 89, 90, 91, 92, 93, 94, 95, 96, 97, 98, 99, 100, 101, 102, 103, 104, 105, 106, 107, 108, 109, 110, 111, 112, 113, 114, 115, 116, 117, 118, 119, 120, 121, 122, 123, 124, 125, 126, 127, 128, 129, 130, 131, 132, 133, 134, 135, 136, 137, 138, 139, 140, 141, 31, 142, 143, 144, 145, 146, 147, 148, 43, 149, 33, 37, 36, 32, 173, 174, 175, 176, 177, 178, 179, 180, 181, 182, 183, 184, 185, 186, 187, 188, 189, 154, 155, 156, 157, 158, 159, 160, 161, 162, 163, 164, 165, 166, 167, 168, 169, 170, 171, 172, 194, 195, 196, 197, 198, 199, 200, 201] (by decide +kernel) (by decide +kernel)
set_option maxRecDepth 20000 in
theorem gX11_on_X11_letGo : GoodIn wsX11_on (wsV RX11 220 RX11 yX11_letGo wsX11_letGo) := goodIn_app (goodIn_of _ (by decide +kernel)) ggX11_on_X11_letGo
set_option maxRecDepth 20000 in
theorem ggX11_on_X7_named : GoodIn wsX11_on wsX7_named := goodIn_r _ [153, 28, 173, 174, 175, 176, 177, 178, 179, 180, 181, 182, 183, 184, 185, 186, 187, 188, 189] (by decide +kernel) (by decide +kernel)
set_option maxRecDepth 20000 in
theorem gX11_on_X7_named : GoodIn wsX11_on (wsV RX11 208 RX7 yX7_named wsX7_named) := goodIn_app (goodIn_of _ (by decide +kernel)) ggX11_on_X7_named
def fX11_on_33  (a1 : Int32) (a2 : Int32) (x1 : Int32) (x2 : Int32) (x3 : Int32) (x4 : Int32) (g : c_G) : Option (c_G × Int32) :=
  if (fX11_areSundays x1) = 0 then (some (g, (-2 : Int32))) else ((fX7_copyFrom g 55).bind fun g33003 => (fX11_letGo g33003 101 x1 ((1000000 : Int32))).bind fun g33005 => if x3 = 0 then (if x4 = 0 then ((fX7_named g33005).bind fun r33008 => some (g33005, r33008)) else (if c_in ((x2 - (20 : Int32))) (6) = true then some (g33005, (g33005.1 108 ((x2 - (20 : Int32))).toNatClampNeg)) else none)) else (if c_in ((x2 - (10 : Int32))) (6) = true then some (g33005, (g33005.1 103 ((x2 - (10 : Int32))).toNatClampNeg)) else none))
set_option maxRecDepth 100000 in
set_option maxHeartbeats 4000000 in
theorem jX11_on_33 {p : Program} {l : Launch} {e : Env} {s : State} {m : MethodId} {below : List Frame} {meth : Method} {c : Code} {D : va_G} {tc : Nat → ClassId} {ad : Nat → Nat} {A : Nat → Prop} {E : (Nat → Nat) × (Nat → Nat) × Nat} {a1 : Int32} {a2 : Int32} {g' : c_G} {r : Int32} (C : c_C p s m meth c D tc A E RX11 wsX11_on cX11_on 5 (some .int) ([.ref (ad 0), .int a1, .int a2] : List Value).toArray) (hD : c_D A ad TC)  : ∀ (x1 : Int32) (x2 : Int32) (x3 : Int32) (x4 : Int32) (g : c_G), fX11_on_33 a1 a2 x1 x2 x3 x4 g = some (g', r) → ∀ (H : Heap) (locs : List Loc), va_P D vwCl (c_ws tc ad TC g) H → va_S A s.heap H locs → ∀ ls : Array Slot, lv_has ls 5 [(0, .ref (ad 0)), (1, .int x1), (2, .int x2), (3, .int x3), (4, .int x4)] → W p l e (c_rm 6) s m ([.ref (ad 0), .int a1, .int a2] : List Value).toArray below meth c H locs 0 0 (MQ below (va_Qi (fun (x : Int32) (_ : Unit) => x = r) (fun _ t => va_P D vwCl (c_ws tc ad TC g') t.heap) A) ([.ref (ad 0), .int a1, .int a2] : List Value).toArray s 0 0 A) (F0 m 33 ls []) := by
  obtain ⟨hx, hb, hr, hml, hts, hown, hlk, hK, hE⟩ := id C
  intro x1 x2 x3 x4 g hf H locs hP hS ls hl
  unfold fX11_on_33 at hf
  refine lv_iload_n hx hb dX11_on_33 rfl (lv_at hl 1 rfl) ?_
  refine c_goi (va_runS (As := [.int x1]) (rest := []) ⟨hx, hb, hml, hown, hts⟩ (kX11_areSundays (T := TC) (g := g) rfl) (va_cwS 1 hts gX11_on_X11_areSundays rfl rfl rfl (by decide +kernel) ⟨Nat.le_of_ble_eq_true rfl, Nat.le_of_ble_eq_true rfl⟩) (c_preS hK hP hE hS) rfl rfl hl.1 rfl (lv_room (Nat.le_of_ble_eq_true rfl)) dX11_on_34 ⟨Nat.zero_le _, Nat.zero_le _⟩) hS (fun H locs hP hS => ?_)
  refine lv_if_ne (tgt := 43) hx hb dX11_on_37 (by decide) (fun c33001 => ?_) (fun c33001 => ?_)
  · have hf := c_ie c33001 hf
    refine lv_aload_n hx hb dX11_on_43 rfl (lv_at hl 0 rfl) ?_
    refine c_get hx hb hts i_X11_on_X11 hown hK hP 0 tC0 rfl 7 (by decide) (hts _ (List.mem_of_getElem? (i := 1) rfl)) (fun _ h9 => h9) rfl (v := .ref (ad 101)) rfl dX11_on_44 ?_
    refine lv_aload_n hx hb dX11_on_47 rfl (lv_at hl 0 rfl) ?_
    refine c_get hx hb hts i_X11_on_X11 hown hK hP 0 tC0 rfl 5 (by decide) (hts _ (List.mem_of_getElem? (i := 2) rfl)) (fun _ h9 => h9) rfl (v := .ref (ad 55)) rfl dX11_on_48 ?_
    obtain ⟨g33003, hc33002, hf⟩ := c_bd hf
    refine c_gov (va_runV (As := [.ref (ad 55)]) (rest := []) ⟨hx, hb, hml, hown, hts⟩ (kX7_copyFrom hD hc33002) (cwV 1 hts gX11_on_X7_copyFrom rfl rfl rfl (by decide +kernel) ⟨Nat.le_of_ble_eq_true rfl, Nat.le_of_ble_eq_true rfl⟩) (c_preV hK hP hE hS tC101 rfl) rfl rfl hl.1 rfl (lv_room (Nat.le_of_ble_eq_true rfl)) dX11_on_51 ⟨Nat.zero_le _, Nat.zero_le _⟩) hS (fun H locs hP hS => ?_)
    refine lv_aload_n hx hb dX11_on_54 rfl (lv_at hl 0 rfl) ?_
    refine lv_aload_n hx hb dX11_on_55 rfl (lv_at hl 0 rfl) ?_
    refine c_get hx hb hts i_X11_on_X11 hown hK hP 0 tC0 rfl 7 (by decide) (hts _ (List.mem_of_getElem? (i := 1) rfl)) (fun _ h9 => h9) rfl (v := .ref (ad 101)) rfl dX11_on_56 ?_
    refine lv_iload_n hx hb dX11_on_59 rfl (lv_at hl 1 rfl) ?_
    refine lv_ldc hx hb hown (v := (1000000 : Int32)) (hts _ (List.mem_of_getElem? (i := 3) rfl)) dX11_on_60 ?_
    obtain ⟨g33005, hc33004, hf⟩ := c_bd hf
    refine c_gov (va_runV (As := [.ref (ad 101), .int x1, .int (1000000 : Int32)]) (rest := []) ⟨hx, hb, hml, hown, hts⟩ (kX11_letGo hD hc33004) (cwV 3 hts gX11_on_X11_letGo rfl rfl rfl (by decide +kernel) ⟨Nat.le_of_ble_eq_true rfl, Nat.le_of_ble_eq_true rfl⟩) (c_preV hK hP hE hS tC0 rfl) rfl rfl hl.1 rfl (lv_room (Nat.le_of_ble_eq_true rfl)) dX11_on_62 ⟨Nat.zero_le _, Nat.zero_le _⟩) hS (fun H locs hP hS => ?_)
    refine lv_iload_n hx hb dX11_on_65 rfl (lv_at hl 3 rfl) ?_
    refine lv_if_eq (tgt := 82) hx hb dX11_on_66 (by decide) (fun c33006 => ?_) (fun c33006 => ?_)
    · have hf := c_it c33006 hf
      refine lv_iload hx hb dX11_on_82 (lv_at hl 4 rfl) ?_
      refine lv_if_eq (tgt := 102) hx hb dX11_on_84 (by decide) (fun c33007 => ?_) (fun c33007 => ?_)
      · have hf := c_it c33007 hf
        refine lv_aload_n hx hb dX11_on_102 rfl (lv_at hl 0 rfl) ?_
        refine c_get hx hb hts i_X11_on_X11 hown hK hP 0 tC0 rfl 7 (by decide) (hts _ (List.mem_of_getElem? (i := 1) rfl)) (fun _ h9 => h9) rfl (v := .ref (ad 101)) rfl dX11_on_103 ?_
        obtain ⟨r33008, hc33009, hf⟩ := c_bd hf
        refine c_goi (va_runV (As := []) (rest := []) ⟨hx, hb, hml, hown, hts⟩ (kX7_named hD hc33009) (cwV 0 hts gX11_on_X7_named rfl rfl rfl (by decide +kernel) ⟨Nat.le_of_ble_eq_true rfl, Nat.le_of_ble_eq_true rfl⟩) (c_preV hK hP hE hS tC101 rfl) rfl rfl hl.1 rfl (lv_room (Nat.le_of_ble_eq_true rfl)) dX11_on_106 ⟨Nat.zero_le _, Nat.zero_le _⟩) hS (fun H locs hP hS => ?_)
        exact c_iret hx hb hr hlk hP hS rfl (c_inj hf) dX11_on_109
      · have hf := c_ie c33007 hf
        refine lv_aload_n hx hb dX11_on_87 rfl (lv_at hl 0 rfl) ?_
        refine c_get hx hb hts i_X11_on_X11 hown hK hP 0 tC0 rfl 7 (by decide) (hts _ (List.mem_of_getElem? (i := 1) rfl)) (fun _ h9 => h9) rfl (v := .ref (ad 101)) rfl dX11_on_88 ?_
        refine c_get hx hb hts i_X11_on_X7 hown hK hP 101 tC101 rfl 9 (by decide) (hts _ (List.mem_of_getElem? (i := 5) rfl)) (fun _ h9 => h9) rfl (v := .ref (ad 108)) rfl dX11_on_91 ?_
        refine lv_iload_n hx hb dX11_on_94 rfl (lv_at hl 2 rfl) ?_
        refine lv_bipush (v := (20 : Int32)) hx hb dX11_on_95 (by decide) ?_
        refine lv_isub hx hb dX11_on_97 ?_
        obtain ⟨hi33010, hf⟩ := c_gd hf
        refine c_iald (j := ((x2 - (20 : Int32))).toNatClampNeg) hx hb hK hP 108 tC108 rfl (c_inV hi33010) dX11_on_98 ?_
        refine lv_goto (tgt := 109) hx hb dX11_on_99 (by decide) ?_
        exact c_iret hx hb hr hlk hP hS rfl (c_inj hf) dX11_on_109
    · have hf := c_ie c33006 hf
      refine lv_aload_n hx hb dX11_on_69 rfl (lv_at hl 0 rfl) ?_
      refine c_get hx hb hts i_X11_on_X11 hown hK hP 0 tC0 rfl 7 (by decide) (hts _ (List.mem_of_getElem? (i := 1) rfl)) (fun _ h9 => h9) rfl (v := .ref (ad 101)) rfl dX11_on_70 ?_
      refine c_get hx hb hts i_X11_on_X7 hown hK hP 101 tC101 rfl 1 (by decide) (hts _ (List.mem_of_getElem? (i := 4) rfl)) (fun _ h9 => h9) rfl (v := .ref (ad 103)) rfl dX11_on_73 ?_
      refine lv_iload_n hx hb dX11_on_76 rfl (lv_at hl 2 rfl) ?_
      refine lv_bipush (v := (10 : Int32)) hx hb dX11_on_77 (by decide) ?_
      refine lv_isub hx hb dX11_on_79 ?_
      obtain ⟨hi33011, hf⟩ := c_gd hf
      refine c_iald (j := ((x2 - (10 : Int32))).toNatClampNeg) hx hb hK hP 103 tC103 rfl (c_inV hi33011) dX11_on_80 ?_
      exact c_iret hx hb hr hlk hP hS rfl (c_inj hf) dX11_on_81
  · have hf := c_it c33001 hf
    refine lv_bipush (v := (-2 : Int32)) hx hb dX11_on_40 (by decide) ?_
    exact c_iret hx hb hr hlk hP hS rfl (c_inj hf) dX11_on_42
def fX11_on (g : c_G) (a1 : Int32) (a2 : Int32) : Option (c_G × Int32) :=
  c_let ((fX11_isElder ((a2 - (10 : Int32))))) fun v1 => (fX11_isChild g ((a2 - (20 : Int32)))).bind fun r2 => if a2 = 0 then (fX11_on_33 a1 a2 a1 a2 v1 r2 g) else (if v1 = 0 then (if r2 = 0 then (some (g, (-1 : Int32))) else (fX11_on_33 a1 a2 a1 a2 v1 r2 g)) else (fX11_on_33 a1 a2 a1 a2 v1 r2 g))
set_option maxRecDepth 100000 in
set_option maxHeartbeats 4000000 in
theorem kX11_on {l : Launch} {D : va_G} {tc : Nat → ClassId} {ad : Nat → Nat} {A : Nat → Prop} {E : (Nat → Nat) × (Nat → Nat) × Nat} (hD : c_D A ad TC) {a1 : Int32} {a2 : Int32} {g g' : c_G} {r : Int32} (hf : fX11_on g a1 a2 = some (g', r)) : c_Mi l yX11_on wsX11_on (c_rm 6) D tc ad A E TC ([.ref (ad 0), .int a1, .int a2] : List Value) g g' r := by
  refine c_ofW (bytes := cX11_on) (maxL := 5) (ret := (some .int)) (by decide) rfl (Nat.le_of_ble_eq_true rfl) ?_
  intro p e s m below meth c ls C hP hS hl
  unfold fX11_on at hf
  obtain ⟨hx, hb, hr, hml, hts, hown, hlk, hK, hE⟩ := id C
  have hl : lv_has ls 5 [(0, .ref (ad 0)), (1, .int a1), (2, .int a2)] := hl
  refine lv_iload_n hx hb dX11_on_0 rfl (lv_at hl 2 rfl) ?_
  refine lv_bipush (v := (10 : Int32)) hx hb dX11_on_1 (by decide) ?_
  refine lv_isub hx hb dX11_on_3 ?_
  refine c_goi (va_runS (As := [.int (a2 - (10 : Int32))]) (rest := []) ⟨hx, hb, hml, hown, hts⟩ (kX11_isElder (T := TC) (g := g) rfl) (va_cwS 1 hts gX11_on_X11_isElder rfl rfl rfl (by decide +kernel) ⟨Nat.le_of_ble_eq_true rfl, Nat.le_of_ble_eq_true rfl⟩) (c_preS hK hP hE hS) rfl rfl hl.1 rfl (lv_room (Nat.le_of_ble_eq_true rfl)) dX11_on_4 ⟨Nat.zero_le _, Nat.zero_le _⟩) hS (fun H locs hP hS => ?_)
  obtain ⟨v1, ev1, hf⟩ := c_letE hf
  refine c_topi ev1 ?_
  refine lv_istore_n (lv' := [(3, .int v1), (0, .ref (ad 0)), (1, .int a1), (2, .int a2)]) hx hb dX11_on_7 rfl hl (by decide) rfl (fun ls hl => ?_)
  refine lv_aload_n hx hb dX11_on_8 rfl (lv_at hl 1 rfl) ?_
  refine lv_iload_n hx hb dX11_on_9 rfl (lv_at hl 3 rfl) ?_
  refine lv_bipush (v := (20 : Int32)) hx hb dX11_on_10 (by decide) ?_
  refine lv_isub hx hb dX11_on_12 ?_
  obtain ⟨r2, hc3, hf⟩ := c_bd hf
  refine c_goi (va_runV (As := [.int (a2 - (20 : Int32))]) (rest := []) ⟨hx, hb, hml, hown, hts⟩ (kX11_isChild hD hc3) (cwV 1 hts gX11_on_X11_isChild rfl rfl rfl (by decide +kernel) ⟨Nat.le_of_ble_eq_true rfl, Nat.le_of_ble_eq_true rfl⟩) (c_preV hK hP hE hS tC0 rfl) rfl rfl hl.1 rfl (lv_room (Nat.le_of_ble_eq_true rfl)) dX11_on_13 ⟨Nat.zero_le _, Nat.zero_le _⟩) hS (fun H locs hP hS => ?_)
  refine lv_istore (lv' := [(4, .int r2), (3, .int v1), (0, .ref (ad 0)), (1, .int a1), (2, .int a2)]) hx hb dX11_on_16 hl (by decide) rfl (fun ls hl => ?_)
  refine lv_iload_n hx hb dX11_on_18 rfl (lv_at hl 4 rfl) ?_
  refine lv_if_eq (tgt := 33) hx hb dX11_on_19 (by decide) (fun c4 => ?_) (fun c4 => ?_)
  · have hf := c_it c4 hf
    exact jX11_on_33 C hD a1 a2 v1 r2 g hf _ _ hP hS _ (lv_sub hl [2, 3, 4, 1, 0] rfl)
  · have hf := c_ie c4 hf
    refine lv_iload_n hx hb dX11_on_22 rfl (lv_at hl 1 rfl) ?_
    refine lv_if_ne (tgt := 33) hx hb dX11_on_23 (by decide) (fun c5 => ?_) (fun c5 => ?_)
    · have hf := c_ie c5 hf
      exact jX11_on_33 C hD a1 a2 v1 r2 g hf _ _ hP hS _ (lv_sub hl [2, 3, 4, 1, 0] rfl)
    · have hf := c_it c5 hf
      refine lv_iload hx hb dX11_on_26 (lv_at hl 0 rfl) ?_
      refine lv_if_ne (tgt := 33) hx hb dX11_on_28 (by decide) (fun c6 => ?_) (fun c6 => ?_)
      · have hf := c_ie c6 hf
        exact jX11_on_33 C hD a1 a2 v1 r2 g hf _ _ hP hS _ (lv_sub hl [2, 3, 4, 1, 0] rfl)
      · have hf := c_it c6 hf
        refine lv_iconst (v := (-1 : Int32)) hx hb dX11_on_31 (by decide) ?_
        exact c_iret hx hb hr hlk hP hS rfl (c_inj hf) dX11_on_32
theorem i_X11_teach_X7 : ∀ w ∈ u_ws RX7 TX7 17, w ∈ wsX11_teach := c_inP [119, 120, 121, 122, 123, 124, 125, 126, 127, 128, 129, 130, 131, 132, 133, 134, 135] (by decide +kernel)
theorem i_X11_teach_X11 : ∀ w ∈ u_ws RX11 TX11 19, w ∈ wsX11_teach := c_inP [100, 101, 102, 103, 104, 105, 106, 107, 108, 109, 110, 111, 112, 113, 114, 115, 116, 117, 118] (by decide +kernel)
theorem dX11_teach_0 : decode cX11_teach 0 = .ok (.aload_n 0, 1) := by decide +kernel
theorem dX11_teach_1 : decode cX11_teach 1 = .ok (.iload_n 1, 1) := by decide +kernel
theorem dX11_teach_2 : decode cX11_teach 2 = .ok (.invokevirtual 119, 3) := by decide +kernel
theorem dX11_teach_5 : decode cX11_teach 5 = .ok (.ifCond .eq 17, 3) := by decide +kernel
theorem dX11_teach_8 : decode cX11_teach 8 = .ok (.iload_n 2, 1) := by decide +kernel
theorem dX11_teach_9 : decode cX11_teach 9 = .ok (.invokestatic 141, 3) := by decide +kernel
theorem dX11_teach_12 : decode cX11_teach 12 = .ok (.ifCond .eq 10, 3) := by decide +kernel
theorem dX11_teach_15 : decode cX11_teach 15 = .ok (.iload_n 3, 1) := by decide +kernel
theorem dX11_teach_16 : decode cX11_teach 16 = .ok (.invokestatic 164, 3) := by decide +kernel
theorem dX11_teach_19 : decode cX11_teach 19 = .ok (.ifCond .ne 5, 3) := by decide +kernel
theorem dX11_teach_22 : decode cX11_teach 22 = .ok (.iconst (-1), 1) := by decide +kernel
theorem dX11_teach_23 : decode cX11_teach 23 = .ok (.ireturn, 1) := by decide +kernel
theorem dX11_teach_24 : decode cX11_teach 24 = .ok (.iconst 1, 1) := by decide +kernel
theorem dX11_teach_25 : decode cX11_teach 25 = .ok (.iload_n 3, 1) := by decide +kernel
theorem dX11_teach_26 : decode cX11_teach 26 = .ok (.ishl, 1) := by decide +kernel
theorem dX11_teach_27 : decode cX11_teach 27 = .ok (.aload_n 0, 1) := by decide +kernel
theorem dX11_teach_28 : decode cX11_teach 28 = .ok (.getfield 88, 3) := by decide +kernel
theorem dX11_teach_31 : decode cX11_teach 31 = .ok (.getfield 128, 3) := by decide +kernel
theorem dX11_teach_34 : decode cX11_teach 34 = .ok (.iload_n 1, 1) := by decide +kernel
theorem dX11_teach_35 : decode cX11_teach 35 = .ok (.iaload, 1) := by decide +kernel
theorem dX11_teach_36 : decode cX11_teach 36 = .ok (.iconst (-1), 1) := by decide +kernel
theorem dX11_teach_37 : decode cX11_teach 37 = .ok (.ixor, 1) := by decide +kernel
theorem dX11_teach_38 : decode cX11_teach 38 = .ok (.iand, 1) := by decide +kernel
theorem dX11_teach_39 : decode cX11_teach 39 = .ok (.istore 4, 2) := by decide +kernel
theorem dX11_teach_41 : decode cX11_teach 41 = .ok (.aload_n 0, 1) := by decide +kernel
theorem dX11_teach_42 : decode cX11_teach 42 = .ok (.aload_n 0, 1) := by decide +kernel
theorem dX11_teach_43 : decode cX11_teach 43 = .ok (.getfield 88, 3) := by decide +kernel
theorem dX11_teach_46 : decode cX11_teach 46 = .ok (.iload_n 1, 1) := by decide +kernel
theorem dX11_teach_47 : decode cX11_teach 47 = .ok (.aload_n 0, 1) := by decide +kernel
theorem dX11_teach_48 : decode cX11_teach 48 = .ok (.getfield 88, 3) := by decide +kernel
theorem dX11_teach_51 : decode cX11_teach 51 = .ok (.getfield 125, 3) := by decide +kernel
theorem dX11_teach_54 : decode cX11_teach 54 = .ok (.iload_n 1, 1) := by decide +kernel
theorem dX11_teach_55 : decode cX11_teach 55 = .ok (.iaload, 1) := by decide +kernel
theorem dX11_teach_56 : decode cX11_teach 56 = .ok (.aload_n 0, 1) := by decide +kernel
theorem dX11_teach_57 : decode cX11_teach 57 = .ok (.getfield 88, 3) := by decide +kernel
theorem dX11_teach_60 : decode cX11_teach 60 = .ok (.getfield 128, 3) := by decide +kernel
theorem dX11_teach_63 : decode cX11_teach 63 = .ok (.iload_n 1, 1) := by decide +kernel
theorem dX11_teach_64 : decode cX11_teach 64 = .ok (.iaload, 1) := by decide +kernel
theorem dX11_teach_65 : decode cX11_teach 65 = .ok (.iload 4, 2) := by decide +kernel
theorem dX11_teach_67 : decode cX11_teach 67 = .ok (.ior, 1) := by decide +kernel
theorem dX11_teach_68 : decode cX11_teach 68 = .ok (.iload_n 2, 1) := by decide +kernel
theorem dX11_teach_69 : decode cX11_teach 69 = .ok (.invokevirtual 229, 3) := by decide +kernel
theorem dX11_teach_72 : decode cX11_teach 72 = .ok (.iload_n 3, 1) := by decide +kernel
theorem dX11_teach_73 : decode cX11_teach 73 = .ok (.if_icmp .ne 8, 3) := by decide +kernel
theorem dX11_teach_76 : decode cX11_teach 76 = .ok (.iload 4, 2) := by decide +kernel
theorem dX11_teach_78 : decode cX11_teach 78 = .ok (.goto 5, 3) := by decide +kernel
theorem dX11_teach_81 : decode cX11_teach 81 = .ok (.bipush (-5), 2) := by decide +kernel
theorem dX11_teach_83 : decode cX11_teach 83 = .ok (.ireturn, 1) := by decide +kernel
set_option maxRecDepth 20000 in
theorem ggX11_teach_X11_isChild : GoodIn wsX11_teach wsX11_isChild := goodIn_r _ [8, 1, 9, 100, 101, 102, 103, 104, 105, 106, 107, 108, 109, 110, 111, 112, 113, 114, 115, 116, 117, 118, 119, 120, 121, 122, 123, 124, 125, 126, 127, 128, 129, 130, 131, 132, 133, 134, 135] (by decide +kernel) (by decide +kernel)
set_option maxRecDepth 20000 in
theorem gX11_teach_X11_isChild : GoodIn wsX11_teach (wsV RX11 119 RX11 yX11_isChild wsX11_isChild) := goodIn_app (goodIn_of _ (by decide +kernel)) ggX11_teach_X11_isChild
set_option maxRecDepth 20000 in
theorem ggX11_teach_X11_isElder : GoodIn wsX11_teach wsX11_isElder := goodIn_r _ [12] (by decide +kernel) (by decide +kernel)
set_option maxRecDepth 20000 in
theorem gX11_teach_X11_isElder : GoodIn wsX11_teach (va_wsS RX11 141 yX11_isElder wsX11_isElder) := goodIn_app (goodIn_of _ (by decide +kernel)) ggX11_teach_X11_isElder
set_option maxRecDepth 20000 in
theorem ggX11_teach_X11_isWord : GoodIn wsX11_teach wsX11_isWord := goodIn_r _ [15] (by decide +kernel) (by decide +kernel)
set_option maxRecDepth 20000 in
theorem gX11_teach_X11_isWord : GoodIn wsX11_teach (va_wsS RX11 164 yX11_isWord wsX11_isWord) := goodIn_app (goodIn_of _ (by decide +kernel)) ggX11_teach_X11_isWord
set_option maxRecDepth 20000 in
theorem ggX11_teach_X11_says : GoodIn wsX11_teach wsX11_says := goodIn_r _ [19, 20, 21, 22, 23, 24, 25, 26, 27, 28, 29, 30, 7, 31, 32, 33, 34, 35, 36, 37, 38, 39, 40, 41, 42, 43, 44, 45, 46, 47, 48, 49, 50, 51, 52, 53, 54, 55, 56, 57, 58, 59, 60, 61, 62, 63, 64, 65, 66, 67, 68, 69, 70, 71, 72, 73, 74, 75, 76, 77, 78, 79, 80, 81, 82, 83, 84, 85, 86, 87, 88, 89, 90, 91, 92, 93, 94, 95, 96, 97, 98, 99, 100, 101, 102, 103, 104, 105, 106, 107, 108, 109, 110, 111, 112, 113, 114, 115, 116, 117, 118, 119, 120, 121, 122, 123, 124, 125, 126, 127, 128, 129, 130, 131, 132, 133, 134, 135, 136, 137, 138, 139, 140, 141, 142, 143] (by decide +kernel) (by decide +kernel)
set_option maxRecDepth 20000 in
theorem gX11_teach_X11_says : GoodIn wsX11_teach (wsV RX11 229 RX11 yX11_says wsX11_says) := goodIn_app (goodIn_of _ (by decide +kernel)) ggX11_teach_X11_says
def fX11_teach (g : c_G) (a1 : Int32) (a2 : Int32) (a3 : Int32) : Option (c_G × Int32) :=
  (fX11_isChild g a1).bind fun r1 => if r1 = 0 then (some (g, (-1 : Int32))) else (if (fX11_isElder a2) = 0 then (some (g, (-1 : Int32))) else (if (fX11_isWord a3) = 0 then (some (g, (-1 : Int32))) else (if c_in (a1) (6) = true then c_let ((((1 : Int32) <<< (a3 &&& 31)) &&& ((g.1 62 (a1).toNatClampNeg) ^^^ (-1 : Int32)))) fun v7 => c_b2 (fX11_says g 55 a1 ((g.1 61 (a1).toNatClampNeg)) (((g.1 62 (a1).toNatClampNeg) ||| v7)) a2) fun g9 r10 => if r10 = a3 then (some (g9, v7)) else (some (g9, (-5 : Int32))) else none)))
set_option maxRecDepth 100000 in
set_option maxHeartbeats 4000000 in
theorem kX11_teach {l : Launch} {D : va_G} {tc : Nat → ClassId} {ad : Nat → Nat} {A : Nat → Prop} {E : (Nat → Nat) × (Nat → Nat) × Nat} (hD : c_D A ad TC) {a1 : Int32} {a2 : Int32} {a3 : Int32} {g g' : c_G} {r : Int32} (hf : fX11_teach g a1 a2 a3 = some (g', r)) : c_Mi l yX11_teach wsX11_teach (c_rm 4) D tc ad A E TC ([.ref (ad 0), .int a1, .int a2, .int a3] : List Value) g g' r := by
  refine c_ofW (bytes := cX11_teach) (maxL := 5) (ret := (some .int)) (by decide) rfl (Nat.le_of_ble_eq_true rfl) ?_
  intro p e s m below meth c ls C hP hS hl
  unfold fX11_teach at hf
  obtain ⟨hx, hb, hr, hml, hts, hown, hlk, hK, hE⟩ := id C
  have hl : lv_has ls 5 [(0, .ref (ad 0)), (1, .int a1), (2, .int a2), (3, .int a3)] := hl
  refine lv_aload_n hx hb dX11_teach_0 rfl (lv_at hl 0 rfl) ?_
  refine lv_iload_n hx hb dX11_teach_1 rfl (lv_at hl 1 rfl) ?_
  obtain ⟨r1, hc2, hf⟩ := c_bd hf
  refine c_goi (va_runV (As := [.int a1]) (rest := []) ⟨hx, hb, hml, hown, hts⟩ (kX11_isChild hD hc2) (cwV 1 hts gX11_teach_X11_isChild rfl rfl rfl (by decide +kernel) ⟨Nat.le_of_ble_eq_true rfl, Nat.le_of_ble_eq_true rfl⟩) (c_preV hK hP hE hS tC0 rfl) rfl rfl hl.1 rfl (lv_room (Nat.le_of_ble_eq_true rfl)) dX11_teach_2 ⟨Nat.zero_le _, Nat.zero_le _⟩) hS (fun H locs hP hS => ?_)
  refine lv_if_eq (tgt := 22) hx hb dX11_teach_5 (by decide) (fun c3 => ?_) (fun c3 => ?_)
  · have hf := c_it c3 hf
    refine lv_iconst (v := (-1 : Int32)) hx hb dX11_teach_22 (by decide) ?_
    exact c_iret hx hb hr hlk hP hS rfl (c_inj hf) dX11_teach_23
  · have hf := c_ie c3 hf
    refine lv_iload_n hx hb dX11_teach_8 rfl (lv_at hl 2 rfl) ?_
    refine c_goi (va_runS (As := [.int a2]) (rest := []) ⟨hx, hb, hml, hown, hts⟩ (kX11_isElder (T := TC) (g := g) rfl) (va_cwS 1 hts gX11_teach_X11_isElder rfl rfl rfl (by decide +kernel) ⟨Nat.le_of_ble_eq_true rfl, Nat.le_of_ble_eq_true rfl⟩) (c_preS hK hP hE hS) rfl rfl hl.1 rfl (lv_room (Nat.le_of_ble_eq_true rfl)) dX11_teach_9 ⟨Nat.zero_le _, Nat.zero_le _⟩) hS (fun H locs hP hS => ?_)
    refine lv_if_eq (tgt := 22) hx hb dX11_teach_12 (by decide) (fun c4 => ?_) (fun c4 => ?_)
    · have hf := c_it c4 hf
      refine lv_iconst (v := (-1 : Int32)) hx hb dX11_teach_22 (by decide) ?_
      exact c_iret hx hb hr hlk hP hS rfl (c_inj hf) dX11_teach_23
    · have hf := c_ie c4 hf
      refine lv_iload_n hx hb dX11_teach_15 rfl (lv_at hl 3 rfl) ?_
      refine c_goi (va_runS (As := [.int a3]) (rest := []) ⟨hx, hb, hml, hown, hts⟩ (kX11_isWord (T := TC) (g := g) rfl) (va_cwS 1 hts gX11_teach_X11_isWord rfl rfl rfl (by decide +kernel) ⟨Nat.le_of_ble_eq_true rfl, Nat.le_of_ble_eq_true rfl⟩) (c_preS hK hP hE hS) rfl rfl hl.1 rfl (lv_room (Nat.le_of_ble_eq_true rfl)) dX11_teach_16 ⟨Nat.zero_le _, Nat.zero_le _⟩) hS (fun H locs hP hS => ?_)
      refine lv_if_ne (tgt := 24) hx hb dX11_teach_19 (by decide) (fun c5 => ?_) (fun c5 => ?_)
      · have hf := c_ie c5 hf
        refine lv_iconst (v := (1 : Int32)) hx hb dX11_teach_24 (by decide) ?_
        refine lv_iload_n hx hb dX11_teach_25 rfl (lv_at hl 3 rfl) ?_
        refine lv_ishl hx hb dX11_teach_26 ?_
        refine lv_aload_n hx hb dX11_teach_27 rfl (lv_at hl 0 rfl) ?_
        refine c_get hx hb hts i_X11_teach_X11 hown hK hP 0 tC0 rfl 5 (by decide) (hts _ (List.mem_of_getElem? (i := 1) rfl)) (fun _ h9 => h9) rfl (v := .ref (ad 55)) rfl dX11_teach_28 ?_
        refine c_get hx hb hts i_X11_teach_X7 hown hK hP 55 tC55 rfl 9 (by decide) (hts _ (List.mem_of_getElem? (i := 2) rfl)) (fun _ h9 => h9) rfl (v := .ref (ad 62)) rfl dX11_teach_31 ?_
        refine lv_iload_n hx hb dX11_teach_34 rfl (lv_at hl 1 rfl) ?_
        obtain ⟨hi6, hf⟩ := c_gd hf
        refine c_iald (j := (a1).toNatClampNeg) hx hb hK hP 62 tC62 rfl (c_inV hi6) dX11_teach_35 ?_
        refine lv_iconst (v := (-1 : Int32)) hx hb dX11_teach_36 (by decide) ?_
        refine lv_ixor hx hb dX11_teach_37 ?_
        refine lv_iand hx hb dX11_teach_38 ?_
        obtain ⟨v7, ev7, hf⟩ := c_letE hf
        refine c_topi ev7 ?_
        refine lv_istore (lv' := [(4, .int v7), (0, .ref (ad 0)), (1, .int a1), (2, .int a2), (3, .int a3)]) hx hb dX11_teach_39 hl (by decide) rfl (fun ls hl => ?_)
        refine lv_aload_n hx hb dX11_teach_41 rfl (lv_at hl 1 rfl) ?_
        refine lv_aload_n hx hb dX11_teach_42 rfl (lv_at hl 1 rfl) ?_
        refine c_get hx hb hts i_X11_teach_X11 hown hK hP 0 tC0 rfl 5 (by decide) (hts _ (List.mem_of_getElem? (i := 1) rfl)) (fun _ h9 => h9) rfl (v := .ref (ad 55)) rfl dX11_teach_43 ?_
        refine lv_iload_n hx hb dX11_teach_46 rfl (lv_at hl 2 rfl) ?_
        refine lv_aload_n hx hb dX11_teach_47 rfl (lv_at hl 1 rfl) ?_
        refine c_get hx hb hts i_X11_teach_X11 hown hK hP 0 tC0 rfl 5 (by decide) (hts _ (List.mem_of_getElem? (i := 1) rfl)) (fun _ h9 => h9) rfl (v := .ref (ad 55)) rfl dX11_teach_48 ?_
        refine c_get hx hb hts i_X11_teach_X7 hown hK hP 55 tC55 rfl 8 (by decide) (hts _ (List.mem_of_getElem? (i := 3) rfl)) (fun _ h9 => h9) rfl (v := .ref (ad 61)) rfl dX11_teach_51 ?_
        refine lv_iload_n hx hb dX11_teach_54 rfl (lv_at hl 2 rfl) ?_
        refine c_iald (j := (a1).toNatClampNeg) hx hb hK hP 61 tC61 rfl (c_inV hi6) dX11_teach_55 ?_
        refine lv_aload_n hx hb dX11_teach_56 rfl (lv_at hl 1 rfl) ?_
        refine c_get hx hb hts i_X11_teach_X11 hown hK hP 0 tC0 rfl 5 (by decide) (hts _ (List.mem_of_getElem? (i := 1) rfl)) (fun _ h9 => h9) rfl (v := .ref (ad 55)) rfl dX11_teach_57 ?_
        refine c_get hx hb hts i_X11_teach_X7 hown hK hP 55 tC55 rfl 9 (by decide) (hts _ (List.mem_of_getElem? (i := 2) rfl)) (fun _ h9 => h9) rfl (v := .ref (ad 62)) rfl dX11_teach_60 ?_
        refine lv_iload_n hx hb dX11_teach_63 rfl (lv_at hl 2 rfl) ?_
        refine c_iald (j := (a1).toNatClampNeg) hx hb hK hP 62 tC62 rfl (c_inV hi6) dX11_teach_64 ?_
        refine lv_iload hx hb dX11_teach_65 (lv_at hl 0 rfl) ?_
        refine lv_ior hx hb dX11_teach_67 ?_
        refine lv_iload_n hx hb dX11_teach_68 rfl (lv_at hl 3 rfl) ?_
        obtain ⟨g9, r10, hc8, hf⟩ := c_b2E hf
        refine c_goi (va_runV (As := [.ref (ad 55), .int a1, .int (g.1 61 (a1).toNatClampNeg), .int ((g.1 62 (a1).toNatClampNeg) ||| v7), .int a2]) (rest := []) ⟨hx, hb, hml, hown, hts⟩ (kX11_says hD hc8) (cwV 5 hts gX11_teach_X11_says rfl rfl rfl (by decide +kernel) ⟨Nat.le_of_ble_eq_true rfl, Nat.le_of_ble_eq_true rfl⟩) (c_preV hK hP hE hS tC0 rfl) rfl rfl hl.1 rfl (lv_room (Nat.le_of_ble_eq_true rfl)) dX11_teach_69 ⟨Nat.zero_le _, Nat.zero_le _⟩) hS (fun H locs hP hS => ?_)
        refine lv_iload_n hx hb dX11_teach_72 rfl (lv_at hl 4 rfl) ?_
        refine lv_icmp_ne (tgt := 81) hx hb dX11_teach_73 (by decide) (fun c11 => ?_) (fun c11 => ?_)
        · have hf := c_ie c11 hf
          refine lv_bipush (v := (-5 : Int32)) hx hb dX11_teach_81 (by decide) ?_
          exact c_iret hx hb hr hlk hP hS rfl (c_inj hf) dX11_teach_83
        · have hf := c_it c11 hf
          refine lv_iload hx hb dX11_teach_76 (lv_at hl 0 rfl) ?_
          refine lv_goto (tgt := 83) hx hb dX11_teach_78 (by decide) ?_
          exact c_iret hx hb hr hlk hP hS rfl (c_inj hf) dX11_teach_83
      · have hf := c_it c5 hf
        refine lv_iconst (v := (-1 : Int32)) hx hb dX11_teach_22 (by decide) ?_
        exact c_iret hx hb hr hlk hP hS rfl (c_inj hf) dX11_teach_23
theorem i_X11_hear_X7 : ∀ w ∈ u_ws RX7 TX7 17, w ∈ wsX11_hear := c_inP [47, 48, 49, 50, 51, 52, 53, 54, 55, 56, 57, 58, 59, 60, 61, 62, 63] (by decide +kernel)
theorem i_X11_hear_X11 : ∀ w ∈ u_ws RX11 TX11 19, w ∈ wsX11_hear := c_inP [28, 29, 30, 31, 32, 33, 34, 35, 36, 37, 38, 39, 40, 41, 42, 43, 44, 45, 46] (by decide +kernel)
theorem dX11_hear_0 : decode cX11_hear 0 = .ok (.iload_n 1, 1) := by decide +kernel
theorem dX11_hear_1 : decode cX11_hear 1 = .ok (.iconst (-1), 1) := by decide +kernel
theorem dX11_hear_2 : decode cX11_hear 2 = .ok (.if_icmp .ne 14, 3) := by decide +kernel
theorem dX11_hear_5 : decode cX11_hear 5 = .ok (.aload_n 0, 1) := by decide +kernel
theorem dX11_hear_6 : decode cX11_hear 6 = .ok (.getfield 88, 3) := by decide +kernel
theorem dX11_hear_9 : decode cX11_hear 9 = .ok (.getfield 233, 3) := by decide +kernel
theorem dX11_hear_12 : decode cX11_hear 12 = .ok (.invokevirtual 237, 3) := by decide +kernel
theorem dX11_hear_15 : decode cX11_hear 15 = .ok (.ireturn, 1) := by decide +kernel
theorem dX11_hear_16 : decode cX11_hear 16 = .ok (.aload_n 0, 1) := by decide +kernel
theorem dX11_hear_17 : decode cX11_hear 17 = .ok (.iload_n 1, 1) := by decide +kernel
theorem dX11_hear_18 : decode cX11_hear 18 = .ok (.invokevirtual 119, 3) := by decide +kernel
theorem dX11_hear_21 : decode cX11_hear 21 = .ok (.ifCond .eq 22, 3) := by decide +kernel
theorem dX11_hear_24 : decode cX11_hear 24 = .ok (.iload_n 2, 1) := by decide +kernel
theorem dX11_hear_25 : decode cX11_hear 25 = .ok (.invokestatic 141, 3) := by decide +kernel
theorem dX11_hear_28 : decode cX11_hear 28 = .ok (.ifCond .eq 15, 3) := by decide +kernel
theorem dX11_hear_31 : decode cX11_hear 31 = .ok (.iload_n 3, 1) := by decide +kernel
theorem dX11_hear_32 : decode cX11_hear 32 = .ok (.iconst (-1), 1) := by decide +kernel
theorem dX11_hear_33 : decode cX11_hear 33 = .ok (.if_icmp .eq 12, 3) := by decide +kernel
theorem dX11_hear_36 : decode cX11_hear 36 = .ok (.iload_n 3, 1) := by decide +kernel
theorem dX11_hear_37 : decode cX11_hear 37 = .ok (.invokestatic 164, 3) := by decide +kernel
theorem dX11_hear_40 : decode cX11_hear 40 = .ok (.ifCond .ne 5, 3) := by decide +kernel
theorem dX11_hear_43 : decode cX11_hear 43 = .ok (.iconst (-1), 1) := by decide +kernel
theorem dX11_hear_44 : decode cX11_hear 44 = .ok (.ireturn, 1) := by decide +kernel
theorem dX11_hear_45 : decode cX11_hear 45 = .ok (.aload_n 0, 1) := by decide +kernel
theorem dX11_hear_46 : decode cX11_hear 46 = .ok (.getfield 88, 3) := by decide +kernel
theorem dX11_hear_49 : decode cX11_hear 49 = .ok (.getfield 233, 3) := by decide +kernel
theorem dX11_hear_52 : decode cX11_hear 52 = .ok (.iload_n 1, 1) := by decide +kernel
theorem dX11_hear_53 : decode cX11_hear 53 = .ok (.iload_n 2, 1) := by decide +kernel
theorem dX11_hear_54 : decode cX11_hear 54 = .ok (.iload_n 3, 1) := by decide +kernel
theorem dX11_hear_55 : decode cX11_hear 55 = .ok (.ifCond .ge 8, 3) := by decide +kernel
theorem dX11_hear_58 : decode cX11_hear 58 = .ok (.bipush (-5), 2) := by decide +kernel
theorem dX11_hear_60 : decode cX11_hear 60 = .ok (.goto 4, 3) := by decide +kernel
theorem dX11_hear_63 : decode cX11_hear 63 = .ok (.iload_n 3, 1) := by decide +kernel
theorem dX11_hear_64 : decode cX11_hear 64 = .ok (.invokevirtual 242, 3) := by decide +kernel
theorem dX11_hear_67 : decode cX11_hear 67 = .ok (.ireturn, 1) := by decide +kernel
set_option maxRecDepth 20000 in
theorem ggX11_hear_X5_clear : GoodIn wsX11_hear wsX5_clear := goodIn_r _ [7, 8, 64, 65, 66, 67] (by decide +kernel) (by decide +kernel)
set_option maxRecDepth 20000 in
theorem gX11_hear_X5_clear : GoodIn wsX11_hear (wsV RX11 237 RX5 yX5_clear wsX5_clear) := goodIn_app (goodIn_of _ (by decide +kernel)) ggX11_hear_X5_clear
set_option maxRecDepth 20000 in
theorem ggX11_hear_X11_isChild : GoodIn wsX11_hear wsX11_isChild := goodIn_r _ [13, 1, 14, 28, 29, 30, 31, 32, 33, 34, 35, 36, 37, 38, 39, 40, 41, 42, 43, 44, 45, 46, 47, 48, 49, 50, 51, 52, 53, 54, 55, 56, 57, 58, 59, 60, 61, 62, 63] (by decide +kernel) (by decide +kernel)
set_option maxRecDepth 20000 in
theorem gX11_hear_X11_isChild : GoodIn wsX11_hear (wsV RX11 119 RX11 yX11_isChild wsX11_isChild) := goodIn_app (goodIn_of _ (by decide +kernel)) ggX11_hear_X11_isChild
set_option maxRecDepth 20000 in
theorem ggX11_hear_X11_isElder : GoodIn wsX11_hear wsX11_isElder := goodIn_r _ [17] (by decide +kernel) (by decide +kernel)
set_option maxRecDepth 20000 in
theorem gX11_hear_X11_isElder : GoodIn wsX11_hear (va_wsS RX11 141 yX11_isElder wsX11_isElder) := goodIn_app (goodIn_of _ (by decide +kernel)) ggX11_hear_X11_isElder
set_option maxRecDepth 20000 in
theorem ggX11_hear_X11_isWord : GoodIn wsX11_hear wsX11_isWord := goodIn_r _ [20] (by decide +kernel) (by decide +kernel)
set_option maxRecDepth 20000 in
theorem gX11_hear_X11_isWord : GoodIn wsX11_hear (va_wsS RX11 164 yX11_isWord wsX11_isWord) := goodIn_app (goodIn_of _ (by decide +kernel)) ggX11_hear_X11_isWord
set_option maxRecDepth 20000 in
theorem ggX11_hear_X5_add : GoodIn wsX11_hear wsX5_add := goodIn_r _ [24, 8, 25, 26, 27, 64, 65, 66, 67] (by decide +kernel) (by decide +kernel)
set_option maxRecDepth 20000 in
theorem gX11_hear_X5_add : GoodIn wsX11_hear (wsV RX11 242 RX5 yX5_add wsX5_add) := goodIn_app (goodIn_of _ (by decide +kernel)) ggX11_hear_X5_add
def fX11_hear_64  (a1 : Int32) (a2 : Int32) (a3 : Int32) (y1 : Int32) (y2 : Int32) (y3 : Int32) (g : c_G) : Option (c_G × Int32) :=
  c_b2 (fX5_add g y1 y2 y3) fun g64002 r64003 => some (g64002, r64003)
set_option maxRecDepth 100000 in
set_option maxHeartbeats 4000000 in
theorem jX11_hear_64 {p : Program} {l : Launch} {e : Env} {s : State} {m : MethodId} {below : List Frame} {meth : Method} {c : Code} {D : va_G} {tc : Nat → ClassId} {ad : Nat → Nat} {A : Nat → Prop} {E : (Nat → Nat) × (Nat → Nat) × Nat} {a1 : Int32} {a2 : Int32} {a3 : Int32} {g' : c_G} {r : Int32} (C : c_C p s m meth c D tc A E RX11 wsX11_hear cX11_hear 4 (some .int) ([.ref (ad 0), .int a1, .int a2, .int a3] : List Value).toArray) (hD : c_D A ad TC)  : ∀ (y1 : Int32) (y2 : Int32) (y3 : Int32) (g : c_G), fX11_hear_64 a1 a2 a3 y1 y2 y3 g = some (g', r) → ∀ (H : Heap) (locs : List Loc), va_P D vwCl (c_ws tc ad TC g) H → va_S A s.heap H locs → ∀ ls : Array Slot, lv_has ls 4 [] → W p l e (c_rm 1) s m ([.ref (ad 0), .int a1, .int a2, .int a3] : List Value).toArray below meth c H locs 0 0 (MQ below (va_Qi (fun (x : Int32) (_ : Unit) => x = r) (fun _ t => va_P D vwCl (c_ws tc ad TC g') t.heap) A) ([.ref (ad 0), .int a1, .int a2, .int a3] : List Value).toArray s 0 0 A) (F0 m 64 ls [.int y3, .int y2, .int y1, .ref (ad 66)]) := by
  obtain ⟨hx, hb, hr, hml, hts, hown, hlk, hK, hE⟩ := id C
  intro y1 y2 y3 g hf H locs hP hS ls hl
  unfold fX11_hear_64 at hf
  obtain ⟨g64002, r64003, hc64001, hf⟩ := c_b2E hf
  refine c_goi (va_runV (As := [.int y1, .int y2, .int y3]) (rest := []) ⟨hx, hb, hml, hown, hts⟩ (kX5_add hD hc64001) (cwV 3 hts gX11_hear_X5_add rfl rfl rfl (by decide +kernel) ⟨Nat.le_of_ble_eq_true rfl, Nat.le_of_ble_eq_true rfl⟩) (c_preV hK hP hE hS tC66 rfl) rfl rfl hl.1 rfl (lv_room (Nat.le_of_ble_eq_true rfl)) dX11_hear_64 ⟨Nat.zero_le _, Nat.zero_le _⟩) hS (fun H locs hP hS => ?_)
  exact c_iret hx hb hr hlk hP hS rfl (c_inj hf) dX11_hear_67
def fX11_hear_45  (a1 : Int32) (a2 : Int32) (a3 : Int32) (x1 : Int32) (x2 : Int32) (x3 : Int32) (g : c_G) : Option (c_G × Int32) :=
  if 0 ≤ x3 then (fX11_hear_64 a1 a2 a3 x1 x2 x3 g) else (fX11_hear_64 a1 a2 a3 x1 x2 ((-5 : Int32)) g)
set_option maxRecDepth 100000 in
set_option maxHeartbeats 4000000 in
theorem jX11_hear_45 {p : Program} {l : Launch} {e : Env} {s : State} {m : MethodId} {below : List Frame} {meth : Method} {c : Code} {D : va_G} {tc : Nat → ClassId} {ad : Nat → Nat} {A : Nat → Prop} {E : (Nat → Nat) × (Nat → Nat) × Nat} {a1 : Int32} {a2 : Int32} {a3 : Int32} {g' : c_G} {r : Int32} (C : c_C p s m meth c D tc A E RX11 wsX11_hear cX11_hear 4 (some .int) ([.ref (ad 0), .int a1, .int a2, .int a3] : List Value).toArray) (hD : c_D A ad TC)  : ∀ (x1 : Int32) (x2 : Int32) (x3 : Int32) (g : c_G), fX11_hear_45 a1 a2 a3 x1 x2 x3 g = some (g', r) → ∀ (H : Heap) (locs : List Loc), va_P D vwCl (c_ws tc ad TC g) H → va_S A s.heap H locs → ∀ ls : Array Slot, lv_has ls 4 [(0, .ref (ad 0)), (1, .int x1), (2, .int x2), (3, .int x3)] → W p l e (c_rm 1) s m ([.ref (ad 0), .int a1, .int a2, .int a3] : List Value).toArray below meth c H locs 0 0 (MQ below (va_Qi (fun (x : Int32) (_ : Unit) => x = r) (fun _ t => va_P D vwCl (c_ws tc ad TC g') t.heap) A) ([.ref (ad 0), .int a1, .int a2, .int a3] : List Value).toArray s 0 0 A) (F0 m 45 ls []) := by
  obtain ⟨hx, hb, hr, hml, hts, hown, hlk, hK, hE⟩ := id C
  intro x1 x2 x3 g hf H locs hP hS ls hl
  unfold fX11_hear_45 at hf
  refine lv_aload_n hx hb dX11_hear_45 rfl (lv_at hl 0 rfl) ?_
  refine c_get hx hb hts i_X11_hear_X11 hown hK hP 0 tC0 rfl 5 (by decide) (hts _ (List.mem_of_getElem? (i := 1) rfl)) (fun _ h9 => h9) rfl (v := .ref (ad 55)) rfl dX11_hear_46 ?_
  refine c_get hx hb hts i_X11_hear_X7 hown hK hP 55 tC55 rfl 13 (by decide) (hts _ (List.mem_of_getElem? (i := 2) rfl)) (fun _ h9 => h9) rfl (v := .ref (ad 66)) rfl dX11_hear_49 ?_
  refine lv_iload_n hx hb dX11_hear_52 rfl (lv_at hl 1 rfl) ?_
  refine lv_iload_n hx hb dX11_hear_53 rfl (lv_at hl 2 rfl) ?_
  refine lv_iload_n hx hb dX11_hear_54 rfl (lv_at hl 3 rfl) ?_
  refine lv_if_ge (tgt := 63) hx hb dX11_hear_55 (by decide) (fun c45001 => ?_) (fun c45001 => ?_)
  · have hf := c_it c45001 hf
    refine lv_iload_n hx hb dX11_hear_63 rfl (lv_at hl 3 rfl) ?_
    exact jX11_hear_64 C hD x1 x2 x3 g hf _ _ hP hS _ (lv_sub hl [] rfl)
  · have hf := c_ie c45001 hf
    refine lv_bipush (v := (-5 : Int32)) hx hb dX11_hear_58 (by decide) ?_
    refine lv_goto (tgt := 64) hx hb dX11_hear_60 (by decide) ?_
    exact jX11_hear_64 C hD x1 x2 ((-5 : Int32)) g hf _ _ hP hS _ (lv_sub hl [] rfl)
def fX11_hear (g : c_G) (a1 : Int32) (a2 : Int32) (a3 : Int32) : Option (c_G × Int32) :=
  if a1 = (-1 : Int32) then (c_b2 (fX5_clear g) fun g9 r10 => some (g9, r10)) else ((fX11_isChild g a1).bind fun r2 => if r2 = 0 then (some (g, (-1 : Int32))) else (if (fX11_isElder a2) = 0 then (some (g, (-1 : Int32))) else (if a3 = (-1 : Int32) then (fX11_hear_45 a1 a2 a3 a1 a2 a3 g) else (if (fX11_isWord a3) = 0 then (some (g, (-1 : Int32))) else (fX11_hear_45 a1 a2 a3 a1 a2 a3 g)))))
set_option maxRecDepth 100000 in
set_option maxHeartbeats 4000000 in
theorem kX11_hear {l : Launch} {D : va_G} {tc : Nat → ClassId} {ad : Nat → Nat} {A : Nat → Prop} {E : (Nat → Nat) × (Nat → Nat) × Nat} (hD : c_D A ad TC) {a1 : Int32} {a2 : Int32} {a3 : Int32} {g g' : c_G} {r : Int32} (hf : fX11_hear g a1 a2 a3 = some (g', r)) : c_Mi l yX11_hear wsX11_hear (c_rm 1) D tc ad A E TC ([.ref (ad 0), .int a1, .int a2, .int a3] : List Value) g g' r := by
  refine c_ofW (bytes := cX11_hear) (maxL := 4) (ret := (some .int)) (by decide) rfl (Nat.le_of_ble_eq_true rfl) ?_
  intro p e s m below meth c ls C hP hS hl
  unfold fX11_hear at hf
  obtain ⟨hx, hb, hr, hml, hts, hown, hlk, hK, hE⟩ := id C
  have hl : lv_has ls 4 [(0, .ref (ad 0)), (1, .int a1), (2, .int a2), (3, .int a3)] := hl
  refine lv_iload_n hx hb dX11_hear_0 rfl (lv_at hl 1 rfl) ?_
  refine lv_iconst (v := (-1 : Int32)) hx hb dX11_hear_1 (by decide) ?_
  refine lv_icmp_ne (tgt := 16) hx hb dX11_hear_2 (by decide) (fun c1 => ?_) (fun c1 => ?_)
  · have hf := c_ie c1 hf
    refine lv_aload_n hx hb dX11_hear_16 rfl (lv_at hl 0 rfl) ?_
    refine lv_iload_n hx hb dX11_hear_17 rfl (lv_at hl 1 rfl) ?_
    obtain ⟨r2, hc3, hf⟩ := c_bd hf
    refine c_goi (va_runV (As := [.int a1]) (rest := []) ⟨hx, hb, hml, hown, hts⟩ (kX11_isChild hD hc3) (cwV 1 hts gX11_hear_X11_isChild rfl rfl rfl (by decide +kernel) ⟨Nat.le_of_ble_eq_true rfl, Nat.le_of_ble_eq_true rfl⟩) (c_preV hK hP hE hS tC0 rfl) rfl rfl hl.1 rfl (lv_room (Nat.le_of_ble_eq_true rfl)) dX11_hear_18 ⟨Nat.zero_le _, Nat.zero_le _⟩) hS (fun H locs hP hS => ?_)
    refine lv_if_eq (tgt := 43) hx hb dX11_hear_21 (by decide) (fun c4 => ?_) (fun c4 => ?_)
    · have hf := c_it c4 hf
      refine lv_iconst (v := (-1 : Int32)) hx hb dX11_hear_43 (by decide) ?_
      exact c_iret hx hb hr hlk hP hS rfl (c_inj hf) dX11_hear_44
    · have hf := c_ie c4 hf
      refine lv_iload_n hx hb dX11_hear_24 rfl (lv_at hl 2 rfl) ?_
      refine c_goi (va_runS (As := [.int a2]) (rest := []) ⟨hx, hb, hml, hown, hts⟩ (kX11_isElder (T := TC) (g := g) rfl) (va_cwS 1 hts gX11_hear_X11_isElder rfl rfl rfl (by decide +kernel) ⟨Nat.le_of_ble_eq_true rfl, Nat.le_of_ble_eq_true rfl⟩) (c_preS hK hP hE hS) rfl rfl hl.1 rfl (lv_room (Nat.le_of_ble_eq_true rfl)) dX11_hear_25 ⟨Nat.zero_le _, Nat.zero_le _⟩) hS (fun H locs hP hS => ?_)
      refine lv_if_eq (tgt := 43) hx hb dX11_hear_28 (by decide) (fun c5 => ?_) (fun c5 => ?_)
      · have hf := c_it c5 hf
        refine lv_iconst (v := (-1 : Int32)) hx hb dX11_hear_43 (by decide) ?_
        exact c_iret hx hb hr hlk hP hS rfl (c_inj hf) dX11_hear_44
      · have hf := c_ie c5 hf
        refine lv_iload_n hx hb dX11_hear_31 rfl (lv_at hl 3 rfl) ?_
        refine lv_iconst (v := (-1 : Int32)) hx hb dX11_hear_32 (by decide) ?_
        refine lv_icmp_eq (tgt := 45) hx hb dX11_hear_33 (by decide) (fun c6 => ?_) (fun c6 => ?_)
        · have hf := c_it c6 hf
          exact jX11_hear_45 C hD a1 a2 a3 g hf _ _ hP hS _ (lv_sub hl [0, 1, 2, 3] rfl)
        · have hf := c_ie c6 hf
          refine lv_iload_n hx hb dX11_hear_36 rfl (lv_at hl 3 rfl) ?_
          refine c_goi (va_runS (As := [.int a3]) (rest := []) ⟨hx, hb, hml, hown, hts⟩ (kX11_isWord (T := TC) (g := g) rfl) (va_cwS 1 hts gX11_hear_X11_isWord rfl rfl rfl (by decide +kernel) ⟨Nat.le_of_ble_eq_true rfl, Nat.le_of_ble_eq_true rfl⟩) (c_preS hK hP hE hS) rfl rfl hl.1 rfl (lv_room (Nat.le_of_ble_eq_true rfl)) dX11_hear_37 ⟨Nat.zero_le _, Nat.zero_le _⟩) hS (fun H locs hP hS => ?_)
          refine lv_if_ne (tgt := 45) hx hb dX11_hear_40 (by decide) (fun c7 => ?_) (fun c7 => ?_)
          · have hf := c_ie c7 hf
            exact jX11_hear_45 C hD a1 a2 a3 g hf _ _ hP hS _ (lv_sub hl [0, 1, 2, 3] rfl)
          · have hf := c_it c7 hf
            refine lv_iconst (v := (-1 : Int32)) hx hb dX11_hear_43 (by decide) ?_
            exact c_iret hx hb hr hlk hP hS rfl (c_inj hf) dX11_hear_44
  · have hf := c_it c1 hf
    refine lv_aload_n hx hb dX11_hear_5 rfl (lv_at hl 0 rfl) ?_
    refine c_get hx hb hts i_X11_hear_X11 hown hK hP 0 tC0 rfl 5 (by decide) (hts _ (List.mem_of_getElem? (i := 1) rfl)) (fun _ h9 => h9) rfl (v := .ref (ad 55)) rfl dX11_hear_6 ?_
    refine c_get hx hb hts i_X11_hear_X7 hown hK hP 55 tC55 rfl 13 (by decide) (hts _ (List.mem_of_getElem? (i := 2) rfl)) (fun _ h9 => h9) rfl (v := .ref (ad 66)) rfl dX11_hear_9 ?_
    obtain ⟨g9, r10, hc8, hf⟩ := c_b2E hf
    refine c_goi (va_runV (As := []) (rest := []) ⟨hx, hb, hml, hown, hts⟩ (kX5_clear hD hc8) (cwV 0 hts gX11_hear_X5_clear rfl rfl rfl (by decide +kernel) ⟨Nat.le_of_ble_eq_true rfl, Nat.le_of_ble_eq_true rfl⟩) (c_preV hK hP hE hS tC66 rfl) rfl rfl hl.1 rfl (lv_room (Nat.le_of_ble_eq_true rfl)) dX11_hear_12 ⟨Nat.zero_le _, Nat.zero_le _⟩) hS (fun H locs hP hS => ?_)
    exact c_iret hx hb hr hlk hP hS rfl (c_inj hf) dX11_hear_15
theorem i_X11_heardIsSo_X5 : ∀ w ∈ u_ws RX5 TX5 4, w ∈ wsX11_heardIsSo := c_inP [129, 130, 131, 132] (by decide +kernel)
theorem i_X11_heardIsSo_X7 : ∀ w ∈ u_ws RX7 TX7 17, w ∈ wsX11_heardIsSo := c_inP [112, 113, 114, 115, 116, 117, 118, 119, 120, 121, 122, 123, 124, 125, 126, 127, 128] (by decide +kernel)
theorem i_X11_heardIsSo_X11 : ∀ w ∈ u_ws RX11 TX11 19, w ∈ wsX11_heardIsSo := c_inP [93, 94, 95, 96, 97, 98, 99, 100, 101, 102, 103, 104, 105, 106, 107, 108, 109, 110, 111] (by decide +kernel)
theorem dX11_heardIsSo_0 : decode cX11_heardIsSo 0 = .ok (.iconst 0, 1) := by decide +kernel
theorem dX11_heardIsSo_1 : decode cX11_heardIsSo 1 = .ok (.istore_n 3, 1) := by decide +kernel
theorem dX11_heardIsSo_2 : decode cX11_heardIsSo 2 = .ok (.iload_n 3, 1) := by decide +kernel
theorem dX11_heardIsSo_3 : decode cX11_heardIsSo 3 = .ok (.aload_n 0, 1) := by decide +kernel
theorem dX11_heardIsSo_4 : decode cX11_heardIsSo 4 = .ok (.getfield 88, 3) := by decide +kernel
theorem dX11_heardIsSo_7 : decode cX11_heardIsSo 7 = .ok (.getfield 233, 3) := by decide +kernel
theorem dX11_heardIsSo_10 : decode cX11_heardIsSo 10 = .ok (.getfield 267, 3) := by decide +kernel
theorem dX11_heardIsSo_13 : decode cX11_heardIsSo 13 = .ok (.if_icmp .ge 80, 3) := by decide +kernel
theorem dX11_heardIsSo_16 : decode cX11_heardIsSo 16 = .ok (.aload_n 0, 1) := by decide +kernel
theorem dX11_heardIsSo_17 : decode cX11_heardIsSo 17 = .ok (.getfield 88, 3) := by decide +kernel
theorem dX11_heardIsSo_20 : decode cX11_heardIsSo 20 = .ok (.getfield 233, 3) := by decide +kernel
theorem dX11_heardIsSo_23 : decode cX11_heardIsSo 23 = .ok (.getfield 273, 3) := by decide +kernel
theorem dX11_heardIsSo_26 : decode cX11_heardIsSo 26 = .ok (.iload_n 3, 1) := by decide +kernel
theorem dX11_heardIsSo_27 : decode cX11_heardIsSo 27 = .ok (.iaload, 1) := by decide +kernel
theorem dX11_heardIsSo_28 : decode cX11_heardIsSo 28 = .ok (.iload_n 1, 1) := by decide +kernel
theorem dX11_heardIsSo_29 : decode cX11_heardIsSo 29 = .ok (.if_icmp .eq 6, 3) := by decide +kernel
theorem dX11_heardIsSo_32 : decode cX11_heardIsSo 32 = .ok (.goto 55, 3) := by decide +kernel
theorem dX11_heardIsSo_35 : decode cX11_heardIsSo 35 = .ok (.aload_n 0, 1) := by decide +kernel
theorem dX11_heardIsSo_36 : decode cX11_heardIsSo 36 = .ok (.aload_n 0, 1) := by decide +kernel
theorem dX11_heardIsSo_37 : decode cX11_heardIsSo 37 = .ok (.getfield 88, 3) := by decide +kernel
theorem dX11_heardIsSo_40 : decode cX11_heardIsSo 40 = .ok (.iload_n 1, 1) := by decide +kernel
theorem dX11_heardIsSo_41 : decode cX11_heardIsSo 41 = .ok (.iload_n 2, 1) := by decide +kernel
theorem dX11_heardIsSo_42 : decode cX11_heardIsSo 42 = .ok (.aload_n 0, 1) := by decide +kernel
theorem dX11_heardIsSo_43 : decode cX11_heardIsSo 43 = .ok (.getfield 88, 3) := by decide +kernel
theorem dX11_heardIsSo_46 : decode cX11_heardIsSo 46 = .ok (.getfield 128, 3) := by decide +kernel
theorem dX11_heardIsSo_49 : decode cX11_heardIsSo 49 = .ok (.iload_n 1, 1) := by decide +kernel
theorem dX11_heardIsSo_50 : decode cX11_heardIsSo 50 = .ok (.iaload, 1) := by decide +kernel
theorem dX11_heardIsSo_51 : decode cX11_heardIsSo 51 = .ok (.aload_n 0, 1) := by decide +kernel
theorem dX11_heardIsSo_52 : decode cX11_heardIsSo 52 = .ok (.getfield 88, 3) := by decide +kernel
theorem dX11_heardIsSo_55 : decode cX11_heardIsSo 55 = .ok (.getfield 233, 3) := by decide +kernel
theorem dX11_heardIsSo_58 : decode cX11_heardIsSo 58 = .ok (.getfield 270, 3) := by decide +kernel
theorem dX11_heardIsSo_61 : decode cX11_heardIsSo 61 = .ok (.iload_n 3, 1) := by decide +kernel
theorem dX11_heardIsSo_62 : decode cX11_heardIsSo 62 = .ok (.iaload, 1) := by decide +kernel
theorem dX11_heardIsSo_63 : decode cX11_heardIsSo 63 = .ok (.invokevirtual 229, 3) := by decide +kernel
theorem dX11_heardIsSo_66 : decode cX11_heardIsSo 66 = .ok (.istore 4, 2) := by decide +kernel
theorem dX11_heardIsSo_68 : decode cX11_heardIsSo 68 = .ok (.iload 4, 2) := by decide +kernel
theorem dX11_heardIsSo_70 : decode cX11_heardIsSo 70 = .ok (.aload_n 0, 1) := by decide +kernel
theorem dX11_heardIsSo_71 : decode cX11_heardIsSo 71 = .ok (.getfield 88, 3) := by decide +kernel
theorem dX11_heardIsSo_74 : decode cX11_heardIsSo 74 = .ok (.getfield 233, 3) := by decide +kernel
theorem dX11_heardIsSo_77 : decode cX11_heardIsSo 77 = .ok (.getfield 348, 3) := by decide +kernel
theorem dX11_heardIsSo_80 : decode cX11_heardIsSo 80 = .ok (.iload_n 3, 1) := by decide +kernel
theorem dX11_heardIsSo_81 : decode cX11_heardIsSo 81 = .ok (.iaload, 1) := by decide +kernel
theorem dX11_heardIsSo_82 : decode cX11_heardIsSo 82 = .ok (.if_icmp .eq 5, 3) := by decide +kernel
theorem dX11_heardIsSo_85 : decode cX11_heardIsSo 85 = .ok (.iconst 0, 1) := by decide +kernel
theorem dX11_heardIsSo_86 : decode cX11_heardIsSo 86 = .ok (.ireturn, 1) := by decide +kernel
theorem dX11_heardIsSo_87 : decode cX11_heardIsSo 87 = .ok (.iinc 3 1, 3) := by decide +kernel
theorem dX11_heardIsSo_90 : decode cX11_heardIsSo 90 = .ok (.goto (-88), 3) := by decide +kernel
theorem dX11_heardIsSo_93 : decode cX11_heardIsSo 93 = .ok (.iconst 1, 1) := by decide +kernel
theorem dX11_heardIsSo_94 : decode cX11_heardIsSo 94 = .ok (.ireturn, 1) := by decide +kernel
set_option maxRecDepth 20000 in
theorem ggX11_heardIsSo_X11_says : GoodIn wsX11_heardIsSo wsX11_says := goodIn_r _ [12, 13, 14, 15, 16, 17, 18, 19, 20, 21, 22, 23, 11, 24, 25, 26, 27, 28, 29, 30, 31, 32, 33, 34, 35, 36, 37, 38, 39, 40, 41, 42, 43, 44, 45, 46, 47, 48, 49, 50, 51, 52, 53, 54, 55, 56, 57, 58, 59, 60, 61, 62, 63, 64, 65, 66, 67, 68, 69, 70, 71, 72, 73, 74, 75, 76, 77, 78, 79, 80, 81, 82, 83, 84, 85, 86, 87, 88, 89, 90, 91, 92, 93, 94, 95, 96, 97, 98, 99, 100, 101, 102, 103, 104, 105, 106, 107, 108, 109, 110, 111, 112, 113, 114, 115, 116, 117, 118, 119, 120, 121, 122, 123, 124, 125, 126, 127, 128, 133, 134, 135, 136, 137, 138, 139, 140] (by decide +kernel) (by decide +kernel)
set_option maxRecDepth 20000 in
theorem gX11_heardIsSo_X11_says : GoodIn wsX11_heardIsSo (wsV RX11 229 RX11 yX11_says wsX11_says) := goodIn_app (goodIn_of _ (by decide +kernel)) ggX11_heardIsSo_X11_says
def fX11_heardIsSo_87 (rec2 : Int32 → Int32 → Int32 → c_G → Option (c_G × Int32)) (a1 : Int32) (a2 : Int32) (x1 : Int32) (x2 : Int32) (x3 : Int32) (g : c_G) : Option (c_G × Int32) :=
  c_let (x3 + (1 : Int32)) fun v87001 => rec2 x1 x2 v87001 g
set_option maxRecDepth 100000 in
set_option maxHeartbeats 4000000 in
theorem jX11_heardIsSo_87 {p : Program} {l : Launch} {e : Env} {s : State} {m : MethodId} {below : List Frame} {meth : Method} {c : Code} {D : va_G} {tc : Nat → ClassId} {ad : Nat → Nat} {A : Nat → Prop} {E : (Nat → Nat) × (Nat → Nat) × Nat} {a1 : Int32} {a2 : Int32} {g' : c_G} {r : Int32} (C : c_C p s m meth c D tc A E RX11 wsX11_heardIsSo cX11_heardIsSo 5 (some .boolean) ([.ref (ad 0), .int a1, .int a2] : List Value).toArray) (hD : c_D A ad TC) {rec2 : Int32 → Int32 → Int32 → c_G → Option (c_G × Int32)} (hrec2 : ∀ (x1 : Int32) (x2 : Int32) (x3 : Int32) (g : c_G), rec2 x1 x2 x3 g = some (g', r) → ∀ (H : Heap) (locs : List Loc), va_P D vwCl (c_ws tc ad TC g) H → va_S A s.heap H locs → ∀ ls : Array Slot, lv_has ls 5 [(0, .ref (ad 0)), (1, .int x1), (2, .int x2), (3, .int x3)] → W p l e (c_rm 4) s m ([.ref (ad 0), .int a1, .int a2] : List Value).toArray below meth c H locs 0 0 (MQ below (va_Qi (fun (x : Int32) (_ : Unit) => x = r) (fun _ t => va_P D vwCl (c_ws tc ad TC g') t.heap) A) ([.ref (ad 0), .int a1, .int a2] : List Value).toArray s 0 0 A) (F0 m 2 ls [])) : ∀ (x1 : Int32) (x2 : Int32) (x3 : Int32) (g : c_G), fX11_heardIsSo_87 rec2 a1 a2 x1 x2 x3 g = some (g', r) → ∀ (H : Heap) (locs : List Loc), va_P D vwCl (c_ws tc ad TC g) H → va_S A s.heap H locs → ∀ ls : Array Slot, lv_has ls 5 [(0, .ref (ad 0)), (1, .int x1), (2, .int x2), (3, .int x3)] → W p l e (c_rm 4) s m ([.ref (ad 0), .int a1, .int a2] : List Value).toArray below meth c H locs 0 0 (MQ below (va_Qi (fun (x : Int32) (_ : Unit) => x = r) (fun _ t => va_P D vwCl (c_ws tc ad TC g') t.heap) A) ([.ref (ad 0), .int a1, .int a2] : List Value).toArray s 0 0 A) (F0 m 87 ls []) := by
  obtain ⟨hx, hb, hr, hml, hts, hown, hlk, hK, hE⟩ := id C
  intro x1 x2 x3 g hf H locs hP hS ls hl
  unfold fX11_heardIsSo_87 at hf
  obtain ⟨v87001, ev87001, hf⟩ := c_letE hf
  refine lv_iinc (v := v87001) (lv' := [(3, .int v87001), (0, .ref (ad 0)), (1, .int x1), (2, .int x2)]) hx hb dX11_heardIsSo_87 hl (k := 3) rfl (by rw [ev87001]; rfl) (by decide) rfl (fun ls hl => ?_)
  refine lv_goto (tgt := 2) hx hb dX11_heardIsSo_90 (by decide) ?_
  exact hrec2 x1 x2 v87001 g hf _ _ hP hS _ (lv_sub hl [1, 2, 3, 0] rfl)
def fX11_heardIsSo_2  (a1 : Int32) (a2 : Int32) : Nat → Int32 → Int32 → Int32 → c_G → Option (c_G × Int32)
  | 0, _, _, _, _ => none
  | n + 1, x1, x2, x3, g => if (g.1 66 3) ≤ x3 then (some (g, (1 : Int32))) else (if c_in (x3) (5) = true then if (g.1 67 (x3).toNatClampNeg) = x1 then (if c_in (x1) (6) = true then c_b2 (fX11_says g 55 x1 x2 ((g.1 62 (x1).toNatClampNeg)) ((g.1 68 (x3).toNatClampNeg))) fun g2006 r2007 => if r2007 = (g2006.1 69 (x3).toNatClampNeg) then (fX11_heardIsSo_87 (fX11_heardIsSo_2 a1 a2 n) a1 a2 x1 x2 x3 g2006) else (some (g2006, (0 : Int32))) else none) else (fX11_heardIsSo_87 (fX11_heardIsSo_2 a1 a2 n) a1 a2 x1 x2 x3 g) else none)
set_option maxRecDepth 100000 in
set_option maxHeartbeats 4000000 in
theorem jX11_heardIsSo_2 {p : Program} {l : Launch} {e : Env} {s : State} {m : MethodId} {below : List Frame} {meth : Method} {c : Code} {D : va_G} {tc : Nat → ClassId} {ad : Nat → Nat} {A : Nat → Prop} {E : (Nat → Nat) × (Nat → Nat) × Nat} {a1 : Int32} {a2 : Int32} {g' : c_G} {r : Int32} (C : c_C p s m meth c D tc A E RX11 wsX11_heardIsSo cX11_heardIsSo 5 (some .boolean) ([.ref (ad 0), .int a1, .int a2] : List Value).toArray) (hD : c_D A ad TC)  : ∀ (n : Nat) (x1 : Int32) (x2 : Int32) (x3 : Int32) (g : c_G), fX11_heardIsSo_2 a1 a2 n x1 x2 x3 g = some (g', r) → ∀ (H : Heap) (locs : List Loc), va_P D vwCl (c_ws tc ad TC g) H → va_S A s.heap H locs → ∀ ls : Array Slot, lv_has ls 5 [(0, .ref (ad 0)), (1, .int x1), (2, .int x2), (3, .int x3)] → W p l e (c_rm 4) s m ([.ref (ad 0), .int a1, .int a2] : List Value).toArray below meth c H locs 0 0 (MQ below (va_Qi (fun (x : Int32) (_ : Unit) => x = r) (fun _ t => va_P D vwCl (c_ws tc ad TC g') t.heap) A) ([.ref (ad 0), .int a1, .int a2] : List Value).toArray s 0 0 A) (F0 m 2 ls []) := by
  obtain ⟨hx, hb, hr, hml, hts, hown, hlk, hK, hE⟩ := id C
  intro n
  induction n with
  | zero =>
    intro x1 x2 x3 g hf
    cases hf
  | succ n ih =>
    intro x1 x2 x3 g hf H locs hP hS ls hl
    unfold fX11_heardIsSo_2 at hf
    refine lv_iload_n hx hb dX11_heardIsSo_2 rfl (lv_at hl 3 rfl) ?_
    refine lv_aload_n hx hb dX11_heardIsSo_3 rfl (lv_at hl 0 rfl) ?_
    refine c_get hx hb hts i_X11_heardIsSo_X11 hown hK hP 0 tC0 rfl 5 (by decide) (hts _ (List.mem_of_getElem? (i := 1) rfl)) (fun _ h9 => h9) rfl (v := .ref (ad 55)) rfl dX11_heardIsSo_4 ?_
    refine c_get hx hb hts i_X11_heardIsSo_X7 hown hK hP 55 tC55 rfl 13 (by decide) (hts _ (List.mem_of_getElem? (i := 2) rfl)) (fun _ h9 => h9) rfl (v := .ref (ad 66)) rfl dX11_heardIsSo_7 ?_
    refine c_get hx hb hts i_X11_heardIsSo_X5 hown hK hP 66 tC66 rfl 3 (by decide) (hts _ (List.mem_of_getElem? (i := 3) rfl)) (fun _ h9 => h9) rfl (v := .int (g.1 66 3)) rfl dX11_heardIsSo_10 ?_
    refine lv_icmp_ge (tgt := 93) hx hb dX11_heardIsSo_13 (by decide) (fun c2001 => ?_) (fun c2001 => ?_)
    · have hf := c_it c2001 hf
      refine lv_iconst (v := (1 : Int32)) hx hb dX11_heardIsSo_93 (by decide) ?_
      exact c_iret hx hb hr hlk hP hS rfl (c_inj hf) dX11_heardIsSo_94
    · have hf := c_ie c2001 hf
      refine lv_aload_n hx hb dX11_heardIsSo_16 rfl (lv_at hl 0 rfl) ?_
      refine c_get hx hb hts i_X11_heardIsSo_X11 hown hK hP 0 tC0 rfl 5 (by decide) (hts _ (List.mem_of_getElem? (i := 1) rfl)) (fun _ h9 => h9) rfl (v := .ref (ad 55)) rfl dX11_heardIsSo_17 ?_
      refine c_get hx hb hts i_X11_heardIsSo_X7 hown hK hP 55 tC55 rfl 13 (by decide) (hts _ (List.mem_of_getElem? (i := 2) rfl)) (fun _ h9 => h9) rfl (v := .ref (ad 66)) rfl dX11_heardIsSo_20 ?_
      refine c_get hx hb hts i_X11_heardIsSo_X5 hown hK hP 66 tC66 rfl 0 (by decide) (hts _ (List.mem_of_getElem? (i := 4) rfl)) (fun _ h9 => h9) rfl (v := .ref (ad 67)) rfl dX11_heardIsSo_23 ?_
      refine lv_iload_n hx hb dX11_heardIsSo_26 rfl (lv_at hl 3 rfl) ?_
      obtain ⟨hi2002, hf⟩ := c_gd hf
      refine c_iald (j := (x3).toNatClampNeg) hx hb hK hP 67 tC67 rfl (c_inV hi2002) dX11_heardIsSo_27 ?_
      refine lv_iload_n hx hb dX11_heardIsSo_28 rfl (lv_at hl 1 rfl) ?_
      refine lv_icmp_eq (tgt := 35) hx hb dX11_heardIsSo_29 (by decide) (fun c2003 => ?_) (fun c2003 => ?_)
      · have hf := c_it c2003 hf
        refine lv_aload_n hx hb dX11_heardIsSo_35 rfl (lv_at hl 0 rfl) ?_
        refine lv_aload_n hx hb dX11_heardIsSo_36 rfl (lv_at hl 0 rfl) ?_
        refine c_get hx hb hts i_X11_heardIsSo_X11 hown hK hP 0 tC0 rfl 5 (by decide) (hts _ (List.mem_of_getElem? (i := 1) rfl)) (fun _ h9 => h9) rfl (v := .ref (ad 55)) rfl dX11_heardIsSo_37 ?_
        refine lv_iload_n hx hb dX11_heardIsSo_40 rfl (lv_at hl 1 rfl) ?_
        refine lv_iload_n hx hb dX11_heardIsSo_41 rfl (lv_at hl 2 rfl) ?_
        refine lv_aload_n hx hb dX11_heardIsSo_42 rfl (lv_at hl 0 rfl) ?_
        refine c_get hx hb hts i_X11_heardIsSo_X11 hown hK hP 0 tC0 rfl 5 (by decide) (hts _ (List.mem_of_getElem? (i := 1) rfl)) (fun _ h9 => h9) rfl (v := .ref (ad 55)) rfl dX11_heardIsSo_43 ?_
        refine c_get hx hb hts i_X11_heardIsSo_X7 hown hK hP 55 tC55 rfl 9 (by decide) (hts _ (List.mem_of_getElem? (i := 5) rfl)) (fun _ h9 => h9) rfl (v := .ref (ad 62)) rfl dX11_heardIsSo_46 ?_
        refine lv_iload_n hx hb dX11_heardIsSo_49 rfl (lv_at hl 1 rfl) ?_
        obtain ⟨hi2004, hf⟩ := c_gd hf
        refine c_iald (j := (x1).toNatClampNeg) hx hb hK hP 62 tC62 rfl (c_inV hi2004) dX11_heardIsSo_50 ?_
        refine lv_aload_n hx hb dX11_heardIsSo_51 rfl (lv_at hl 0 rfl) ?_
        refine c_get hx hb hts i_X11_heardIsSo_X11 hown hK hP 0 tC0 rfl 5 (by decide) (hts _ (List.mem_of_getElem? (i := 1) rfl)) (fun _ h9 => h9) rfl (v := .ref (ad 55)) rfl dX11_heardIsSo_52 ?_
        refine c_get hx hb hts i_X11_heardIsSo_X7 hown hK hP 55 tC55 rfl 13 (by decide) (hts _ (List.mem_of_getElem? (i := 2) rfl)) (fun _ h9 => h9) rfl (v := .ref (ad 66)) rfl dX11_heardIsSo_55 ?_
        refine c_get hx hb hts i_X11_heardIsSo_X5 hown hK hP 66 tC66 rfl 1 (by decide) (hts _ (List.mem_of_getElem? (i := 6) rfl)) (fun _ h9 => h9) rfl (v := .ref (ad 68)) rfl dX11_heardIsSo_58 ?_
        refine lv_iload_n hx hb dX11_heardIsSo_61 rfl (lv_at hl 3 rfl) ?_
        refine c_iald (j := (x3).toNatClampNeg) hx hb hK hP 68 tC68 rfl (c_inV hi2002) dX11_heardIsSo_62 ?_
        obtain ⟨g2006, r2007, hc2005, hf⟩ := c_b2E hf
        refine c_goi (va_runV (As := [.ref (ad 55), .int x1, .int x2, .int (g.1 62 (x1).toNatClampNeg), .int (g.1 68 (x3).toNatClampNeg)]) (rest := []) ⟨hx, hb, hml, hown, hts⟩ (kX11_says hD hc2005) (cwV 5 hts gX11_heardIsSo_X11_says rfl rfl rfl (by decide +kernel) ⟨Nat.le_of_ble_eq_true rfl, Nat.le_of_ble_eq_true rfl⟩) (c_preV hK hP hE hS tC0 rfl) rfl rfl hl.1 rfl (lv_room (Nat.le_of_ble_eq_true rfl)) dX11_heardIsSo_63 ⟨Nat.zero_le _, Nat.zero_le _⟩) hS (fun H locs hP hS => ?_)
        refine lv_istore (lv' := [(4, .int r2007), (0, .ref (ad 0)), (1, .int x1), (2, .int x2), (3, .int x3)]) hx hb dX11_heardIsSo_66 hl (by decide) rfl (fun ls hl => ?_)
        refine lv_iload hx hb dX11_heardIsSo_68 (lv_at hl 0 rfl) ?_
        refine lv_aload_n hx hb dX11_heardIsSo_70 rfl (lv_at hl 1 rfl) ?_
        refine c_get hx hb hts i_X11_heardIsSo_X11 hown hK hP 0 tC0 rfl 5 (by decide) (hts _ (List.mem_of_getElem? (i := 1) rfl)) (fun _ h9 => h9) rfl (v := .ref (ad 55)) rfl dX11_heardIsSo_71 ?_
        refine c_get hx hb hts i_X11_heardIsSo_X7 hown hK hP 55 tC55 rfl 13 (by decide) (hts _ (List.mem_of_getElem? (i := 2) rfl)) (fun _ h9 => h9) rfl (v := .ref (ad 66)) rfl dX11_heardIsSo_74 ?_
        refine c_get hx hb hts i_X11_heardIsSo_X5 hown hK hP 66 tC66 rfl 2 (by decide) (hts _ (List.mem_of_getElem? (i := 7) rfl)) (fun _ h9 => h9) rfl (v := .ref (ad 69)) rfl dX11_heardIsSo_77 ?_
        refine lv_iload_n hx hb dX11_heardIsSo_80 rfl (lv_at hl 4 rfl) ?_
        refine c_iald (j := (x3).toNatClampNeg) hx hb hK hP 69 tC69 rfl (c_inV hi2002) dX11_heardIsSo_81 ?_
        refine lv_icmp_eq (tgt := 87) hx hb dX11_heardIsSo_82 (by decide) (fun c2008 => ?_) (fun c2008 => ?_)
        · have hf := c_it c2008 hf
          exact jX11_heardIsSo_87 C hD ih x1 x2 x3 g2006 hf _ _ hP hS _ (lv_sub hl [1, 2, 3, 4] rfl)
        · have hf := c_ie c2008 hf
          refine lv_iconst (v := (0 : Int32)) hx hb dX11_heardIsSo_85 (by decide) ?_
          exact c_iret hx hb hr hlk hP hS rfl (c_inj hf) dX11_heardIsSo_86
      · have hf := c_ie c2003 hf
        refine lv_goto (tgt := 87) hx hb dX11_heardIsSo_32 (by decide) ?_
        exact jX11_heardIsSo_87 C hD ih x1 x2 x3 g hf _ _ hP hS _ (lv_sub hl [0, 1, 2, 3] rfl)
def fX11_heardIsSo (g : c_G) (a1 : Int32) (a2 : Int32) : Option (c_G × Int32) :=
  fX11_heardIsSo_2 a1 a2 c_F a1 a2 ((0 : Int32)) g
set_option maxRecDepth 100000 in
set_option maxHeartbeats 4000000 in
theorem kX11_heardIsSo {l : Launch} {D : va_G} {tc : Nat → ClassId} {ad : Nat → Nat} {A : Nat → Prop} {E : (Nat → Nat) × (Nat → Nat) × Nat} (hD : c_D A ad TC) {a1 : Int32} {a2 : Int32} {g g' : c_G} {r : Int32} (hf : fX11_heardIsSo g a1 a2 = some (g', r)) : c_Mi l yX11_heardIsSo wsX11_heardIsSo (c_rm 4) D tc ad A E TC ([.ref (ad 0), .int a1, .int a2] : List Value) g g' r := by
  refine c_ofW (bytes := cX11_heardIsSo) (maxL := 5) (ret := (some .boolean)) (by decide) rfl (Nat.le_of_ble_eq_true rfl) ?_
  intro p e s m below meth c ls C hP hS hl
  unfold fX11_heardIsSo at hf
  obtain ⟨hx, hb, hr, hml, hts, hown, hlk, hK, hE⟩ := id C
  have hl : lv_has ls 5 [(0, .ref (ad 0)), (1, .int a1), (2, .int a2)] := hl
  refine lv_iconst (v := (0 : Int32)) hx hb dX11_heardIsSo_0 (by decide) ?_
  refine lv_istore_n (lv' := [(3, .int (0 : Int32)), (0, .ref (ad 0)), (1, .int a1), (2, .int a2)]) hx hb dX11_heardIsSo_1 rfl hl (by decide) rfl (fun ls hl => ?_)
  exact jX11_heardIsSo_2 C hD c_F a1 a2 ((0 : Int32)) g hf _ _ hP hS _ (lv_sub hl [1, 2, 3, 0] rfl)
theorem dX11_can_0 : decode cX11_can 0 = .ok (.aload_n 0, 1) := by decide +kernel
theorem dX11_can_1 : decode cX11_can 1 = .ok (.iload_n 1, 1) := by decide +kernel
theorem dX11_can_2 : decode cX11_can 2 = .ok (.invokevirtual 119, 3) := by decide +kernel
theorem dX11_can_5 : decode cX11_can 5 = .ok (.ifCond .eq 12, 3) := by decide +kernel
theorem dX11_can_8 : decode cX11_can 8 = .ok (.iload_n 2, 1) := by decide +kernel
theorem dX11_can_9 : decode cX11_can 9 = .ok (.ifCond .lt 8, 3) := by decide +kernel
theorem dX11_can_12 : decode cX11_can 12 = .ok (.iload_n 2, 1) := by decide +kernel
theorem dX11_can_13 : decode cX11_can 13 = .ok (.iconst 1, 1) := by decide +kernel
theorem dX11_can_14 : decode cX11_can 14 = .ok (.if_icmp .le 5, 3) := by decide +kernel
theorem dX11_can_17 : decode cX11_can 17 = .ok (.iconst (-1), 1) := by decide +kernel
theorem dX11_can_18 : decode cX11_can 18 = .ok (.ireturn, 1) := by decide +kernel
theorem dX11_can_19 : decode cX11_can 19 = .ok (.iconst 0, 1) := by decide +kernel
theorem dX11_can_20 : decode cX11_can 20 = .ok (.istore_n 3, 1) := by decide +kernel
theorem dX11_can_21 : decode cX11_can 21 = .ok (.bipush (-5), 2) := by decide +kernel
theorem dX11_can_23 : decode cX11_can 23 = .ok (.istore 4, 2) := by decide +kernel
theorem dX11_can_25 : decode cX11_can 25 = .ok (.bipush 9, 2) := by decide +kernel
theorem dX11_can_27 : decode cX11_can 27 = .ok (.istore 5, 2) := by decide +kernel
theorem dX11_can_29 : decode cX11_can 29 = .ok (.iload 5, 2) := by decide +kernel
theorem dX11_can_31 : decode cX11_can 31 = .ok (.ifCond .lt 26, 3) := by decide +kernel
theorem dX11_can_34 : decode cX11_can 34 = .ok (.aload_n 0, 1) := by decide +kernel
theorem dX11_can_35 : decode cX11_can 35 = .ok (.iload_n 1, 1) := by decide +kernel
theorem dX11_can_36 : decode cX11_can 36 = .ok (.iload 5, 2) := by decide +kernel
theorem dX11_can_38 : decode cX11_can 38 = .ok (.invokevirtual 245, 3) := by decide +kernel
theorem dX11_can_41 : decode cX11_can 41 = .ok (.ifCond .eq 10, 3) := by decide +kernel
theorem dX11_can_44 : decode cX11_can 44 = .ok (.iinc 3 1, 3) := by decide +kernel
theorem dX11_can_47 : decode cX11_can 47 = .ok (.iload 5, 2) := by decide +kernel
theorem dX11_can_49 : decode cX11_can 49 = .ok (.istore 4, 2) := by decide +kernel
theorem dX11_can_51 : decode cX11_can 51 = .ok (.iinc 5 (-1), 3) := by decide +kernel
theorem dX11_can_54 : decode cX11_can 54 = .ok (.goto (-25), 3) := by decide +kernel
theorem dX11_can_57 : decode cX11_can 57 = .ok (.iload_n 2, 1) := by decide +kernel
theorem dX11_can_58 : decode cX11_can 58 = .ok (.ifCond .ne 7, 3) := by decide +kernel
theorem dX11_can_61 : decode cX11_can 61 = .ok (.iload_n 3, 1) := by decide +kernel
theorem dX11_can_62 : decode cX11_can 62 = .ok (.goto 5, 3) := by decide +kernel
theorem dX11_can_65 : decode cX11_can 65 = .ok (.iload 4, 2) := by decide +kernel
theorem dX11_can_67 : decode cX11_can 67 = .ok (.ireturn, 1) := by decide +kernel
set_option maxRecDepth 20000 in
theorem ggX11_can_X11_isChild : GoodIn wsX11_can wsX11_isChild := goodIn_r _ [5, 6, 7, 102, 103, 104, 105, 106, 107, 108, 109, 110, 111, 112, 113, 114, 115, 116, 117, 118, 119, 120, 121, 122, 123, 124, 125, 126, 127, 128, 129, 130, 131, 132, 133, 134, 135, 136, 137] (by decide +kernel) (by decide +kernel)
set_option maxRecDepth 20000 in
theorem gX11_can_X11_isChild : GoodIn wsX11_can (wsV RX11 119 RX11 yX11_isChild wsX11_isChild) := goodIn_app (goodIn_of _ (by decide +kernel)) ggX11_can_X11_isChild
set_option maxRecDepth 20000 in
theorem ggX11_can_X11_heardIsSo : GoodIn wsX11_can wsX11_heardIsSo := goodIn_r _ [11, 6, 12, 13, 14, 15, 16, 17, 18, 19, 20, 4, 21, 22, 23, 24, 25, 26, 27, 28, 29, 30, 31, 32, 33, 34, 35, 36, 37, 38, 39, 40, 41, 42, 43, 44, 45, 46, 47, 48, 49, 50, 51, 52, 53, 54, 55, 56, 57, 58, 59, 60, 61, 62, 63, 64, 65, 66, 67, 68, 69, 70, 71, 72, 73, 74, 75, 76, 77, 78, 79, 80, 81, 82, 83, 84, 85, 86, 87, 88, 89, 90, 91, 92, 93, 94, 95, 96, 97, 98, 99, 100, 101, 102, 103, 104, 105, 106, 107, 108, 109, 110, 111, 112, 113, 114, 115, 116, 117, 118, 119, 120, 121, 122, 123, 124, 125, 126, 127, 128, 129, 130, 131, 132, 133, 134, 135, 136, 137, 138, 139, 140, 141, 142, 143, 144, 145, 146, 147, 148, 149] (by decide +kernel) (by decide +kernel)
set_option maxRecDepth 20000 in
theorem gX11_can_X11_heardIsSo : GoodIn wsX11_can (wsV RX11 245 RX11 yX11_heardIsSo wsX11_heardIsSo) := goodIn_app (goodIn_of _ (by decide +kernel)) ggX11_can_X11_heardIsSo
def fX11_can_51 (rec29 : Int32 → Int32 → Int32 → Int32 → Int32 → c_G → Option (c_G × Int32)) (a1 : Int32) (a2 : Int32) (x1 : Int32) (x2 : Int32) (x3 : Int32) (x4 : Int32) (x5 : Int32) (g : c_G) : Option (c_G × Int32) :=
  c_let (x5 + (-1 : Int32)) fun v51001 => rec29 x1 x2 x3 x4 v51001 g
set_option maxRecDepth 100000 in
set_option maxHeartbeats 4000000 in
theorem jX11_can_51 {p : Program} {l : Launch} {e : Env} {s : State} {m : MethodId} {below : List Frame} {meth : Method} {c : Code} {D : va_G} {tc : Nat → ClassId} {ad : Nat → Nat} {A : Nat → Prop} {E : (Nat → Nat) × (Nat → Nat) × Nat} {a1 : Int32} {a2 : Int32} {g' : c_G} {r : Int32} (C : c_C p s m meth c D tc A E RX11 wsX11_can cX11_can 6 (some .int) ([.ref (ad 0), .int a1, .int a2] : List Value).toArray) (hD : c_D A ad TC) {rec29 : Int32 → Int32 → Int32 → Int32 → Int32 → c_G → Option (c_G × Int32)} (hrec29 : ∀ (x1 : Int32) (x2 : Int32) (x3 : Int32) (x4 : Int32) (x5 : Int32) (g : c_G), rec29 x1 x2 x3 x4 x5 g = some (g', r) → ∀ (H : Heap) (locs : List Loc), va_P D vwCl (c_ws tc ad TC g) H → va_S A s.heap H locs → ∀ ls : Array Slot, lv_has ls 6 [(0, .ref (ad 0)), (1, .int x1), (2, .int x2), (3, .int x3), (4, .int x4), (5, .int x5)] → W p l e (c_rm 5) s m ([.ref (ad 0), .int a1, .int a2] : List Value).toArray below meth c H locs 0 0 (MQ below (va_Qi (fun (x : Int32) (_ : Unit) => x = r) (fun _ t => va_P D vwCl (c_ws tc ad TC g') t.heap) A) ([.ref (ad 0), .int a1, .int a2] : List Value).toArray s 0 0 A) (F0 m 29 ls [])) : ∀ (x1 : Int32) (x2 : Int32) (x3 : Int32) (x4 : Int32) (x5 : Int32) (g : c_G), fX11_can_51 rec29 a1 a2 x1 x2 x3 x4 x5 g = some (g', r) → ∀ (H : Heap) (locs : List Loc), va_P D vwCl (c_ws tc ad TC g) H → va_S A s.heap H locs → ∀ ls : Array Slot, lv_has ls 6 [(0, .ref (ad 0)), (1, .int x1), (2, .int x2), (3, .int x3), (4, .int x4), (5, .int x5)] → W p l e (c_rm 5) s m ([.ref (ad 0), .int a1, .int a2] : List Value).toArray below meth c H locs 0 0 (MQ below (va_Qi (fun (x : Int32) (_ : Unit) => x = r) (fun _ t => va_P D vwCl (c_ws tc ad TC g') t.heap) A) ([.ref (ad 0), .int a1, .int a2] : List Value).toArray s 0 0 A) (F0 m 51 ls []) := by
  obtain ⟨hx, hb, hr, hml, hts, hown, hlk, hK, hE⟩ := id C
  intro x1 x2 x3 x4 x5 g hf H locs hP hS ls hl
  unfold fX11_can_51 at hf
  obtain ⟨v51001, ev51001, hf⟩ := c_letE hf
  refine lv_iinc (v := v51001) (lv' := [(5, .int v51001), (0, .ref (ad 0)), (1, .int x1), (2, .int x2), (3, .int x3), (4, .int x4)]) hx hb dX11_can_51 hl (k := 5) rfl (by rw [ev51001]; rfl) (by decide) rfl (fun ls hl => ?_)
  refine lv_goto (tgt := 29) hx hb dX11_can_54 (by decide) ?_
  exact hrec29 x1 x2 x3 x4 v51001 g hf _ _ hP hS _ (lv_sub hl [1, 2, 3, 4, 5, 0] rfl)
def fX11_can_29  (a1 : Int32) (a2 : Int32) : Nat → Int32 → Int32 → Int32 → Int32 → Int32 → c_G → Option (c_G × Int32)
  | 0, _, _, _, _, _, _ => none
  | n + 1, x1, x2, x3, x4, x5, g => if x5 < 0 then (if x2 = 0 then (some (g, x3)) else (some (g, x4))) else (c_b2 (fX11_heardIsSo g x1 x5) fun g29004 r29005 => if r29005 = 0 then (fX11_can_51 (fX11_can_29 a1 a2 n) a1 a2 x1 x2 x3 x4 x5 g29004) else (c_let (x3 + (1 : Int32)) fun v29007 => fX11_can_51 (fX11_can_29 a1 a2 n) a1 a2 x1 x2 v29007 x5 x5 g29004))
set_option maxRecDepth 100000 in
set_option maxHeartbeats 4000000 in
theorem jX11_can_29 {p : Program} {l : Launch} {e : Env} {s : State} {m : MethodId} {below : List Frame} {meth : Method} {c : Code} {D : va_G} {tc : Nat → ClassId} {ad : Nat → Nat} {A : Nat → Prop} {E : (Nat → Nat) × (Nat → Nat) × Nat} {a1 : Int32} {a2 : Int32} {g' : c_G} {r : Int32} (C : c_C p s m meth c D tc A E RX11 wsX11_can cX11_can 6 (some .int) ([.ref (ad 0), .int a1, .int a2] : List Value).toArray) (hD : c_D A ad TC)  : ∀ (n : Nat) (x1 : Int32) (x2 : Int32) (x3 : Int32) (x4 : Int32) (x5 : Int32) (g : c_G), fX11_can_29 a1 a2 n x1 x2 x3 x4 x5 g = some (g', r) → ∀ (H : Heap) (locs : List Loc), va_P D vwCl (c_ws tc ad TC g) H → va_S A s.heap H locs → ∀ ls : Array Slot, lv_has ls 6 [(0, .ref (ad 0)), (1, .int x1), (2, .int x2), (3, .int x3), (4, .int x4), (5, .int x5)] → W p l e (c_rm 5) s m ([.ref (ad 0), .int a1, .int a2] : List Value).toArray below meth c H locs 0 0 (MQ below (va_Qi (fun (x : Int32) (_ : Unit) => x = r) (fun _ t => va_P D vwCl (c_ws tc ad TC g') t.heap) A) ([.ref (ad 0), .int a1, .int a2] : List Value).toArray s 0 0 A) (F0 m 29 ls []) := by
  obtain ⟨hx, hb, hr, hml, hts, hown, hlk, hK, hE⟩ := id C
  intro n
  induction n with
  | zero =>
    intro x1 x2 x3 x4 x5 g hf
    cases hf
  | succ n ih =>
    intro x1 x2 x3 x4 x5 g hf H locs hP hS ls hl
    unfold fX11_can_29 at hf
    refine lv_iload hx hb dX11_can_29 (lv_at hl 5 rfl) ?_
    refine lv_if_lt (tgt := 57) hx hb dX11_can_31 (by decide) (fun c29001 => ?_) (fun c29001 => ?_)
    · have hf := c_it c29001 hf
      refine lv_iload_n hx hb dX11_can_57 rfl (lv_at hl 2 rfl) ?_
      refine lv_if_ne (tgt := 65) hx hb dX11_can_58 (by decide) (fun c29002 => ?_) (fun c29002 => ?_)
      · have hf := c_ie c29002 hf
        refine lv_iload hx hb dX11_can_65 (lv_at hl 4 rfl) ?_
        exact c_iret hx hb hr hlk hP hS rfl (c_inj hf) dX11_can_67
      · have hf := c_it c29002 hf
        refine lv_iload_n hx hb dX11_can_61 rfl (lv_at hl 3 rfl) ?_
        refine lv_goto (tgt := 67) hx hb dX11_can_62 (by decide) ?_
        exact c_iret hx hb hr hlk hP hS rfl (c_inj hf) dX11_can_67
    · have hf := c_ie c29001 hf
      refine lv_aload_n hx hb dX11_can_34 rfl (lv_at hl 0 rfl) ?_
      refine lv_iload_n hx hb dX11_can_35 rfl (lv_at hl 1 rfl) ?_
      refine lv_iload hx hb dX11_can_36 (lv_at hl 5 rfl) ?_
      obtain ⟨g29004, r29005, hc29003, hf⟩ := c_b2E hf
      refine c_goi (va_runV (As := [.int x1, .int x5]) (rest := []) ⟨hx, hb, hml, hown, hts⟩ (kX11_heardIsSo hD hc29003) (cwV 2 hts gX11_can_X11_heardIsSo rfl rfl rfl (by decide +kernel) ⟨Nat.le_of_ble_eq_true rfl, Nat.le_of_ble_eq_true rfl⟩) (c_preV hK hP hE hS tC0 rfl) rfl rfl hl.1 rfl (lv_room (Nat.le_of_ble_eq_true rfl)) dX11_can_38 ⟨Nat.zero_le _, Nat.zero_le _⟩) hS (fun H locs hP hS => ?_)
      refine lv_if_eq (tgt := 51) hx hb dX11_can_41 (by decide) (fun c29006 => ?_) (fun c29006 => ?_)
      · have hf := c_it c29006 hf
        exact jX11_can_51 C hD ih x1 x2 x3 x4 x5 g29004 hf _ _ hP hS _ (lv_sub hl [0, 1, 2, 3, 4, 5] rfl)
      · have hf := c_ie c29006 hf
        obtain ⟨v29007, ev29007, hf⟩ := c_letE hf
        refine lv_iinc (v := v29007) (lv' := [(3, .int v29007), (0, .ref (ad 0)), (1, .int x1), (2, .int x2), (4, .int x4), (5, .int x5)]) hx hb dX11_can_44 hl (k := 3) rfl (by rw [ev29007]; rfl) (by decide) rfl (fun ls hl => ?_)
        refine lv_iload hx hb dX11_can_47 (lv_at hl 5 rfl) ?_
        refine lv_istore (lv' := [(4, .int x5), (3, .int v29007), (0, .ref (ad 0)), (1, .int x1), (2, .int x2), (5, .int x5)]) hx hb dX11_can_49 hl (by decide) rfl (fun ls hl => ?_)
        exact jX11_can_51 C hD ih x1 x2 v29007 x5 x5 g29004 hf _ _ hP hS _ (lv_sub hl [2, 3, 4, 1, 0, 5] rfl)
def fX11_can (g : c_G) (a1 : Int32) (a2 : Int32) : Option (c_G × Int32) :=
  (fX11_isChild g a1).bind fun r1 => if r1 = 0 then (some (g, (-1 : Int32))) else (if a2 < 0 then (some (g, (-1 : Int32))) else (if a2 ≤ (1 : Int32) then (fX11_can_29 a1 a2 c_F a1 a2 ((0 : Int32)) ((-5 : Int32)) ((9 : Int32)) g) else (some (g, (-1 : Int32)))))
set_option maxRecDepth 100000 in
set_option maxHeartbeats 4000000 in
theorem kX11_can {l : Launch} {D : va_G} {tc : Nat → ClassId} {ad : Nat → Nat} {A : Nat → Prop} {E : (Nat → Nat) × (Nat → Nat) × Nat} (hD : c_D A ad TC) {a1 : Int32} {a2 : Int32} {g g' : c_G} {r : Int32} (hf : fX11_can g a1 a2 = some (g', r)) : c_Mi l yX11_can wsX11_can (c_rm 5) D tc ad A E TC ([.ref (ad 0), .int a1, .int a2] : List Value) g g' r := by
  refine c_ofW (bytes := cX11_can) (maxL := 6) (ret := (some .int)) (by decide) rfl (Nat.le_of_ble_eq_true rfl) ?_
  intro p e s m below meth c ls C hP hS hl
  unfold fX11_can at hf
  obtain ⟨hx, hb, hr, hml, hts, hown, hlk, hK, hE⟩ := id C
  have hl : lv_has ls 6 [(0, .ref (ad 0)), (1, .int a1), (2, .int a2)] := hl
  refine lv_aload_n hx hb dX11_can_0 rfl (lv_at hl 0 rfl) ?_
  refine lv_iload_n hx hb dX11_can_1 rfl (lv_at hl 1 rfl) ?_
  obtain ⟨r1, hc2, hf⟩ := c_bd hf
  refine c_goi (va_runV (As := [.int a1]) (rest := []) ⟨hx, hb, hml, hown, hts⟩ (kX11_isChild hD hc2) (cwV 1 hts gX11_can_X11_isChild rfl rfl rfl (by decide +kernel) ⟨Nat.le_of_ble_eq_true rfl, Nat.le_of_ble_eq_true rfl⟩) (c_preV hK hP hE hS tC0 rfl) rfl rfl hl.1 rfl (lv_room (Nat.le_of_ble_eq_true rfl)) dX11_can_2 ⟨Nat.zero_le _, Nat.zero_le _⟩) hS (fun H locs hP hS => ?_)
  refine lv_if_eq (tgt := 17) hx hb dX11_can_5 (by decide) (fun c3 => ?_) (fun c3 => ?_)
  · have hf := c_it c3 hf
    refine lv_iconst (v := (-1 : Int32)) hx hb dX11_can_17 (by decide) ?_
    exact c_iret hx hb hr hlk hP hS rfl (c_inj hf) dX11_can_18
  · have hf := c_ie c3 hf
    refine lv_iload_n hx hb dX11_can_8 rfl (lv_at hl 2 rfl) ?_
    refine lv_if_lt (tgt := 17) hx hb dX11_can_9 (by decide) (fun c4 => ?_) (fun c4 => ?_)
    · have hf := c_it c4 hf
      refine lv_iconst (v := (-1 : Int32)) hx hb dX11_can_17 (by decide) ?_
      exact c_iret hx hb hr hlk hP hS rfl (c_inj hf) dX11_can_18
    · have hf := c_ie c4 hf
      refine lv_iload_n hx hb dX11_can_12 rfl (lv_at hl 2 rfl) ?_
      refine lv_iconst (v := (1 : Int32)) hx hb dX11_can_13 (by decide) ?_
      refine lv_icmp_le (tgt := 19) hx hb dX11_can_14 (by decide) (fun c5 => ?_) (fun c5 => ?_)
      · have hf := c_it c5 hf
        refine lv_iconst (v := (0 : Int32)) hx hb dX11_can_19 (by decide) ?_
        refine lv_istore_n (lv' := [(3, .int (0 : Int32)), (0, .ref (ad 0)), (1, .int a1), (2, .int a2)]) hx hb dX11_can_20 rfl hl (by decide) rfl (fun ls hl => ?_)
        refine lv_bipush (v := (-5 : Int32)) hx hb dX11_can_21 (by decide) ?_
        refine lv_istore (lv' := [(4, .int (-5 : Int32)), (3, .int (0 : Int32)), (0, .ref (ad 0)), (1, .int a1), (2, .int a2)]) hx hb dX11_can_23 hl (by decide) rfl (fun ls hl => ?_)
        refine lv_bipush (v := (9 : Int32)) hx hb dX11_can_25 (by decide) ?_
        refine lv_istore (lv' := [(5, .int (9 : Int32)), (4, .int (-5 : Int32)), (3, .int (0 : Int32)), (0, .ref (ad 0)), (1, .int a1), (2, .int a2)]) hx hb dX11_can_27 hl (by decide) rfl (fun ls hl => ?_)
        exact jX11_can_29 C hD c_F a1 a2 ((0 : Int32)) ((-5 : Int32)) ((9 : Int32)) g hf _ _ hP hS _ (lv_sub hl [3, 4, 5, 2, 1, 0] rfl)
      · have hf := c_ie c5 hf
        refine lv_iconst (v := (-1 : Int32)) hx hb dX11_can_17 (by decide) ?_
        exact c_iret hx hb hr hlk hP hS rfl (c_inj hf) dX11_can_18
theorem dX11_isPart_0 : decode cX11_isPart 0 = .ok (.iload_n 0, 1) := by decide +kernel
theorem dX11_isPart_1 : decode cX11_isPart 1 = .ok (.ifCond .eq 8, 3) := by decide +kernel
theorem dX11_isPart_4 : decode cX11_isPart 4 = .ok (.iload_n 0, 1) := by decide +kernel
theorem dX11_isPart_5 : decode cX11_isPart 5 = .ok (.iconst 1, 1) := by decide +kernel
theorem dX11_isPart_6 : decode cX11_isPart 6 = .ok (.if_icmp .ne 7, 3) := by decide +kernel
theorem dX11_isPart_9 : decode cX11_isPart 9 = .ok (.iconst 1, 1) := by decide +kernel
theorem dX11_isPart_10 : decode cX11_isPart 10 = .ok (.goto 4, 3) := by decide +kernel
theorem dX11_isPart_13 : decode cX11_isPart 13 = .ok (.iconst 0, 1) := by decide +kernel
theorem dX11_isPart_14 : decode cX11_isPart 14 = .ok (.ireturn, 1) := by decide +kernel
def fX11_isPart (a1 : Int32) : Int32 :=
  if a1 = 0 then ((1 : Int32)) else (if a1 = (1 : Int32) then ((1 : Int32)) else ((0 : Int32)))
set_option maxRecDepth 100000 in
set_option maxHeartbeats 4000000 in
theorem kX11_isPart {l : Launch} {D : va_G} {tc : Nat → ClassId} {ad : Nat → Nat} {A : Nat → Prop} {E : (Nat → Nat) × (Nat → Nat) × Nat} {T : List c_T} {a1 : Int32} {g : c_G} {r : Int32} (hf : fX11_isPart a1 = r) : c_Mi l yX11_isPart wsX11_isPart (c_rm 0) D tc ad A E T ([.int a1] : List Value) g g r := by
  refine c_ofW (bytes := cX11_isPart) (maxL := 1) (ret := (some .boolean)) (by decide) rfl (Nat.le_of_ble_eq_true rfl) ?_
  intro p e s m below meth c ls C hP hS hl
  unfold fX11_isPart at hf
  obtain ⟨hx, hb, hr, hml, hts, hown, hlk, hK, hE⟩ := id C
  have hl : lv_has ls 1 [(0, .int a1)] := hl
  refine lv_iload_n hx hb dX11_isPart_0 rfl (lv_at hl 0 rfl) ?_
  refine lv_if_eq (tgt := 9) hx hb dX11_isPart_1 (by decide) (fun c1 => ?_) (fun c1 => ?_)
  · have hf := c_it c1 hf
    refine lv_iconst (v := (1 : Int32)) hx hb dX11_isPart_9 (by decide) ?_
    refine lv_goto (tgt := 14) hx hb dX11_isPart_10 (by decide) ?_
    exact c_iret hx hb hr hlk hP hS rfl ⟨rfl, hf⟩ dX11_isPart_14
  · have hf := c_ie c1 hf
    refine lv_iload_n hx hb dX11_isPart_4 rfl (lv_at hl 0 rfl) ?_
    refine lv_iconst (v := (1 : Int32)) hx hb dX11_isPart_5 (by decide) ?_
    refine lv_icmp_ne (tgt := 13) hx hb dX11_isPart_6 (by decide) (fun c2 => ?_) (fun c2 => ?_)
    · have hf := c_ie c2 hf
      refine lv_iconst (v := (0 : Int32)) hx hb dX11_isPart_13 (by decide) ?_
      exact c_iret hx hb hr hlk hP hS rfl ⟨rfl, hf⟩ dX11_isPart_14
    · have hf := c_it c2 hf
      refine lv_iconst (v := (1 : Int32)) hx hb dX11_isPart_9 (by decide) ?_
      refine lv_goto (tgt := 14) hx hb dX11_isPart_10 (by decide) ?_
      exact c_iret hx hb hr hlk hP hS rfl ⟨rfl, hf⟩ dX11_isPart_14
theorem bX11_isPart (a1 : Int32) : fX11_isPart a1 = 0 ∨ fX11_isPart a1 = 1 := by
  unfold fX11_isPart
  first | (repeat' split) <;> first | exact Or.inl rfl | exact Or.inr rfl
theorem dX11_odds_0 : decode cX11_odds 0 = .ok (.aload_n 0, 1) := by decide +kernel
theorem dX11_odds_1 : decode cX11_odds 1 = .ok (.iload_n 1, 1) := by decide +kernel
theorem dX11_odds_2 : decode cX11_odds 2 = .ok (.invokevirtual 119, 3) := by decide +kernel
theorem dX11_odds_5 : decode cX11_odds 5 = .ok (.ifCond .eq 17, 3) := by decide +kernel
theorem dX11_odds_8 : decode cX11_odds 8 = .ok (.iload_n 2, 1) := by decide +kernel
theorem dX11_odds_9 : decode cX11_odds 9 = .ok (.invokestatic 141, 3) := by decide +kernel
theorem dX11_odds_12 : decode cX11_odds 12 = .ok (.ifCond .eq 10, 3) := by decide +kernel
theorem dX11_odds_15 : decode cX11_odds 15 = .ok (.iload_n 3, 1) := by decide +kernel
theorem dX11_odds_16 : decode cX11_odds 16 = .ok (.invokestatic 249, 3) := by decide +kernel
theorem dX11_odds_19 : decode cX11_odds 19 = .ok (.ifCond .ne 7, 3) := by decide +kernel
theorem dX11_odds_22 : decode cX11_odds 22 = .ok (.ldc2_w 252, 3) := by decide +kernel
theorem dX11_odds_25 : decode cX11_odds 25 = .ok (.lreturn, 1) := by decide +kernel
theorem dX11_odds_26 : decode cX11_odds 26 = .ok (.aload_n 0, 1) := by decide +kernel
theorem dX11_odds_27 : decode cX11_odds 27 = .ok (.iload_n 1, 1) := by decide +kernel
theorem dX11_odds_28 : decode cX11_odds 28 = .ok (.iload_n 2, 1) := by decide +kernel
theorem dX11_odds_29 : decode cX11_odds 29 = .ok (.invokevirtual 144, 3) := by decide +kernel
theorem dX11_odds_32 : decode cX11_odds 32 = .ok (.bipush (-5), 2) := by decide +kernel
theorem dX11_odds_34 : decode cX11_odds 34 = .ok (.if_icmp .eq 7, 3) := by decide +kernel
theorem dX11_odds_37 : decode cX11_odds 37 = .ok (.iconst 1, 1) := by decide +kernel
theorem dX11_odds_38 : decode cX11_odds 38 = .ok (.goto 4, 3) := by decide +kernel
theorem dX11_odds_41 : decode cX11_odds 41 = .ok (.iconst 0, 1) := by decide +kernel
theorem dX11_odds_42 : decode cX11_odds 42 = .ok (.istore 4, 2) := by decide +kernel
theorem dX11_odds_44 : decode cX11_odds 44 = .ok (.iload_n 3, 1) := by decide +kernel
theorem dX11_odds_45 : decode cX11_odds 45 = .ok (.ifCond .ne 14, 3) := by decide +kernel
theorem dX11_odds_48 : decode cX11_odds 48 = .ok (.iload 4, 2) := by decide +kernel
theorem dX11_odds_50 : decode cX11_odds 50 = .ok (.ifCond .eq 7, 3) := by decide +kernel
theorem dX11_odds_53 : decode cX11_odds 53 = .ok (.lconst 1, 1) := by decide +kernel
theorem dX11_odds_54 : decode cX11_odds 54 = .ok (.goto 4, 3) := by decide +kernel
theorem dX11_odds_57 : decode cX11_odds 57 = .ok (.lconst 0, 1) := by decide +kernel
theorem dX11_odds_58 : decode cX11_odds 58 = .ok (.lreturn, 1) := by decide +kernel
theorem dX11_odds_59 : decode cX11_odds 59 = .ok (.iload 4, 2) := by decide +kernel
theorem dX11_odds_61 : decode cX11_odds 61 = .ok (.ifCond .eq 9, 3) := by decide +kernel
theorem dX11_odds_64 : decode cX11_odds 64 = .ok (.ldc2_w 254, 3) := by decide +kernel
theorem dX11_odds_67 : decode cX11_odds 67 = .ok (.goto 4, 3) := by decide +kernel
theorem dX11_odds_70 : decode cX11_odds 70 = .ok (.lconst 1, 1) := by decide +kernel
theorem dX11_odds_71 : decode cX11_odds 71 = .ok (.lreturn, 1) := by decide +kernel
set_option maxRecDepth 20000 in
theorem ggX11_odds_X11_isChild : GoodIn wsX11_odds wsX11_isChild := goodIn_r _ [7, 8, 9, 106, 107, 108, 109, 110, 111, 112, 113, 114, 115, 116, 117, 118, 119, 120, 121, 122, 123, 124, 125, 126, 127, 128, 129, 130, 131, 132, 133, 134, 135, 136, 137, 138, 139, 140, 141] (by decide +kernel) (by decide +kernel)
set_option maxRecDepth 20000 in
theorem gX11_odds_X11_isChild : GoodIn wsX11_odds (wsV RX11 119 RX11 yX11_isChild wsX11_isChild) := goodIn_app (goodIn_of _ (by decide +kernel)) ggX11_odds_X11_isChild
set_option maxRecDepth 20000 in
theorem ggX11_odds_X11_isElder : GoodIn wsX11_odds wsX11_isElder := goodIn_r _ [12] (by decide +kernel) (by decide +kernel)
set_option maxRecDepth 20000 in
theorem gX11_odds_X11_isElder : GoodIn wsX11_odds (va_wsS RX11 141 yX11_isElder wsX11_isElder) := goodIn_app (goodIn_of _ (by decide +kernel)) ggX11_odds_X11_isElder
set_option maxRecDepth 20000 in
theorem ggX11_odds_X11_isPart : GoodIn wsX11_odds wsX11_isPart := goodIn_r _ [15] (by decide +kernel) (by decide +kernel)
set_option maxRecDepth 20000 in
theorem gX11_odds_X11_isPart : GoodIn wsX11_odds (va_wsS RX11 249 yX11_isPart wsX11_isPart) := goodIn_app (goodIn_of _ (by decide +kernel)) ggX11_odds_X11_isPart
set_option maxRecDepth 20000 in
theorem ggX11_odds_X11_saysNow : GoodIn wsX11_odds wsX11_saysNow := goodIn_r _ [19, 8, 20, 21, 22, 23, 24, 6, 25, 26, 27, 28, 29, 30, 31, 32, 33, 34, 35, 36, 37, 38, 39, 40, 41, 42, 43, 44, 45, 46, 47, 48, 49, 50, 51, 52, 53, 54, 55, 56, 57, 58, 59, 60, 61, 62, 63, 64, 65, 66, 67, 68, 69, 70, 71, 72, 73, 74, 75, 76, 77, 78, 79, 80, 81, 82, 83, 84, 85, 86, 87, 88, 89, 90, 91, 92, 93, 94, 95, 96, 97, 98, 99, 100, 101, 102, 103, 104, 105, 106, 107, 108, 109, 110, 111, 112, 113, 114, 115, 116, 117, 118, 119, 120, 121, 122, 123, 124, 125, 126, 127, 128, 129, 130, 131, 132, 133, 134, 135, 136, 137, 138, 139, 140, 141, 142, 143, 144, 145, 146, 147, 148, 149] (by decide +kernel) (by decide +kernel)
set_option maxRecDepth 20000 in
theorem gX11_odds_X11_saysNow : GoodIn wsX11_odds (wsV RX11 144 RX11 yX11_saysNow wsX11_saysNow) := goodIn_app (goodIn_of _ (by decide +kernel)) ggX11_odds_X11_saysNow
def fX11_odds_42  (a1 : Int32) (a2 : Int32) (a3 : Int32) (x3 : Int32) (y0 : Int32) (g : c_G) : Option (c_G × Int64) :=
  if x3 = 0 then (if y0 = 0 then (some (g, (0 : Int64))) else (some (g, (1 : Int64)))) else (if y0 = 0 then (some (g, (1 : Int64))) else (some (g, (12 : Int64))))
set_option maxRecDepth 100000 in
set_option maxHeartbeats 4000000 in
theorem jX11_odds_42 {p : Program} {l : Launch} {e : Env} {s : State} {m : MethodId} {below : List Frame} {meth : Method} {c : Code} {D : va_G} {tc : Nat → ClassId} {ad : Nat → Nat} {A : Nat → Prop} {E : (Nat → Nat) × (Nat → Nat) × Nat} {a1 : Int32} {a2 : Int32} {a3 : Int32} {g' : c_G} {r : Int64} (C : c_C p s m meth c D tc A E RX11 wsX11_odds cX11_odds 5 (some .long) ([.ref (ad 0), .int a1, .int a2, .int a3] : List Value).toArray) (hD : c_D A ad TC)  : ∀ (x3 : Int32) (y0 : Int32) (g : c_G), fX11_odds_42 a1 a2 a3 x3 y0 g = some (g', r) → ∀ (H : Heap) (locs : List Loc), va_P D vwCl (c_ws tc ad TC g) H → va_S A s.heap H locs → ∀ ls : Array Slot, lv_has ls 5 [(3, .int x3)] → W p l e (c_rm 5) s m ([.ref (ad 0), .int a1, .int a2, .int a3] : List Value).toArray below meth c H locs 0 0 (MQ below (va_Ql (fun (x : Int64) (_ : Unit) => x = r) (fun _ t => va_P D vwCl (c_ws tc ad TC g') t.heap) A) ([.ref (ad 0), .int a1, .int a2, .int a3] : List Value).toArray s 0 0 A) (F0 m 42 ls [.int y0]) := by
  obtain ⟨hx, hb, hr, hml, hts, hown, hlk, hK, hE⟩ := id C
  intro x3 y0 g hf H locs hP hS ls hl
  unfold fX11_odds_42 at hf
  refine lv_istore (lv' := [(4, .int y0), (3, .int x3)]) hx hb dX11_odds_42 hl (by decide) rfl (fun ls hl => ?_)
  refine lv_iload_n hx hb dX11_odds_44 rfl (lv_at hl 1 rfl) ?_
  refine lv_if_ne (tgt := 59) hx hb dX11_odds_45 (by decide) (fun c42001 => ?_) (fun c42001 => ?_)
  · have hf := c_ie c42001 hf
    refine lv_iload hx hb dX11_odds_59 (lv_at hl 0 rfl) ?_
    refine lv_if_eq (tgt := 70) hx hb dX11_odds_61 (by decide) (fun c42002 => ?_) (fun c42002 => ?_)
    · have hf := c_it c42002 hf
      refine lv_lconst (v := (1 : Int64)) hx hb dX11_odds_70 (by decide) ?_
      exact c_lret hx hb hr hlk hP hS (c_inj hf) dX11_odds_71
    · have hf := c_ie c42002 hf
      refine lv_ldc2 hx hb hown (v := (12 : Int64)) (hts _ (List.mem_of_getElem? (i := 2) rfl)) dX11_odds_64 ?_
      refine lv_goto (tgt := 71) hx hb dX11_odds_67 (by decide) ?_
      exact c_lret hx hb hr hlk hP hS (c_inj hf) dX11_odds_71
  · have hf := c_it c42001 hf
    refine lv_iload hx hb dX11_odds_48 (lv_at hl 0 rfl) ?_
    refine lv_if_eq (tgt := 57) hx hb dX11_odds_50 (by decide) (fun c42003 => ?_) (fun c42003 => ?_)
    · have hf := c_it c42003 hf
      refine lv_lconst (v := (0 : Int64)) hx hb dX11_odds_57 (by decide) ?_
      exact c_lret hx hb hr hlk hP hS (c_inj hf) dX11_odds_58
    · have hf := c_ie c42003 hf
      refine lv_lconst (v := (1 : Int64)) hx hb dX11_odds_53 (by decide) ?_
      refine lv_goto (tgt := 58) hx hb dX11_odds_54 (by decide) ?_
      exact c_lret hx hb hr hlk hP hS (c_inj hf) dX11_odds_58
def fX11_odds (g : c_G) (a1 : Int32) (a2 : Int32) (a3 : Int32) : Option (c_G × Int64) :=
  (fX11_isChild g a1).bind fun r1 => if r1 = 0 then (some (g, (-9223372036854775808 : Int64))) else (if (fX11_isElder a2) = 0 then (some (g, (-9223372036854775808 : Int64))) else (if (fX11_isPart a3) = 0 then (some (g, (-9223372036854775808 : Int64))) else (c_b2 (fX11_saysNow g a1 a2) fun g7 r8 => if r8 = (-5 : Int32) then (fX11_odds_42 a1 a2 a3 a3 ((0 : Int32)) g7) else (fX11_odds_42 a1 a2 a3 a3 ((1 : Int32)) g7))))
set_option maxRecDepth 100000 in
set_option maxHeartbeats 4000000 in
theorem kX11_odds {l : Launch} {D : va_G} {tc : Nat → ClassId} {ad : Nat → Nat} {A : Nat → Prop} {E : (Nat → Nat) × (Nat → Nat) × Nat} (hD : c_D A ad TC) {a1 : Int32} {a2 : Int32} {a3 : Int32} {g g' : c_G} {r : Int64} (hf : fX11_odds g a1 a2 a3 = some (g', r)) : c_Ml l yX11_odds wsX11_odds (c_rm 5) D tc ad A E TC ([.ref (ad 0), .int a1, .int a2, .int a3] : List Value) g g' r := by
  refine c_ofW (bytes := cX11_odds) (maxL := 5) (ret := (some .long)) (by decide) rfl (Nat.le_of_ble_eq_true rfl) ?_
  intro p e s m below meth c ls C hP hS hl
  unfold fX11_odds at hf
  obtain ⟨hx, hb, hr, hml, hts, hown, hlk, hK, hE⟩ := id C
  have hl : lv_has ls 5 [(0, .ref (ad 0)), (1, .int a1), (2, .int a2), (3, .int a3)] := hl
  refine lv_aload_n hx hb dX11_odds_0 rfl (lv_at hl 0 rfl) ?_
  refine lv_iload_n hx hb dX11_odds_1 rfl (lv_at hl 1 rfl) ?_
  obtain ⟨r1, hc2, hf⟩ := c_bd hf
  refine c_goi (va_runV (As := [.int a1]) (rest := []) ⟨hx, hb, hml, hown, hts⟩ (kX11_isChild hD hc2) (cwV 1 hts gX11_odds_X11_isChild rfl rfl rfl (by decide +kernel) ⟨Nat.le_of_ble_eq_true rfl, Nat.le_of_ble_eq_true rfl⟩) (c_preV hK hP hE hS tC0 rfl) rfl rfl hl.1 rfl (lv_room (Nat.le_of_ble_eq_true rfl)) dX11_odds_2 ⟨Nat.zero_le _, Nat.zero_le _⟩) hS (fun H locs hP hS => ?_)
  refine lv_if_eq (tgt := 22) hx hb dX11_odds_5 (by decide) (fun c3 => ?_) (fun c3 => ?_)
  · have hf := c_it c3 hf
    refine lv_ldc2 hx hb hown (v := (-9223372036854775808 : Int64)) (hts _ (List.mem_of_getElem? (i := 1) rfl)) dX11_odds_22 ?_
    exact c_lret hx hb hr hlk hP hS (c_inj hf) dX11_odds_25
  · have hf := c_ie c3 hf
    refine lv_iload_n hx hb dX11_odds_8 rfl (lv_at hl 2 rfl) ?_
    refine c_goi (va_runS (As := [.int a2]) (rest := []) ⟨hx, hb, hml, hown, hts⟩ (kX11_isElder (T := TC) (g := g) rfl) (va_cwS 1 hts gX11_odds_X11_isElder rfl rfl rfl (by decide +kernel) ⟨Nat.le_of_ble_eq_true rfl, Nat.le_of_ble_eq_true rfl⟩) (c_preS hK hP hE hS) rfl rfl hl.1 rfl (lv_room (Nat.le_of_ble_eq_true rfl)) dX11_odds_9 ⟨Nat.zero_le _, Nat.zero_le _⟩) hS (fun H locs hP hS => ?_)
    refine lv_if_eq (tgt := 22) hx hb dX11_odds_12 (by decide) (fun c4 => ?_) (fun c4 => ?_)
    · have hf := c_it c4 hf
      refine lv_ldc2 hx hb hown (v := (-9223372036854775808 : Int64)) (hts _ (List.mem_of_getElem? (i := 1) rfl)) dX11_odds_22 ?_
      exact c_lret hx hb hr hlk hP hS (c_inj hf) dX11_odds_25
    · have hf := c_ie c4 hf
      refine lv_iload_n hx hb dX11_odds_15 rfl (lv_at hl 3 rfl) ?_
      refine c_goi (va_runS (As := [.int a3]) (rest := []) ⟨hx, hb, hml, hown, hts⟩ (kX11_isPart (T := TC) (g := g) rfl) (va_cwS 1 hts gX11_odds_X11_isPart rfl rfl rfl (by decide +kernel) ⟨Nat.le_of_ble_eq_true rfl, Nat.le_of_ble_eq_true rfl⟩) (c_preS hK hP hE hS) rfl rfl hl.1 rfl (lv_room (Nat.le_of_ble_eq_true rfl)) dX11_odds_16 ⟨Nat.zero_le _, Nat.zero_le _⟩) hS (fun H locs hP hS => ?_)
      refine lv_if_ne (tgt := 26) hx hb dX11_odds_19 (by decide) (fun c5 => ?_) (fun c5 => ?_)
      · have hf := c_ie c5 hf
        refine lv_aload_n hx hb dX11_odds_26 rfl (lv_at hl 0 rfl) ?_
        refine lv_iload_n hx hb dX11_odds_27 rfl (lv_at hl 1 rfl) ?_
        refine lv_iload_n hx hb dX11_odds_28 rfl (lv_at hl 2 rfl) ?_
        obtain ⟨g7, r8, hc6, hf⟩ := c_b2E hf
        refine c_goi (va_runV (As := [.int a1, .int a2]) (rest := []) ⟨hx, hb, hml, hown, hts⟩ (kX11_saysNow hD hc6) (cwV 2 hts gX11_odds_X11_saysNow rfl rfl rfl (by decide +kernel) ⟨Nat.le_of_ble_eq_true rfl, Nat.le_of_ble_eq_true rfl⟩) (c_preV hK hP hE hS tC0 rfl) rfl rfl hl.1 rfl (lv_room (Nat.le_of_ble_eq_true rfl)) dX11_odds_29 ⟨Nat.zero_le _, Nat.zero_le _⟩) hS (fun H locs hP hS => ?_)
        refine lv_bipush (v := (-5 : Int32)) hx hb dX11_odds_32 (by decide) ?_
        refine lv_icmp_eq (tgt := 41) hx hb dX11_odds_34 (by decide) (fun c9 => ?_) (fun c9 => ?_)
        · have hf := c_it c9 hf
          refine lv_iconst (v := (0 : Int32)) hx hb dX11_odds_41 (by decide) ?_
          exact jX11_odds_42 C hD a3 ((0 : Int32)) g7 hf _ _ hP hS _ (lv_sub hl [3] rfl)
        · have hf := c_ie c9 hf
          refine lv_iconst (v := (1 : Int32)) hx hb dX11_odds_37 (by decide) ?_
          refine lv_goto (tgt := 42) hx hb dX11_odds_38 (by decide) ?_
          exact jX11_odds_42 C hD a3 ((1 : Int32)) g7 hf _ _ hP hS _ (lv_sub hl [3] rfl)
      · have hf := c_it c5 hf
        refine lv_ldc2 hx hb hown (v := (-9223372036854775808 : Int64)) (hts _ (List.mem_of_getElem? (i := 1) rfl)) dX11_odds_22 ?_
        exact c_lret hx hb hr hlk hP hS (c_inj hf) dX11_odds_25
theorem dX11_commonDivisor_0 : decode cX11_commonDivisor 0 = .ok (.iload_n 1, 1) := by decide +kernel
theorem dX11_commonDivisor_1 : decode cX11_commonDivisor 1 = .ok (.istore_n 2, 1) := by decide +kernel
theorem dX11_commonDivisor_2 : decode cX11_commonDivisor 2 = .ok (.iload_n 2, 1) := by decide +kernel
theorem dX11_commonDivisor_3 : decode cX11_commonDivisor 3 = .ok (.iconst 1, 1) := by decide +kernel
theorem dX11_commonDivisor_4 : decode cX11_commonDivisor 4 = .ok (.if_icmp .le 23, 3) := by decide +kernel
theorem dX11_commonDivisor_7 : decode cX11_commonDivisor 7 = .ok (.iload_n 0, 1) := by decide +kernel
theorem dX11_commonDivisor_8 : decode cX11_commonDivisor 8 = .ok (.iload_n 2, 1) := by decide +kernel
theorem dX11_commonDivisor_9 : decode cX11_commonDivisor 9 = .ok (.irem, 1) := by decide +kernel
theorem dX11_commonDivisor_10 : decode cX11_commonDivisor 10 = .ok (.ifCond .ne 11, 3) := by decide +kernel
theorem dX11_commonDivisor_13 : decode cX11_commonDivisor 13 = .ok (.iload_n 1, 1) := by decide +kernel
theorem dX11_commonDivisor_14 : decode cX11_commonDivisor 14 = .ok (.iload_n 2, 1) := by decide +kernel
theorem dX11_commonDivisor_15 : decode cX11_commonDivisor 15 = .ok (.irem, 1) := by decide +kernel
theorem dX11_commonDivisor_16 : decode cX11_commonDivisor 16 = .ok (.ifCond .ne 5, 3) := by decide +kernel
theorem dX11_commonDivisor_19 : decode cX11_commonDivisor 19 = .ok (.iload_n 2, 1) := by decide +kernel
theorem dX11_commonDivisor_20 : decode cX11_commonDivisor 20 = .ok (.ireturn, 1) := by decide +kernel
theorem dX11_commonDivisor_21 : decode cX11_commonDivisor 21 = .ok (.iinc 2 (-1), 3) := by decide +kernel
theorem dX11_commonDivisor_24 : decode cX11_commonDivisor 24 = .ok (.goto (-22), 3) := by decide +kernel
theorem dX11_commonDivisor_27 : decode cX11_commonDivisor 27 = .ok (.iconst 1, 1) := by decide +kernel
theorem dX11_commonDivisor_28 : decode cX11_commonDivisor 28 = .ok (.ireturn, 1) := by decide +kernel
def fX11_commonDivisor_21 (rec2 : Int32 → Int32 → Int32 → c_G → Option (Int32)) (a1 : Int32) (a2 : Int32) (x0 : Int32) (x1 : Int32) (x2 : Int32) (g : c_G) : Option (Int32) :=
  c_let (x2 + (-1 : Int32)) fun v21001 => rec2 x0 x1 v21001 g
set_option maxRecDepth 100000 in
set_option maxHeartbeats 4000000 in
theorem jX11_commonDivisor_21 {p : Program} {l : Launch} {e : Env} {s : State} {m : MethodId} {below : List Frame} {meth : Method} {c : Code} {D : va_G} {tc : Nat → ClassId} {ad : Nat → Nat} {A : Nat → Prop} {E : (Nat → Nat) × (Nat → Nat) × Nat} {a1 : Int32} {a2 : Int32} {r : Int32} (C : c_C p s m meth c D tc A E RX11 wsX11_commonDivisor cX11_commonDivisor 3 (some .int) ([.int a1, .int a2] : List Value).toArray) (hD : c_D A ad TC) {rec2 : Int32 → Int32 → Int32 → c_G → Option (Int32)} (hrec2 : ∀ (x0 : Int32) (x1 : Int32) (x2 : Int32) (g : c_G), rec2 x0 x1 x2 g = some r → ∀ (H : Heap) (locs : List Loc), va_P D vwCl (c_ws tc ad TC g) H → va_S A s.heap H locs → ∀ ls : Array Slot, lv_has ls 3 [(0, .int x0), (1, .int x1), (2, .int x2)] → W p l e (c_rm 0) s m ([.int a1, .int a2] : List Value).toArray below meth c H locs 0 0 (MQ below (va_Qi (fun (x : Int32) (_ : Unit) => x = r) (fun _ t => va_P D vwCl (c_ws tc ad TC g) t.heap) A) ([.int a1, .int a2] : List Value).toArray s 0 0 A) (F0 m 2 ls [])) : ∀ (x0 : Int32) (x1 : Int32) (x2 : Int32) (g : c_G), fX11_commonDivisor_21 rec2 a1 a2 x0 x1 x2 g = some r → ∀ (H : Heap) (locs : List Loc), va_P D vwCl (c_ws tc ad TC g) H → va_S A s.heap H locs → ∀ ls : Array Slot, lv_has ls 3 [(0, .int x0), (1, .int x1), (2, .int x2)] → W p l e (c_rm 0) s m ([.int a1, .int a2] : List Value).toArray below meth c H locs 0 0 (MQ below (va_Qi (fun (x : Int32) (_ : Unit) => x = r) (fun _ t => va_P D vwCl (c_ws tc ad TC g) t.heap) A) ([.int a1, .int a2] : List Value).toArray s 0 0 A) (F0 m 21 ls []) := by
  obtain ⟨hx, hb, hr, hml, hts, hown, hlk, hK, hE⟩ := id C
  intro x0 x1 x2 g hf H locs hP hS ls hl
  unfold fX11_commonDivisor_21 at hf
  obtain ⟨v21001, ev21001, hf⟩ := c_letE hf
  refine lv_iinc (v := v21001) (lv' := [(2, .int v21001), (0, .int x0), (1, .int x1)]) hx hb dX11_commonDivisor_21 hl (k := 2) rfl (by rw [ev21001]; rfl) (by decide) rfl (fun ls hl => ?_)
  refine lv_goto (tgt := 2) hx hb dX11_commonDivisor_24 (by decide) ?_
  exact hrec2 x0 x1 v21001 g hf _ _ hP hS _ (lv_sub hl [1, 2, 0] rfl)
def fX11_commonDivisor_2  (a1 : Int32) (a2 : Int32) : Nat → Int32 → Int32 → Int32 → c_G → Option (Int32)
  | 0, _, _, _, _ => none
  | n + 1, x0, x1, x2, g => if x2 ≤ (1 : Int32) then (some (1 : Int32)) else (if x2 = 0 then none else if (x0 - x0 / x2 * x2) = 0 then (if x2 = 0 then none else if (x1 - x1 / x2 * x2) = 0 then (some x2) else (fX11_commonDivisor_21 (fX11_commonDivisor_2 a1 a2 n) a1 a2 x0 x1 x2 g)) else (fX11_commonDivisor_21 (fX11_commonDivisor_2 a1 a2 n) a1 a2 x0 x1 x2 g))
set_option maxRecDepth 100000 in
set_option maxHeartbeats 4000000 in
theorem jX11_commonDivisor_2 {p : Program} {l : Launch} {e : Env} {s : State} {m : MethodId} {below : List Frame} {meth : Method} {c : Code} {D : va_G} {tc : Nat → ClassId} {ad : Nat → Nat} {A : Nat → Prop} {E : (Nat → Nat) × (Nat → Nat) × Nat} {a1 : Int32} {a2 : Int32} {r : Int32} (C : c_C p s m meth c D tc A E RX11 wsX11_commonDivisor cX11_commonDivisor 3 (some .int) ([.int a1, .int a2] : List Value).toArray) (hD : c_D A ad TC)  : ∀ (n : Nat) (x0 : Int32) (x1 : Int32) (x2 : Int32) (g : c_G), fX11_commonDivisor_2 a1 a2 n x0 x1 x2 g = some r → ∀ (H : Heap) (locs : List Loc), va_P D vwCl (c_ws tc ad TC g) H → va_S A s.heap H locs → ∀ ls : Array Slot, lv_has ls 3 [(0, .int x0), (1, .int x1), (2, .int x2)] → W p l e (c_rm 0) s m ([.int a1, .int a2] : List Value).toArray below meth c H locs 0 0 (MQ below (va_Qi (fun (x : Int32) (_ : Unit) => x = r) (fun _ t => va_P D vwCl (c_ws tc ad TC g) t.heap) A) ([.int a1, .int a2] : List Value).toArray s 0 0 A) (F0 m 2 ls []) := by
  obtain ⟨hx, hb, hr, hml, hts, hown, hlk, hK, hE⟩ := id C
  intro n
  induction n with
  | zero =>
    intro x0 x1 x2 g hf
    cases hf
  | succ n ih =>
    intro x0 x1 x2 g hf H locs hP hS ls hl
    unfold fX11_commonDivisor_2 at hf
    refine lv_iload_n hx hb dX11_commonDivisor_2 rfl (lv_at hl 2 rfl) ?_
    refine lv_iconst (v := (1 : Int32)) hx hb dX11_commonDivisor_3 (by decide) ?_
    refine lv_icmp_le (tgt := 27) hx hb dX11_commonDivisor_4 (by decide) (fun c2001 => ?_) (fun c2001 => ?_)
    · have hf := c_it c2001 hf
      refine lv_iconst (v := (1 : Int32)) hx hb dX11_commonDivisor_27 (by decide) ?_
      exact c_iret hx hb hr hlk hP hS rfl ⟨rfl, Option.some.inj hf⟩ dX11_commonDivisor_28
    · have hf := c_ie c2001 hf
      refine lv_iload_n hx hb dX11_commonDivisor_7 rfl (lv_at hl 0 rfl) ?_
      refine lv_iload_n hx hb dX11_commonDivisor_8 rfl (lv_at hl 2 rfl) ?_
      obtain ⟨hz2002, hf⟩ := c_gn hf
      refine lv_irem hx hb dX11_commonDivisor_9 hz2002 ?_
      refine lv_if_ne (tgt := 21) hx hb dX11_commonDivisor_10 (by decide) (fun c2003 => ?_) (fun c2003 => ?_)
      · have hf := c_ie c2003 hf
        exact jX11_commonDivisor_21 C hD ih x0 x1 x2 g hf _ _ hP hS _ (lv_sub hl [0, 1, 2] rfl)
      · have hf := c_it c2003 hf
        refine lv_iload_n hx hb dX11_commonDivisor_13 rfl (lv_at hl 1 rfl) ?_
        refine lv_iload_n hx hb dX11_commonDivisor_14 rfl (lv_at hl 2 rfl) ?_
        obtain ⟨hz2004, hf⟩ := c_gn hf
        refine lv_irem hx hb dX11_commonDivisor_15 hz2004 ?_
        refine lv_if_ne (tgt := 21) hx hb dX11_commonDivisor_16 (by decide) (fun c2005 => ?_) (fun c2005 => ?_)
        · have hf := c_ie c2005 hf
          exact jX11_commonDivisor_21 C hD ih x0 x1 x2 g hf _ _ hP hS _ (lv_sub hl [0, 1, 2] rfl)
        · have hf := c_it c2005 hf
          refine lv_iload_n hx hb dX11_commonDivisor_19 rfl (lv_at hl 2 rfl) ?_
          exact c_iret hx hb hr hlk hP hS rfl ⟨rfl, Option.some.inj hf⟩ dX11_commonDivisor_20
def fX11_commonDivisor (g : c_G) (a1 : Int32) (a2 : Int32) : Option (Int32) :=
  fX11_commonDivisor_2 a1 a2 c_F a1 a2 a2 g
set_option maxRecDepth 100000 in
set_option maxHeartbeats 4000000 in
theorem kX11_commonDivisor {l : Launch} {D : va_G} {tc : Nat → ClassId} {ad : Nat → Nat} {A : Nat → Prop} {E : (Nat → Nat) × (Nat → Nat) × Nat} (hD : c_D A ad TC) {a1 : Int32} {a2 : Int32} {g : c_G} {r : Int32} (hf : fX11_commonDivisor g a1 a2 = some r) : c_Mi l yX11_commonDivisor wsX11_commonDivisor (c_rm 0) D tc ad A E TC ([.int a1, .int a2] : List Value) g g r := by
  refine c_ofW (bytes := cX11_commonDivisor) (maxL := 3) (ret := (some .int)) (by decide) rfl (Nat.le_of_ble_eq_true rfl) ?_
  intro p e s m below meth c ls C hP hS hl
  unfold fX11_commonDivisor at hf
  obtain ⟨hx, hb, hr, hml, hts, hown, hlk, hK, hE⟩ := id C
  have hl : lv_has ls 3 [(0, .int a1), (1, .int a2)] := hl
  refine lv_iload_n hx hb dX11_commonDivisor_0 rfl (lv_at hl 1 rfl) ?_
  refine lv_istore_n (lv' := [(2, .int a2), (0, .int a1), (1, .int a2)]) hx hb dX11_commonDivisor_1 rfl hl (by decide) rfl (fun ls hl => ?_)
  exact jX11_commonDivisor_2 C hD c_F a1 a2 a2 g hf _ _ hP hS _ (lv_sub hl [1, 2, 0] rfl)
theorem i_X11_mean_X7 : ∀ w ∈ u_ws RX7 TX7 17, w ∈ wsX11_mean := c_inP [176, 177, 178, 179, 180, 181, 182, 183, 184, 185, 186, 187, 188, 189, 190, 191, 192] (by decide +kernel)
theorem i_X11_mean_X11 : ∀ w ∈ u_ws RX11 TX11 19, w ∈ wsX11_mean := c_inP [157, 158, 159, 160, 161, 162, 163, 164, 165, 166, 167, 168, 169, 170, 171, 172, 173, 174, 175] (by decide +kernel)
theorem dX11_mean_0 : decode cX11_mean 0 = .ok (.iload_n 1, 1) := by decide +kernel
theorem dX11_mean_1 : decode cX11_mean 1 = .ok (.invokestatic 217, 3) := by decide +kernel
theorem dX11_mean_4 : decode cX11_mean 4 = .ok (.ifCond .eq 20, 3) := by decide +kernel
theorem dX11_mean_7 : decode cX11_mean 7 = .ok (.iload_n 2, 1) := by decide +kernel
theorem dX11_mean_8 : decode cX11_mean 8 = .ok (.invokestatic 249, 3) := by decide +kernel
theorem dX11_mean_11 : decode cX11_mean 11 = .ok (.ifCond .eq 13, 3) := by decide +kernel
theorem dX11_mean_14 : decode cX11_mean 14 = .ok (.aload_n 0, 1) := by decide +kernel
theorem dX11_mean_15 : decode cX11_mean 15 = .ok (.getfield 88, 3) := by decide +kernel
theorem dX11_mean_18 : decode cX11_mean 18 = .ok (.getfield 111, 3) := by decide +kernel
theorem dX11_mean_21 : decode cX11_mean 21 = .ok (.ifCond .ne 7, 3) := by decide +kernel
theorem dX11_mean_24 : decode cX11_mean 24 = .ok (.ldc2_w 252, 3) := by decide +kernel
theorem dX11_mean_27 : decode cX11_mean 27 = .ok (.lreturn, 1) := by decide +kernel
theorem dX11_mean_28 : decode cX11_mean 28 = .ok (.aload_n 0, 1) := by decide +kernel
theorem dX11_mean_29 : decode cX11_mean 29 = .ok (.getfield 95, 3) := by decide +kernel
theorem dX11_mean_32 : decode cX11_mean 32 = .ok (.aload_n 0, 1) := by decide +kernel
theorem dX11_mean_33 : decode cX11_mean 33 = .ok (.getfield 88, 3) := by decide +kernel
theorem dX11_mean_36 : decode cX11_mean 36 = .ok (.invokevirtual 224, 3) := by decide +kernel
theorem dX11_mean_39 : decode cX11_mean 39 = .ok (.aload_n 0, 1) := by decide +kernel
theorem dX11_mean_40 : decode cX11_mean 40 = .ok (.aload_n 0, 1) := by decide +kernel
theorem dX11_mean_41 : decode cX11_mean 41 = .ok (.getfield 95, 3) := by decide +kernel
theorem dX11_mean_44 : decode cX11_mean 44 = .ok (.iload_n 1, 1) := by decide +kernel
theorem dX11_mean_45 : decode cX11_mean 45 = .ok (.ldc 228, 2) := by decide +kernel
theorem dX11_mean_47 : decode cX11_mean 47 = .ok (.invokevirtual 220, 3) := by decide +kernel
theorem dX11_mean_50 : decode cX11_mean 50 = .ok (.iconst 0, 1) := by decide +kernel
theorem dX11_mean_51 : decode cX11_mean 51 = .ok (.istore_n 3, 1) := by decide +kernel
theorem dX11_mean_52 : decode cX11_mean 52 = .ok (.iconst 0, 1) := by decide +kernel
theorem dX11_mean_53 : decode cX11_mean 53 = .ok (.istore 4, 2) := by decide +kernel
theorem dX11_mean_55 : decode cX11_mean 55 = .ok (.iload 4, 2) := by decide +kernel
theorem dX11_mean_57 : decode cX11_mean 57 = .ok (.aload_n 0, 1) := by decide +kernel
theorem dX11_mean_58 : decode cX11_mean 58 = .ok (.getfield 95, 3) := by decide +kernel
theorem dX11_mean_61 : decode cX11_mean 61 = .ok (.getfield 111, 3) := by decide +kernel
theorem dX11_mean_64 : decode cX11_mean 64 = .ok (.if_icmp .ge 25, 3) := by decide +kernel
theorem dX11_mean_67 : decode cX11_mean 67 = .ok (.iload_n 3, 1) := by decide +kernel
theorem dX11_mean_68 : decode cX11_mean 68 = .ok (.aload_n 0, 1) := by decide +kernel
theorem dX11_mean_69 : decode cX11_mean 69 = .ok (.getfield 95, 3) := by decide +kernel
theorem dX11_mean_72 : decode cX11_mean 72 = .ok (.getfield 128, 3) := by decide +kernel
theorem dX11_mean_75 : decode cX11_mean 75 = .ok (.iload 4, 2) := by decide +kernel
theorem dX11_mean_77 : decode cX11_mean 77 = .ok (.iaload, 1) := by decide +kernel
theorem dX11_mean_78 : decode cX11_mean 78 = .ok (.invokestatic 256, 3) := by decide +kernel
theorem dX11_mean_81 : decode cX11_mean 81 = .ok (.iadd, 1) := by decide +kernel
theorem dX11_mean_82 : decode cX11_mean 82 = .ok (.istore_n 3, 1) := by decide +kernel
theorem dX11_mean_83 : decode cX11_mean 83 = .ok (.iinc 4 1, 3) := by decide +kernel
theorem dX11_mean_86 : decode cX11_mean 86 = .ok (.goto (-31), 3) := by decide +kernel
theorem dX11_mean_89 : decode cX11_mean 89 = .ok (.iload_n 2, 1) := by decide +kernel
theorem dX11_mean_90 : decode cX11_mean 90 = .ok (.ifCond .ne 7, 3) := by decide +kernel
theorem dX11_mean_93 : decode cX11_mean 93 = .ok (.iload_n 3, 1) := by decide +kernel
theorem dX11_mean_94 : decode cX11_mean 94 = .ok (.goto 10, 3) := by decide +kernel
theorem dX11_mean_97 : decode cX11_mean 97 = .ok (.aload_n 0, 1) := by decide +kernel
theorem dX11_mean_98 : decode cX11_mean 98 = .ok (.getfield 88, 3) := by decide +kernel
theorem dX11_mean_101 : decode cX11_mean 101 = .ok (.getfield 111, 3) := by decide +kernel
theorem dX11_mean_104 : decode cX11_mean 104 = .ok (.iload_n 3, 1) := by decide +kernel
theorem dX11_mean_105 : decode cX11_mean 105 = .ok (.aload_n 0, 1) := by decide +kernel
theorem dX11_mean_106 : decode cX11_mean 106 = .ok (.getfield 88, 3) := by decide +kernel
theorem dX11_mean_109 : decode cX11_mean 109 = .ok (.getfield 111, 3) := by decide +kernel
theorem dX11_mean_112 : decode cX11_mean 112 = .ok (.invokestatic 261, 3) := by decide +kernel
theorem dX11_mean_115 : decode cX11_mean 115 = .ok (.idiv, 1) := by decide +kernel
theorem dX11_mean_116 : decode cX11_mean 116 = .ok (.i2l, 1) := by decide +kernel
theorem dX11_mean_117 : decode cX11_mean 117 = .ok (.lreturn, 1) := by decide +kernel
set_option maxRecDepth 20000 in
theorem ggX11_mean_X11_areSundays : GoodIn wsX11_mean wsX11_areSundays := goodIn_r _ [10] (by decide +kernel) (by decide +kernel)
set_option maxRecDepth 20000 in
theorem gX11_mean_X11_areSundays : GoodIn wsX11_mean (va_wsS RX11 217 yX11_areSundays wsX11_areSundays) := goodIn_app (goodIn_of _ (by decide +kernel)) ggX11_mean_X11_areSundays
set_option maxRecDepth 20000 in
theorem ggX11_mean_X11_isPart : GoodIn wsX11_mean wsX11_isPart := goodIn_r _ [13] (by decide +kernel) (by decide +kernel)
set_option maxRecDepth 20000 in
theorem gX11_mean_X11_isPart : GoodIn wsX11_mean (va_wsS RX11 249 yX11_isPart wsX11_isPart) := goodIn_app (goodIn_of _ (by decide +kernel)) ggX11_mean_X11_isPart
set_option maxRecDepth 20000 in
theorem ggX11_mean_X7_copyFrom : GoodIn wsX11_mean wsX7_copyFrom := goodIn_r _ [18, 19, 20, 21, 22, 23, 24, 25, 26, 27, 28, 29, 30, 31, 32, 33, 34, 35, 36, 37, 38, 39, 40, 41, 42, 43, 44, 45, 46, 47, 48, 49, 176, 177, 178, 179, 180, 181, 182, 183, 184, 185, 186, 187, 188, 189, 190, 191, 192, 193, 194, 195, 196] (by decide +kernel) (by decide +kernel)
set_option maxRecDepth 20000 in
theorem gX11_mean_X7_copyFrom : GoodIn wsX11_mean (wsV RX11 224 RX7 yX7_copyFrom wsX7_copyFrom) := goodIn_app (goodIn_of _ (by decide +kernel)) ggX11_mean_X7_copyFrom
set_option maxRecDepth 20000 in
theorem ggX11_mean_X11_letGo : GoodIn wsX11_mean wsX11_letGo := goodIn_r _ [53, 2, 54, 55, 56, 57, 9, 58, 59, 6, 60, 61, 62, 63, 64, 65, 66, 67, 68, 69, 17, 70, 24, 26, 71, 72, 73, 74, 75, 76, 77, 78, 79, 80, 81, 82, 83, 84, 85, 86, 87, 88, 89, 90, 91, 92, 93, 94, 95, 96, 97, 98, 99, 100, 101, 102, 103, 104, 105, 106, 107, 108, 109, 110, 111, 112, 113, 114, 115, 116, 117, 118, 119, 120, 121, 122, 123, 124, 125, 126, 127, 128, 129, 130, 131, 132, 133, 134, 135, 136, 137, 138, 27, 139, 140, 141, 142, 143, 144, 145, 39, 146, 29, 33, 32, 28, 176, 177, 178, 179, 180, 181, 182, 183, 184, 185, 186, 187, 188, 189, 190, 191, 192, 157, 158, 159, 160, 161, 162, 163, 164, 165, 166, 167, 168, 169, 170, 171, 172, 173, 174, 175, 197, 198, 199, 200, 201, 202, 203, 204] (by decide +kernel) (by decide +kernel)
set_option maxRecDepth 20000 in
theorem gX11_mean_X11_letGo : GoodIn wsX11_mean (wsV RX11 220 RX11 yX11_letGo wsX11_letGo) := goodIn_app (goodIn_of _ (by decide +kernel)) ggX11_mean_X11_letGo
set_option maxRecDepth 20000 in
theorem ggX11_mean_J6_bitCount_0f7a4 : GoodIn wsX11_mean wsJ6_bitCount_0f7a4 := goodIn_r _ [150, 151, 152, 153] (by decide +kernel) (by decide +kernel)
set_option maxRecDepth 20000 in
theorem gX11_mean_J6_bitCount_0f7a4 : GoodIn wsX11_mean (va_wsS RX11 256 yJ6_bitCount_0f7a4 wsJ6_bitCount_0f7a4) := goodIn_app (goodIn_of _ (by decide +kernel)) ggX11_mean_J6_bitCount_0f7a4
set_option maxRecDepth 20000 in
theorem ggX11_mean_X11_commonDivisor : GoodIn wsX11_mean wsX11_commonDivisor := goodIn_r _ [156] (by decide +kernel) (by decide +kernel)
set_option maxRecDepth 20000 in
theorem gX11_mean_X11_commonDivisor : GoodIn wsX11_mean (va_wsS RX11 261 yX11_commonDivisor wsX11_commonDivisor) := goodIn_app (goodIn_of _ (by decide +kernel)) ggX11_mean_X11_commonDivisor
def fX11_mean_104  (a1 : Int32) (a2 : Int32) (x3 : Int32) (y0 : Int32) (g : c_G) : Option (c_G × Int64) :=
  (fX11_commonDivisor g x3 ((g.1 55 6))).bind fun r104001 => if r104001 = 0 then none else some (g, (((y0 / r104001)).toInt64))
set_option maxRecDepth 100000 in
set_option maxHeartbeats 4000000 in
theorem jX11_mean_104 {p : Program} {l : Launch} {e : Env} {s : State} {m : MethodId} {below : List Frame} {meth : Method} {c : Code} {D : va_G} {tc : Nat → ClassId} {ad : Nat → Nat} {A : Nat → Prop} {E : (Nat → Nat) × (Nat → Nat) × Nat} {a1 : Int32} {a2 : Int32} {g' : c_G} {r : Int64} (C : c_C p s m meth c D tc A E RX11 wsX11_mean cX11_mean 5 (some .long) ([.ref (ad 0), .int a1, .int a2] : List Value).toArray) (hD : c_D A ad TC)  : ∀ (x3 : Int32) (y0 : Int32) (g : c_G), fX11_mean_104 a1 a2 x3 y0 g = some (g', r) → ∀ (H : Heap) (locs : List Loc), va_P D vwCl (c_ws tc ad TC g) H → va_S A s.heap H locs → ∀ ls : Array Slot, lv_has ls 5 [(0, .ref (ad 0)), (3, .int x3)] → W p l e (c_rm 6) s m ([.ref (ad 0), .int a1, .int a2] : List Value).toArray below meth c H locs 0 0 (MQ below (va_Ql (fun (x : Int64) (_ : Unit) => x = r) (fun _ t => va_P D vwCl (c_ws tc ad TC g') t.heap) A) ([.ref (ad 0), .int a1, .int a2] : List Value).toArray s 0 0 A) (F0 m 104 ls [.int y0]) := by
  obtain ⟨hx, hb, hr, hml, hts, hown, hlk, hK, hE⟩ := id C
  intro x3 y0 g hf H locs hP hS ls hl
  unfold fX11_mean_104 at hf
  refine lv_iload_n hx hb dX11_mean_104 rfl (lv_at hl 1 rfl) ?_
  refine lv_aload_n hx hb dX11_mean_105 rfl (lv_at hl 0 rfl) ?_
  refine c_get hx hb hts i_X11_mean_X11 hown hK hP 0 tC0 rfl 5 (by decide) (hts _ (List.mem_of_getElem? (i := 1) rfl)) (fun _ h9 => h9) rfl (v := .ref (ad 55)) rfl dX11_mean_106 ?_
  refine c_get hx hb hts i_X11_mean_X7 hown hK hP 55 tC55 rfl 6 (by decide) (hts _ (List.mem_of_getElem? (i := 2) rfl)) (fun _ h9 => h9) rfl (v := .int (g.1 55 6)) rfl dX11_mean_109 ?_
  obtain ⟨r104001, hc104002, hf⟩ := c_bd hf
  refine c_goi (va_runS (As := [.int x3, .int (g.1 55 6)]) (rest := [.int y0]) ⟨hx, hb, hml, hown, hts⟩ (kX11_commonDivisor hD hc104002) (va_cwS 2 hts gX11_mean_X11_commonDivisor rfl rfl rfl (by decide +kernel) ⟨Nat.le_of_ble_eq_true rfl, Nat.le_of_ble_eq_true rfl⟩) (c_preS hK hP hE hS) rfl rfl hl.1 rfl (lv_room (Nat.le_of_ble_eq_true rfl)) dX11_mean_112 ⟨Nat.zero_le _, Nat.zero_le _⟩) hS (fun H locs hP hS => ?_)
  obtain ⟨hz104003, hf⟩ := c_gn hf
  refine lv_idiv hx hb dX11_mean_115 hz104003 ?_
  refine lv_i2l hx hb dX11_mean_116 rfl ?_
  exact c_lret hx hb hr hlk hP hS (c_inj hf) dX11_mean_117
def fX11_mean_55  (a1 : Int32) (a2 : Int32) : Nat → Int32 → Int32 → Int32 → c_G → Option (c_G × Int64)
  | 0, _, _, _, _ => none
  | n + 1, x2, x3, x4, g => if (g.1 101 6) ≤ x4 then (if x2 = 0 then (fX11_mean_104 a1 a2 x3 x3 g) else (fX11_mean_104 a1 a2 x3 ((g.1 55 6)) g)) else (if c_in (x4) (6) = true then c_let ((x3 + (fJ6_bitCount_0f7a4 ((g.1 108 (x4).toNatClampNeg))))) fun v55004 => c_let (x4 + (1 : Int32)) fun v55005 => (fX11_mean_55 a1 a2 n) x2 v55004 v55005 g else none)
set_option maxRecDepth 100000 in
set_option maxHeartbeats 4000000 in
theorem jX11_mean_55 {p : Program} {l : Launch} {e : Env} {s : State} {m : MethodId} {below : List Frame} {meth : Method} {c : Code} {D : va_G} {tc : Nat → ClassId} {ad : Nat → Nat} {A : Nat → Prop} {E : (Nat → Nat) × (Nat → Nat) × Nat} {a1 : Int32} {a2 : Int32} {g' : c_G} {r : Int64} (C : c_C p s m meth c D tc A E RX11 wsX11_mean cX11_mean 5 (some .long) ([.ref (ad 0), .int a1, .int a2] : List Value).toArray) (hD : c_D A ad TC)  : ∀ (n : Nat) (x2 : Int32) (x3 : Int32) (x4 : Int32) (g : c_G), fX11_mean_55 a1 a2 n x2 x3 x4 g = some (g', r) → ∀ (H : Heap) (locs : List Loc), va_P D vwCl (c_ws tc ad TC g) H → va_S A s.heap H locs → ∀ ls : Array Slot, lv_has ls 5 [(0, .ref (ad 0)), (2, .int x2), (3, .int x3), (4, .int x4)] → W p l e (c_rm 6) s m ([.ref (ad 0), .int a1, .int a2] : List Value).toArray below meth c H locs 0 0 (MQ below (va_Ql (fun (x : Int64) (_ : Unit) => x = r) (fun _ t => va_P D vwCl (c_ws tc ad TC g') t.heap) A) ([.ref (ad 0), .int a1, .int a2] : List Value).toArray s 0 0 A) (F0 m 55 ls []) := by
  obtain ⟨hx, hb, hr, hml, hts, hown, hlk, hK, hE⟩ := id C
  intro n
  induction n with
  | zero =>
    intro x2 x3 x4 g hf
    cases hf
  | succ n ih =>
    intro x2 x3 x4 g hf H locs hP hS ls hl
    unfold fX11_mean_55 at hf
    refine lv_iload hx hb dX11_mean_55 (lv_at hl 3 rfl) ?_
    refine lv_aload_n hx hb dX11_mean_57 rfl (lv_at hl 0 rfl) ?_
    refine c_get hx hb hts i_X11_mean_X11 hown hK hP 0 tC0 rfl 7 (by decide) (hts _ (List.mem_of_getElem? (i := 4) rfl)) (fun _ h9 => h9) rfl (v := .ref (ad 101)) rfl dX11_mean_58 ?_
    refine c_get hx hb hts i_X11_mean_X7 hown hK hP 101 tC101 rfl 6 (by decide) (hts _ (List.mem_of_getElem? (i := 2) rfl)) (fun _ h9 => h9) rfl (v := .int (g.1 101 6)) rfl dX11_mean_61 ?_
    refine lv_icmp_ge (tgt := 89) hx hb dX11_mean_64 (by decide) (fun c55001 => ?_) (fun c55001 => ?_)
    · have hf := c_it c55001 hf
      refine lv_iload_n hx hb dX11_mean_89 rfl (lv_at hl 1 rfl) ?_
      refine lv_if_ne (tgt := 97) hx hb dX11_mean_90 (by decide) (fun c55002 => ?_) (fun c55002 => ?_)
      · have hf := c_ie c55002 hf
        refine lv_aload_n hx hb dX11_mean_97 rfl (lv_at hl 0 rfl) ?_
        refine c_get hx hb hts i_X11_mean_X11 hown hK hP 0 tC0 rfl 5 (by decide) (hts _ (List.mem_of_getElem? (i := 1) rfl)) (fun _ h9 => h9) rfl (v := .ref (ad 55)) rfl dX11_mean_98 ?_
        refine c_get hx hb hts i_X11_mean_X7 hown hK hP 55 tC55 rfl 6 (by decide) (hts _ (List.mem_of_getElem? (i := 2) rfl)) (fun _ h9 => h9) rfl (v := .int (g.1 55 6)) rfl dX11_mean_101 ?_
        exact jX11_mean_104 C hD x3 ((g.1 55 6)) g hf _ _ hP hS _ (lv_sub hl [0, 2] rfl)
      · have hf := c_it c55002 hf
        refine lv_iload_n hx hb dX11_mean_93 rfl (lv_at hl 2 rfl) ?_
        refine lv_goto (tgt := 104) hx hb dX11_mean_94 (by decide) ?_
        exact jX11_mean_104 C hD x3 x3 g hf _ _ hP hS _ (lv_sub hl [0, 2] rfl)
    · have hf := c_ie c55001 hf
      refine lv_iload_n hx hb dX11_mean_67 rfl (lv_at hl 2 rfl) ?_
      refine lv_aload_n hx hb dX11_mean_68 rfl (lv_at hl 0 rfl) ?_
      refine c_get hx hb hts i_X11_mean_X11 hown hK hP 0 tC0 rfl 7 (by decide) (hts _ (List.mem_of_getElem? (i := 4) rfl)) (fun _ h9 => h9) rfl (v := .ref (ad 101)) rfl dX11_mean_69 ?_
      refine c_get hx hb hts i_X11_mean_X7 hown hK hP 101 tC101 rfl 9 (by decide) (hts _ (List.mem_of_getElem? (i := 6) rfl)) (fun _ h9 => h9) rfl (v := .ref (ad 108)) rfl dX11_mean_72 ?_
      refine lv_iload hx hb dX11_mean_75 (lv_at hl 3 rfl) ?_
      obtain ⟨hi55003, hf⟩ := c_gd hf
      refine c_iald (j := (x4).toNatClampNeg) hx hb hK hP 108 tC108 rfl (c_inV hi55003) dX11_mean_77 ?_
      refine c_goi (va_runS (As := [.int (g.1 108 (x4).toNatClampNeg)]) (rest := [.int x3]) ⟨hx, hb, hml, hown, hts⟩ (kJ6_bitCount_0f7a4 (T := TC) (g := g) rfl) (va_cwS 1 hts gX11_mean_J6_bitCount_0f7a4 rfl rfl rfl (by decide +kernel) ⟨Nat.le_of_ble_eq_true rfl, Nat.le_of_ble_eq_true rfl⟩) (c_preS hK hP hE hS) rfl rfl hl.1 rfl (lv_room (Nat.le_of_ble_eq_true rfl)) dX11_mean_78 ⟨Nat.zero_le _, Nat.zero_le _⟩) hS (fun H locs hP hS => ?_)
      refine lv_iadd hx hb dX11_mean_81 ?_
      obtain ⟨v55004, ev55004, hf⟩ := c_letE hf
      refine c_topi ev55004 ?_
      refine lv_istore_n (lv' := [(3, .int v55004), (0, .ref (ad 0)), (2, .int x2), (4, .int x4)]) hx hb dX11_mean_82 rfl hl (by decide) rfl (fun ls hl => ?_)
      obtain ⟨v55005, ev55005, hf⟩ := c_letE hf
      refine lv_iinc (v := v55005) (lv' := [(4, .int v55005), (3, .int v55004), (0, .ref (ad 0)), (2, .int x2)]) hx hb dX11_mean_83 hl (k := 3) rfl (by rw [ev55005]; rfl) (by decide) rfl (fun ls hl => ?_)
      refine lv_goto (tgt := 55) hx hb dX11_mean_86 (by decide) ?_
      exact ih x2 v55004 v55005 g hf _ _ hP hS _ (lv_sub hl [2, 3, 1, 0] rfl)
def fX11_mean (g : c_G) (a1 : Int32) (a2 : Int32) : Option (c_G × Int64) :=
  if (fX11_areSundays a1) = 0 then (some (g, (-9223372036854775808 : Int64))) else (if (fX11_isPart a2) = 0 then (some (g, (-9223372036854775808 : Int64))) else (if (g.1 55 6) = 0 then (some (g, (-9223372036854775808 : Int64))) else ((fX7_copyFrom g 55).bind fun g5 => (fX11_letGo g5 101 a1 ((1000000 : Int32))).bind fun g7 => fX11_mean_55 a1 a2 c_F a2 ((0 : Int32)) ((0 : Int32)) g7)))
set_option maxRecDepth 100000 in
set_option maxHeartbeats 4000000 in
theorem kX11_mean {l : Launch} {D : va_G} {tc : Nat → ClassId} {ad : Nat → Nat} {A : Nat → Prop} {E : (Nat → Nat) × (Nat → Nat) × Nat} (hD : c_D A ad TC) {a1 : Int32} {a2 : Int32} {g g' : c_G} {r : Int64} (hf : fX11_mean g a1 a2 = some (g', r)) : c_Ml l yX11_mean wsX11_mean (c_rm 6) D tc ad A E TC ([.ref (ad 0), .int a1, .int a2] : List Value) g g' r := by
  refine c_ofW (bytes := cX11_mean) (maxL := 5) (ret := (some .long)) (by decide) rfl (Nat.le_of_ble_eq_true rfl) ?_
  intro p e s m below meth c ls C hP hS hl
  unfold fX11_mean at hf
  obtain ⟨hx, hb, hr, hml, hts, hown, hlk, hK, hE⟩ := id C
  have hl : lv_has ls 5 [(0, .ref (ad 0)), (1, .int a1), (2, .int a2)] := hl
  refine lv_iload_n hx hb dX11_mean_0 rfl (lv_at hl 1 rfl) ?_
  refine c_goi (va_runS (As := [.int a1]) (rest := []) ⟨hx, hb, hml, hown, hts⟩ (kX11_areSundays (T := TC) (g := g) rfl) (va_cwS 1 hts gX11_mean_X11_areSundays rfl rfl rfl (by decide +kernel) ⟨Nat.le_of_ble_eq_true rfl, Nat.le_of_ble_eq_true rfl⟩) (c_preS hK hP hE hS) rfl rfl hl.1 rfl (lv_room (Nat.le_of_ble_eq_true rfl)) dX11_mean_1 ⟨Nat.zero_le _, Nat.zero_le _⟩) hS (fun H locs hP hS => ?_)
  refine lv_if_eq (tgt := 24) hx hb dX11_mean_4 (by decide) (fun c1 => ?_) (fun c1 => ?_)
  · have hf := c_it c1 hf
    refine lv_ldc2 hx hb hown (v := (-9223372036854775808 : Int64)) (hts _ (List.mem_of_getElem? (i := 3) rfl)) dX11_mean_24 ?_
    exact c_lret hx hb hr hlk hP hS (c_inj hf) dX11_mean_27
  · have hf := c_ie c1 hf
    refine lv_iload_n hx hb dX11_mean_7 rfl (lv_at hl 2 rfl) ?_
    refine c_goi (va_runS (As := [.int a2]) (rest := []) ⟨hx, hb, hml, hown, hts⟩ (kX11_isPart (T := TC) (g := g) rfl) (va_cwS 1 hts gX11_mean_X11_isPart rfl rfl rfl (by decide +kernel) ⟨Nat.le_of_ble_eq_true rfl, Nat.le_of_ble_eq_true rfl⟩) (c_preS hK hP hE hS) rfl rfl hl.1 rfl (lv_room (Nat.le_of_ble_eq_true rfl)) dX11_mean_8 ⟨Nat.zero_le _, Nat.zero_le _⟩) hS (fun H locs hP hS => ?_)
    refine lv_if_eq (tgt := 24) hx hb dX11_mean_11 (by decide) (fun c2 => ?_) (fun c2 => ?_)
    · have hf := c_it c2 hf
      refine lv_ldc2 hx hb hown (v := (-9223372036854775808 : Int64)) (hts _ (List.mem_of_getElem? (i := 3) rfl)) dX11_mean_24 ?_
      exact c_lret hx hb hr hlk hP hS (c_inj hf) dX11_mean_27
    · have hf := c_ie c2 hf
      refine lv_aload_n hx hb dX11_mean_14 rfl (lv_at hl 0 rfl) ?_
      refine c_get hx hb hts i_X11_mean_X11 hown hK hP 0 tC0 rfl 5 (by decide) (hts _ (List.mem_of_getElem? (i := 1) rfl)) (fun _ h9 => h9) rfl (v := .ref (ad 55)) rfl dX11_mean_15 ?_
      refine c_get hx hb hts i_X11_mean_X7 hown hK hP 55 tC55 rfl 6 (by decide) (hts _ (List.mem_of_getElem? (i := 2) rfl)) (fun _ h9 => h9) rfl (v := .int (g.1 55 6)) rfl dX11_mean_18 ?_
      refine lv_if_ne (tgt := 28) hx hb dX11_mean_21 (by decide) (fun c3 => ?_) (fun c3 => ?_)
      · have hf := c_ie c3 hf
        refine lv_aload_n hx hb dX11_mean_28 rfl (lv_at hl 0 rfl) ?_
        refine c_get hx hb hts i_X11_mean_X11 hown hK hP 0 tC0 rfl 7 (by decide) (hts _ (List.mem_of_getElem? (i := 4) rfl)) (fun _ h9 => h9) rfl (v := .ref (ad 101)) rfl dX11_mean_29 ?_
        refine lv_aload_n hx hb dX11_mean_32 rfl (lv_at hl 0 rfl) ?_
        refine c_get hx hb hts i_X11_mean_X11 hown hK hP 0 tC0 rfl 5 (by decide) (hts _ (List.mem_of_getElem? (i := 1) rfl)) (fun _ h9 => h9) rfl (v := .ref (ad 55)) rfl dX11_mean_33 ?_
        obtain ⟨g5, hc4, hf⟩ := c_bd hf
        refine c_gov (va_runV (As := [.ref (ad 55)]) (rest := []) ⟨hx, hb, hml, hown, hts⟩ (kX7_copyFrom hD hc4) (cwV 1 hts gX11_mean_X7_copyFrom rfl rfl rfl (by decide +kernel) ⟨Nat.le_of_ble_eq_true rfl, Nat.le_of_ble_eq_true rfl⟩) (c_preV hK hP hE hS tC101 rfl) rfl rfl hl.1 rfl (lv_room (Nat.le_of_ble_eq_true rfl)) dX11_mean_36 ⟨Nat.zero_le _, Nat.zero_le _⟩) hS (fun H locs hP hS => ?_)
        refine lv_aload_n hx hb dX11_mean_39 rfl (lv_at hl 0 rfl) ?_
        refine lv_aload_n hx hb dX11_mean_40 rfl (lv_at hl 0 rfl) ?_
        refine c_get hx hb hts i_X11_mean_X11 hown hK hP 0 tC0 rfl 7 (by decide) (hts _ (List.mem_of_getElem? (i := 4) rfl)) (fun _ h9 => h9) rfl (v := .ref (ad 101)) rfl dX11_mean_41 ?_
        refine lv_iload_n hx hb dX11_mean_44 rfl (lv_at hl 1 rfl) ?_
        refine lv_ldc hx hb hown (v := (1000000 : Int32)) (hts _ (List.mem_of_getElem? (i := 5) rfl)) dX11_mean_45 ?_
        obtain ⟨g7, hc6, hf⟩ := c_bd hf
        refine c_gov (va_runV (As := [.ref (ad 101), .int a1, .int (1000000 : Int32)]) (rest := []) ⟨hx, hb, hml, hown, hts⟩ (kX11_letGo hD hc6) (cwV 3 hts gX11_mean_X11_letGo rfl rfl rfl (by decide +kernel) ⟨Nat.le_of_ble_eq_true rfl, Nat.le_of_ble_eq_true rfl⟩) (c_preV hK hP hE hS tC0 rfl) rfl rfl hl.1 rfl (lv_room (Nat.le_of_ble_eq_true rfl)) dX11_mean_47 ⟨Nat.zero_le _, Nat.zero_le _⟩) hS (fun H locs hP hS => ?_)
        refine lv_iconst (v := (0 : Int32)) hx hb dX11_mean_50 (by decide) ?_
        refine lv_istore_n (lv' := [(3, .int (0 : Int32)), (0, .ref (ad 0)), (1, .int a1), (2, .int a2)]) hx hb dX11_mean_51 rfl hl (by decide) rfl (fun ls hl => ?_)
        refine lv_iconst (v := (0 : Int32)) hx hb dX11_mean_52 (by decide) ?_
        refine lv_istore (lv' := [(4, .int (0 : Int32)), (3, .int (0 : Int32)), (0, .ref (ad 0)), (1, .int a1), (2, .int a2)]) hx hb dX11_mean_53 hl (by decide) rfl (fun ls hl => ?_)
        exact jX11_mean_55 C hD c_F a2 ((0 : Int32)) ((0 : Int32)) g7 hf _ _ hP hS _ (lv_sub hl [2, 4, 1, 0] rfl)
      · have hf := c_it c3 hf
        refine lv_ldc2 hx hb hown (v := (-9223372036854775808 : Int64)) (hts _ (List.mem_of_getElem? (i := 3) rfl)) dX11_mean_24 ?_
        exact c_lret hx hb hr hlk hP hS (c_inj hf) dX11_mean_27
theorem i_X11_plan_X7 : ∀ w ∈ u_ws RX7 TX7 17, w ∈ wsX11_plan := c_inP [44, 45, 46, 47, 48, 49, 50, 51, 52, 53, 54, 55, 56, 57, 58, 59, 60] (by decide +kernel)
theorem i_X11_plan_X11 : ∀ w ∈ u_ws RX11 TX11 19, w ∈ wsX11_plan := c_inP [25, 26, 27, 28, 29, 30, 31, 32, 33, 34, 35, 36, 37, 38, 39, 40, 41, 42, 43] (by decide +kernel)
theorem dX11_plan_0 : decode cX11_plan 0 = .ok (.iload_n 1, 1) := by decide +kernel
theorem dX11_plan_1 : decode cX11_plan 1 = .ok (.iconst (-1), 1) := by decide +kernel
theorem dX11_plan_2 : decode cX11_plan 2 = .ok (.if_icmp .ne 14, 3) := by decide +kernel
theorem dX11_plan_5 : decode cX11_plan 5 = .ok (.aload_n 0, 1) := by decide +kernel
theorem dX11_plan_6 : decode cX11_plan 6 = .ok (.getfield 88, 3) := by decide +kernel
theorem dX11_plan_9 : decode cX11_plan 9 = .ok (.getfield 264, 3) := by decide +kernel
theorem dX11_plan_12 : decode cX11_plan 12 = .ok (.invokevirtual 237, 3) := by decide +kernel
theorem dX11_plan_15 : decode cX11_plan 15 = .ok (.ireturn, 1) := by decide +kernel
theorem dX11_plan_16 : decode cX11_plan 16 = .ok (.iload_n 1, 1) := by decide +kernel
theorem dX11_plan_17 : decode cX11_plan 17 = .ok (.ifCond .lt 8, 3) := by decide +kernel
theorem dX11_plan_20 : decode cX11_plan 20 = .ok (.iload_n 1, 1) := by decide +kernel
theorem dX11_plan_21 : decode cX11_plan 21 = .ok (.iconst 3, 1) := by decide +kernel
theorem dX11_plan_22 : decode cX11_plan 22 = .ok (.if_icmp .le 5, 3) := by decide +kernel
theorem dX11_plan_25 : decode cX11_plan 25 = .ok (.iconst (-1), 1) := by decide +kernel
theorem dX11_plan_26 : decode cX11_plan 26 = .ok (.ireturn, 1) := by decide +kernel
theorem dX11_plan_27 : decode cX11_plan 27 = .ok (.iload_n 1, 1) := by decide +kernel
theorem dX11_plan_28 : decode cX11_plan 28 = .ok (.iconst 1, 1) := by decide +kernel
theorem dX11_plan_29 : decode cX11_plan 29 = .ok (.if_icmp .ne 30, 3) := by decide +kernel
theorem dX11_plan_32 : decode cX11_plan 32 = .ok (.iload_n 2, 1) := by decide +kernel
theorem dX11_plan_33 : decode cX11_plan 33 = .ok (.ifCond .lt 24, 3) := by decide +kernel
theorem dX11_plan_36 : decode cX11_plan 36 = .ok (.aload_n 0, 1) := by decide +kernel
theorem dX11_plan_37 : decode cX11_plan 37 = .ok (.iload_n 2, 1) := by decide +kernel
theorem dX11_plan_38 : decode cX11_plan 38 = .ok (.bipush 10, 2) := by decide +kernel
theorem dX11_plan_40 : decode cX11_plan 40 = .ok (.idiv, 1) := by decide +kernel
theorem dX11_plan_41 : decode cX11_plan 41 = .ok (.invokevirtual 119, 3) := by decide +kernel
theorem dX11_plan_44 : decode cX11_plan 44 = .ok (.ifCond .eq 13, 3) := by decide +kernel
theorem dX11_plan_47 : decode cX11_plan 47 = .ok (.iload_n 2, 1) := by decide +kernel
theorem dX11_plan_48 : decode cX11_plan 48 = .ok (.bipush 10, 2) := by decide +kernel
theorem dX11_plan_50 : decode cX11_plan 50 = .ok (.irem, 1) := by decide +kernel
theorem dX11_plan_51 : decode cX11_plan 51 = .ok (.invokestatic 141, 3) := by decide +kernel
theorem dX11_plan_54 : decode cX11_plan 54 = .ok (.ifCond .ne 5, 3) := by decide +kernel
theorem dX11_plan_57 : decode cX11_plan 57 = .ok (.iconst (-1), 1) := by decide +kernel
theorem dX11_plan_58 : decode cX11_plan 58 = .ok (.ireturn, 1) := by decide +kernel
theorem dX11_plan_59 : decode cX11_plan 59 = .ok (.iload_n 1, 1) := by decide +kernel
theorem dX11_plan_60 : decode cX11_plan 60 = .ok (.iconst 1, 1) := by decide +kernel
theorem dX11_plan_61 : decode cX11_plan 61 = .ok (.if_icmp .le 12, 3) := by decide +kernel
theorem dX11_plan_64 : decode cX11_plan 64 = .ok (.iload_n 2, 1) := by decide +kernel
theorem dX11_plan_65 : decode cX11_plan 65 = .ok (.invokestatic 141, 3) := by decide +kernel
theorem dX11_plan_68 : decode cX11_plan 68 = .ok (.ifCond .ne 5, 3) := by decide +kernel
theorem dX11_plan_71 : decode cX11_plan 71 = .ok (.iconst (-1), 1) := by decide +kernel
theorem dX11_plan_72 : decode cX11_plan 72 = .ok (.ireturn, 1) := by decide +kernel
theorem dX11_plan_73 : decode cX11_plan 73 = .ok (.aload_n 0, 1) := by decide +kernel
theorem dX11_plan_74 : decode cX11_plan 74 = .ok (.getfield 88, 3) := by decide +kernel
theorem dX11_plan_77 : decode cX11_plan 77 = .ok (.getfield 264, 3) := by decide +kernel
theorem dX11_plan_80 : decode cX11_plan 80 = .ok (.iload_n 1, 1) := by decide +kernel
theorem dX11_plan_81 : decode cX11_plan 81 = .ok (.iload_n 2, 1) := by decide +kernel
theorem dX11_plan_82 : decode cX11_plan 82 = .ok (.iconst 0, 1) := by decide +kernel
theorem dX11_plan_83 : decode cX11_plan 83 = .ok (.invokevirtual 242, 3) := by decide +kernel
theorem dX11_plan_86 : decode cX11_plan 86 = .ok (.ireturn, 1) := by decide +kernel
set_option maxRecDepth 20000 in
theorem ggX11_plan_X5_clear : GoodIn wsX11_plan wsX5_clear := goodIn_r _ [7, 8, 61, 62, 63, 64] (by decide +kernel) (by decide +kernel)
set_option maxRecDepth 20000 in
theorem gX11_plan_X5_clear : GoodIn wsX11_plan (wsV RX11 237 RX5 yX5_clear wsX5_clear) := goodIn_app (goodIn_of _ (by decide +kernel)) ggX11_plan_X5_clear
set_option maxRecDepth 20000 in
theorem ggX11_plan_X11_isChild : GoodIn wsX11_plan wsX11_isChild := goodIn_r _ [13, 1, 14, 25, 26, 27, 28, 29, 30, 31, 32, 33, 34, 35, 36, 37, 38, 39, 40, 41, 42, 43, 44, 45, 46, 47, 48, 49, 50, 51, 52, 53, 54, 55, 56, 57, 58, 59, 60] (by decide +kernel) (by decide +kernel)
set_option maxRecDepth 20000 in
theorem gX11_plan_X11_isChild : GoodIn wsX11_plan (wsV RX11 119 RX11 yX11_isChild wsX11_isChild) := goodIn_app (goodIn_of _ (by decide +kernel)) ggX11_plan_X11_isChild
set_option maxRecDepth 20000 in
theorem ggX11_plan_X11_isElder : GoodIn wsX11_plan wsX11_isElder := goodIn_r _ [17] (by decide +kernel) (by decide +kernel)
set_option maxRecDepth 20000 in
theorem gX11_plan_X11_isElder : GoodIn wsX11_plan (va_wsS RX11 141 yX11_isElder wsX11_isElder) := goodIn_app (goodIn_of _ (by decide +kernel)) ggX11_plan_X11_isElder
set_option maxRecDepth 20000 in
theorem ggX11_plan_X5_add : GoodIn wsX11_plan wsX5_add := goodIn_r _ [21, 8, 22, 23, 24, 61, 62, 63, 64] (by decide +kernel) (by decide +kernel)
set_option maxRecDepth 20000 in
theorem gX11_plan_X5_add : GoodIn wsX11_plan (wsV RX11 242 RX5 yX5_add wsX5_add) := goodIn_app (goodIn_of _ (by decide +kernel)) ggX11_plan_X5_add
def fX11_plan_73  (a1 : Int32) (a2 : Int32) (x1 : Int32) (x2 : Int32) (g : c_G) : Option (c_G × Int32) :=
  c_b2 (fX5_add g x1 x2 ((0 : Int32))) fun g73002 r73003 => some (g73002, r73003)
set_option maxRecDepth 100000 in
set_option maxHeartbeats 4000000 in
theorem jX11_plan_73 {p : Program} {l : Launch} {e : Env} {s : State} {m : MethodId} {below : List Frame} {meth : Method} {c : Code} {D : va_G} {tc : Nat → ClassId} {ad : Nat → Nat} {A : Nat → Prop} {E : (Nat → Nat) × (Nat → Nat) × Nat} {a1 : Int32} {a2 : Int32} {g' : c_G} {r : Int32} (C : c_C p s m meth c D tc A E RX11 wsX11_plan cX11_plan 3 (some .int) ([.ref (ad 0), .int a1, .int a2] : List Value).toArray) (hD : c_D A ad TC)  : ∀ (x1 : Int32) (x2 : Int32) (g : c_G), fX11_plan_73 a1 a2 x1 x2 g = some (g', r) → ∀ (H : Heap) (locs : List Loc), va_P D vwCl (c_ws tc ad TC g) H → va_S A s.heap H locs → ∀ ls : Array Slot, lv_has ls 3 [(0, .ref (ad 0)), (1, .int x1), (2, .int x2)] → W p l e (c_rm 1) s m ([.ref (ad 0), .int a1, .int a2] : List Value).toArray below meth c H locs 0 0 (MQ below (va_Qi (fun (x : Int32) (_ : Unit) => x = r) (fun _ t => va_P D vwCl (c_ws tc ad TC g') t.heap) A) ([.ref (ad 0), .int a1, .int a2] : List Value).toArray s 0 0 A) (F0 m 73 ls []) := by
  obtain ⟨hx, hb, hr, hml, hts, hown, hlk, hK, hE⟩ := id C
  intro x1 x2 g hf H locs hP hS ls hl
  unfold fX11_plan_73 at hf
  refine lv_aload_n hx hb dX11_plan_73 rfl (lv_at hl 0 rfl) ?_
  refine c_get hx hb hts i_X11_plan_X11 hown hK hP 0 tC0 rfl 5 (by decide) (hts _ (List.mem_of_getElem? (i := 1) rfl)) (fun _ h9 => h9) rfl (v := .ref (ad 55)) rfl dX11_plan_74 ?_
  refine c_get hx hb hts i_X11_plan_X7 hown hK hP 55 tC55 rfl 14 (by decide) (hts _ (List.mem_of_getElem? (i := 2) rfl)) (fun _ h9 => h9) rfl (v := .ref (ad 70)) rfl dX11_plan_77 ?_
  refine lv_iload_n hx hb dX11_plan_80 rfl (lv_at hl 1 rfl) ?_
  refine lv_iload_n hx hb dX11_plan_81 rfl (lv_at hl 2 rfl) ?_
  refine lv_iconst (v := (0 : Int32)) hx hb dX11_plan_82 (by decide) ?_
  obtain ⟨g73002, r73003, hc73001, hf⟩ := c_b2E hf
  refine c_goi (va_runV (As := [.int x1, .int x2, .int (0 : Int32)]) (rest := []) ⟨hx, hb, hml, hown, hts⟩ (kX5_add hD hc73001) (cwV 3 hts gX11_plan_X5_add rfl rfl rfl (by decide +kernel) ⟨Nat.le_of_ble_eq_true rfl, Nat.le_of_ble_eq_true rfl⟩) (c_preV hK hP hE hS tC70 rfl) rfl rfl hl.1 rfl (lv_room (Nat.le_of_ble_eq_true rfl)) dX11_plan_83 ⟨Nat.zero_le _, Nat.zero_le _⟩) hS (fun H locs hP hS => ?_)
  exact c_iret hx hb hr hlk hP hS rfl (c_inj hf) dX11_plan_86
def fX11_plan_59  (a1 : Int32) (a2 : Int32) (x1 : Int32) (x2 : Int32) (g : c_G) : Option (c_G × Int32) :=
  if x1 ≤ (1 : Int32) then (fX11_plan_73 a1 a2 x1 x2 g) else (if (fX11_isElder x2) = 0 then (some (g, (-1 : Int32))) else (fX11_plan_73 a1 a2 x1 x2 g))
set_option maxRecDepth 100000 in
set_option maxHeartbeats 4000000 in
theorem jX11_plan_59 {p : Program} {l : Launch} {e : Env} {s : State} {m : MethodId} {below : List Frame} {meth : Method} {c : Code} {D : va_G} {tc : Nat → ClassId} {ad : Nat → Nat} {A : Nat → Prop} {E : (Nat → Nat) × (Nat → Nat) × Nat} {a1 : Int32} {a2 : Int32} {g' : c_G} {r : Int32} (C : c_C p s m meth c D tc A E RX11 wsX11_plan cX11_plan 3 (some .int) ([.ref (ad 0), .int a1, .int a2] : List Value).toArray) (hD : c_D A ad TC)  : ∀ (x1 : Int32) (x2 : Int32) (g : c_G), fX11_plan_59 a1 a2 x1 x2 g = some (g', r) → ∀ (H : Heap) (locs : List Loc), va_P D vwCl (c_ws tc ad TC g) H → va_S A s.heap H locs → ∀ ls : Array Slot, lv_has ls 3 [(0, .ref (ad 0)), (1, .int x1), (2, .int x2)] → W p l e (c_rm 1) s m ([.ref (ad 0), .int a1, .int a2] : List Value).toArray below meth c H locs 0 0 (MQ below (va_Qi (fun (x : Int32) (_ : Unit) => x = r) (fun _ t => va_P D vwCl (c_ws tc ad TC g') t.heap) A) ([.ref (ad 0), .int a1, .int a2] : List Value).toArray s 0 0 A) (F0 m 59 ls []) := by
  obtain ⟨hx, hb, hr, hml, hts, hown, hlk, hK, hE⟩ := id C
  intro x1 x2 g hf H locs hP hS ls hl
  unfold fX11_plan_59 at hf
  refine lv_iload_n hx hb dX11_plan_59 rfl (lv_at hl 1 rfl) ?_
  refine lv_iconst (v := (1 : Int32)) hx hb dX11_plan_60 (by decide) ?_
  refine lv_icmp_le (tgt := 73) hx hb dX11_plan_61 (by decide) (fun c59001 => ?_) (fun c59001 => ?_)
  · have hf := c_it c59001 hf
    exact jX11_plan_73 C hD x1 x2 g hf _ _ hP hS _ (lv_sub hl [0, 1, 2] rfl)
  · have hf := c_ie c59001 hf
    refine lv_iload_n hx hb dX11_plan_64 rfl (lv_at hl 2 rfl) ?_
    refine c_goi (va_runS (As := [.int x2]) (rest := []) ⟨hx, hb, hml, hown, hts⟩ (kX11_isElder (T := TC) (g := g) rfl) (va_cwS 1 hts gX11_plan_X11_isElder rfl rfl rfl (by decide +kernel) ⟨Nat.le_of_ble_eq_true rfl, Nat.le_of_ble_eq_true rfl⟩) (c_preS hK hP hE hS) rfl rfl hl.1 rfl (lv_room (Nat.le_of_ble_eq_true rfl)) dX11_plan_65 ⟨Nat.zero_le _, Nat.zero_le _⟩) hS (fun H locs hP hS => ?_)
    refine lv_if_ne (tgt := 73) hx hb dX11_plan_68 (by decide) (fun c59002 => ?_) (fun c59002 => ?_)
    · have hf := c_ie c59002 hf
      exact jX11_plan_73 C hD x1 x2 g hf _ _ hP hS _ (lv_sub hl [0, 1, 2] rfl)
    · have hf := c_it c59002 hf
      refine lv_iconst (v := (-1 : Int32)) hx hb dX11_plan_71 (by decide) ?_
      exact c_iret hx hb hr hlk hP hS rfl (c_inj hf) dX11_plan_72
def fX11_plan (g : c_G) (a1 : Int32) (a2 : Int32) : Option (c_G × Int32) :=
  if a1 = (-1 : Int32) then (c_b2 (fX5_clear g) fun g11 r12 => some (g11, r12)) else (if a1 < 0 then (some (g, (-1 : Int32))) else (if a1 ≤ (3 : Int32) then (if a1 = (1 : Int32) then (if a2 < 0 then (some (g, (-1 : Int32))) else ((fX11_isChild g ((a2 / (10 : Int32)))).bind fun r6 => if r6 = 0 then (some (g, (-1 : Int32))) else (if (fX11_isElder ((a2 - a2 / (10 : Int32) * (10 : Int32)))) = 0 then (some (g, (-1 : Int32))) else (fX11_plan_59 a1 a2 a1 a2 g)))) else (fX11_plan_59 a1 a2 a1 a2 g)) else (some (g, (-1 : Int32)))))
set_option maxRecDepth 100000 in
set_option maxHeartbeats 4000000 in
theorem kX11_plan {l : Launch} {D : va_G} {tc : Nat → ClassId} {ad : Nat → Nat} {A : Nat → Prop} {E : (Nat → Nat) × (Nat → Nat) × Nat} (hD : c_D A ad TC) {a1 : Int32} {a2 : Int32} {g g' : c_G} {r : Int32} (hf : fX11_plan g a1 a2 = some (g', r)) : c_Mi l yX11_plan wsX11_plan (c_rm 1) D tc ad A E TC ([.ref (ad 0), .int a1, .int a2] : List Value) g g' r := by
  refine c_ofW (bytes := cX11_plan) (maxL := 3) (ret := (some .int)) (by decide) rfl (Nat.le_of_ble_eq_true rfl) ?_
  intro p e s m below meth c ls C hP hS hl
  unfold fX11_plan at hf
  obtain ⟨hx, hb, hr, hml, hts, hown, hlk, hK, hE⟩ := id C
  have hl : lv_has ls 3 [(0, .ref (ad 0)), (1, .int a1), (2, .int a2)] := hl
  refine lv_iload_n hx hb dX11_plan_0 rfl (lv_at hl 1 rfl) ?_
  refine lv_iconst (v := (-1 : Int32)) hx hb dX11_plan_1 (by decide) ?_
  refine lv_icmp_ne (tgt := 16) hx hb dX11_plan_2 (by decide) (fun c1 => ?_) (fun c1 => ?_)
  · have hf := c_ie c1 hf
    refine lv_iload_n hx hb dX11_plan_16 rfl (lv_at hl 1 rfl) ?_
    refine lv_if_lt (tgt := 25) hx hb dX11_plan_17 (by decide) (fun c2 => ?_) (fun c2 => ?_)
    · have hf := c_it c2 hf
      refine lv_iconst (v := (-1 : Int32)) hx hb dX11_plan_25 (by decide) ?_
      exact c_iret hx hb hr hlk hP hS rfl (c_inj hf) dX11_plan_26
    · have hf := c_ie c2 hf
      refine lv_iload_n hx hb dX11_plan_20 rfl (lv_at hl 1 rfl) ?_
      refine lv_iconst (v := (3 : Int32)) hx hb dX11_plan_21 (by decide) ?_
      refine lv_icmp_le (tgt := 27) hx hb dX11_plan_22 (by decide) (fun c3 => ?_) (fun c3 => ?_)
      · have hf := c_it c3 hf
        refine lv_iload_n hx hb dX11_plan_27 rfl (lv_at hl 1 rfl) ?_
        refine lv_iconst (v := (1 : Int32)) hx hb dX11_plan_28 (by decide) ?_
        refine lv_icmp_ne (tgt := 59) hx hb dX11_plan_29 (by decide) (fun c4 => ?_) (fun c4 => ?_)
        · have hf := c_ie c4 hf
          exact jX11_plan_59 C hD a1 a2 g hf _ _ hP hS _ (lv_sub hl [0, 1, 2] rfl)
        · have hf := c_it c4 hf
          refine lv_iload_n hx hb dX11_plan_32 rfl (lv_at hl 2 rfl) ?_
          refine lv_if_lt (tgt := 57) hx hb dX11_plan_33 (by decide) (fun c5 => ?_) (fun c5 => ?_)
          · have hf := c_it c5 hf
            refine lv_iconst (v := (-1 : Int32)) hx hb dX11_plan_57 (by decide) ?_
            exact c_iret hx hb hr hlk hP hS rfl (c_inj hf) dX11_plan_58
          · have hf := c_ie c5 hf
            refine lv_aload_n hx hb dX11_plan_36 rfl (lv_at hl 0 rfl) ?_
            refine lv_iload_n hx hb dX11_plan_37 rfl (lv_at hl 2 rfl) ?_
            refine lv_bipush (v := (10 : Int32)) hx hb dX11_plan_38 (by decide) ?_
            refine lv_idiv hx hb dX11_plan_40 (by decide) ?_
            obtain ⟨r6, hc7, hf⟩ := c_bd hf
            refine c_goi (va_runV (As := [.int (a2 / (10 : Int32))]) (rest := []) ⟨hx, hb, hml, hown, hts⟩ (kX11_isChild hD hc7) (cwV 1 hts gX11_plan_X11_isChild rfl rfl rfl (by decide +kernel) ⟨Nat.le_of_ble_eq_true rfl, Nat.le_of_ble_eq_true rfl⟩) (c_preV hK hP hE hS tC0 rfl) rfl rfl hl.1 rfl (lv_room (Nat.le_of_ble_eq_true rfl)) dX11_plan_41 ⟨Nat.zero_le _, Nat.zero_le _⟩) hS (fun H locs hP hS => ?_)
            refine lv_if_eq (tgt := 57) hx hb dX11_plan_44 (by decide) (fun c8 => ?_) (fun c8 => ?_)
            · have hf := c_it c8 hf
              refine lv_iconst (v := (-1 : Int32)) hx hb dX11_plan_57 (by decide) ?_
              exact c_iret hx hb hr hlk hP hS rfl (c_inj hf) dX11_plan_58
            · have hf := c_ie c8 hf
              refine lv_iload_n hx hb dX11_plan_47 rfl (lv_at hl 2 rfl) ?_
              refine lv_bipush (v := (10 : Int32)) hx hb dX11_plan_48 (by decide) ?_
              refine lv_irem hx hb dX11_plan_50 (by decide) ?_
              refine c_goi (va_runS (As := [.int (a2 - a2 / (10 : Int32) * (10 : Int32))]) (rest := []) ⟨hx, hb, hml, hown, hts⟩ (kX11_isElder (T := TC) (g := g) rfl) (va_cwS 1 hts gX11_plan_X11_isElder rfl rfl rfl (by decide +kernel) ⟨Nat.le_of_ble_eq_true rfl, Nat.le_of_ble_eq_true rfl⟩) (c_preS hK hP hE hS) rfl rfl hl.1 rfl (lv_room (Nat.le_of_ble_eq_true rfl)) dX11_plan_51 ⟨Nat.zero_le _, Nat.zero_le _⟩) hS (fun H locs hP hS => ?_)
              refine lv_if_ne (tgt := 59) hx hb dX11_plan_54 (by decide) (fun c9 => ?_) (fun c9 => ?_)
              · have hf := c_ie c9 hf
                exact jX11_plan_59 C hD a1 a2 g hf _ _ hP hS _ (lv_sub hl [0, 1, 2] rfl)
              · have hf := c_it c9 hf
                refine lv_iconst (v := (-1 : Int32)) hx hb dX11_plan_57 (by decide) ?_
                exact c_iret hx hb hr hlk hP hS rfl (c_inj hf) dX11_plan_58
      · have hf := c_ie c3 hf
        refine lv_iconst (v := (-1 : Int32)) hx hb dX11_plan_25 (by decide) ?_
        exact c_iret hx hb hr hlk hP hS rfl (c_inj hf) dX11_plan_26
  · have hf := c_it c1 hf
    refine lv_aload_n hx hb dX11_plan_5 rfl (lv_at hl 0 rfl) ?_
    refine c_get hx hb hts i_X11_plan_X11 hown hK hP 0 tC0 rfl 5 (by decide) (hts _ (List.mem_of_getElem? (i := 1) rfl)) (fun _ h9 => h9) rfl (v := .ref (ad 55)) rfl dX11_plan_6 ?_
    refine c_get hx hb hts i_X11_plan_X7 hown hK hP 55 tC55 rfl 14 (by decide) (hts _ (List.mem_of_getElem? (i := 2) rfl)) (fun _ h9 => h9) rfl (v := .ref (ad 70)) rfl dX11_plan_9 ?_
    obtain ⟨g11, r12, hc10, hf⟩ := c_b2E hf
    refine c_goi (va_runV (As := []) (rest := []) ⟨hx, hb, hml, hown, hts⟩ (kX5_clear hD hc10) (cwV 0 hts gX11_plan_X5_clear rfl rfl rfl (by decide +kernel) ⟨Nat.le_of_ble_eq_true rfl, Nat.le_of_ble_eq_true rfl⟩) (c_preV hK hP hE hS tC70 rfl) rfl rfl hl.1 rfl (lv_room (Nat.le_of_ble_eq_true rfl)) dX11_plan_12 ⟨Nat.zero_le _, Nat.zero_le _⟩) hS (fun H locs hP hS => ?_)
    exact c_iret hx hb hr hlk hP hS rfl (c_inj hf) dX11_plan_15
theorem i_X11_ends_X5 : ∀ w ∈ u_ws RX5 TX5 4, w ∈ wsX11_ends := c_inP [189, 190, 191, 192] (by decide +kernel)
theorem i_X11_ends_X7 : ∀ w ∈ u_ws RX7 TX7 17, w ∈ wsX11_ends := c_inP [172, 173, 174, 175, 176, 177, 178, 179, 180, 181, 182, 183, 184, 185, 186, 187, 188] (by decide +kernel)
theorem i_X11_ends_X11 : ∀ w ∈ u_ws RX11 TX11 19, w ∈ wsX11_ends := c_inP [153, 154, 155, 156, 157, 158, 159, 160, 161, 162, 163, 164, 165, 166, 167, 168, 169, 170, 171] (by decide +kernel)
theorem dX11_ends_0 : decode cX11_ends 0 = .ok (.iload_n 1, 1) := by decide +kernel
theorem dX11_ends_1 : decode cX11_ends 1 = .ok (.ifCond .lt 8, 3) := by decide +kernel
theorem dX11_ends_4 : decode cX11_ends 4 = .ok (.iload_n 1, 1) := by decide +kernel
theorem dX11_ends_5 : decode cX11_ends 5 = .ok (.iconst 1, 1) := by decide +kernel
theorem dX11_ends_6 : decode cX11_ends 6 = .ok (.if_icmp .le 5, 3) := by decide +kernel
theorem dX11_ends_9 : decode cX11_ends 9 = .ok (.iconst (-1), 1) := by decide +kernel
theorem dX11_ends_10 : decode cX11_ends 10 = .ok (.ireturn, 1) := by decide +kernel
theorem dX11_ends_11 : decode cX11_ends 11 = .ok (.aload_n 0, 1) := by decide +kernel
theorem dX11_ends_12 : decode cX11_ends 12 = .ok (.getfield 95, 3) := by decide +kernel
theorem dX11_ends_15 : decode cX11_ends 15 = .ok (.aload_n 0, 1) := by decide +kernel
theorem dX11_ends_16 : decode cX11_ends 16 = .ok (.getfield 88, 3) := by decide +kernel
theorem dX11_ends_19 : decode cX11_ends 19 = .ok (.invokevirtual 224, 3) := by decide +kernel
theorem dX11_ends_22 : decode cX11_ends 22 = .ok (.iconst 0, 1) := by decide +kernel
theorem dX11_ends_23 : decode cX11_ends 23 = .ok (.istore_n 2, 1) := by decide +kernel
theorem dX11_ends_24 : decode cX11_ends 24 = .ok (.iload_n 2, 1) := by decide +kernel
theorem dX11_ends_25 : decode cX11_ends 25 = .ok (.aload_n 0, 1) := by decide +kernel
theorem dX11_ends_26 : decode cX11_ends 26 = .ok (.getfield 88, 3) := by decide +kernel
theorem dX11_ends_29 : decode cX11_ends 29 = .ok (.getfield 264, 3) := by decide +kernel
theorem dX11_ends_32 : decode cX11_ends 32 = .ok (.getfield 267, 3) := by decide +kernel
theorem dX11_ends_35 : decode cX11_ends 35 = .ok (.if_icmp .ge 114, 3) := by decide +kernel
theorem dX11_ends_38 : decode cX11_ends 38 = .ok (.aload_n 0, 1) := by decide +kernel
theorem dX11_ends_39 : decode cX11_ends 39 = .ok (.getfield 88, 3) := by decide +kernel
theorem dX11_ends_42 : decode cX11_ends 42 = .ok (.getfield 264, 3) := by decide +kernel
theorem dX11_ends_45 : decode cX11_ends 45 = .ok (.getfield 270, 3) := by decide +kernel
theorem dX11_ends_48 : decode cX11_ends 48 = .ok (.iload_n 2, 1) := by decide +kernel
theorem dX11_ends_49 : decode cX11_ends 49 = .ok (.iaload, 1) := by decide +kernel
theorem dX11_ends_50 : decode cX11_ends 50 = .ok (.istore_n 3, 1) := by decide +kernel
theorem dX11_ends_51 : decode cX11_ends 51 = .ok (.aload_n 0, 1) := by decide +kernel
theorem dX11_ends_52 : decode cX11_ends 52 = .ok (.getfield 88, 3) := by decide +kernel
theorem dX11_ends_55 : decode cX11_ends 55 = .ok (.getfield 264, 3) := by decide +kernel
theorem dX11_ends_58 : decode cX11_ends 58 = .ok (.getfield 273, 3) := by decide +kernel
theorem dX11_ends_61 : decode cX11_ends 61 = .ok (.iload_n 2, 1) := by decide +kernel
theorem dX11_ends_62 : decode cX11_ends 62 = .ok (.iaload, 1) := by decide +kernel
theorem dX11_ends_63 : decode cX11_ends 63 = .ok (.tableswitch 70 0 2 #[25, 39, 59], 25) := by decide +kernel
theorem dX11_ends_88 : decode cX11_ends 88 = .ok (.aload_n 0, 1) := by decide +kernel
theorem dX11_ends_89 : decode cX11_ends 89 = .ok (.aload_n 0, 1) := by decide +kernel
theorem dX11_ends_90 : decode cX11_ends 90 = .ok (.getfield 95, 3) := by decide +kernel
theorem dX11_ends_93 : decode cX11_ends 93 = .ok (.iconst 1, 1) := by decide +kernel
theorem dX11_ends_94 : decode cX11_ends 94 = .ok (.ldc 228, 2) := by decide +kernel
theorem dX11_ends_96 : decode cX11_ends 96 = .ok (.invokevirtual 220, 3) := by decide +kernel
theorem dX11_ends_99 : decode cX11_ends 99 = .ok (.goto 44, 3) := by decide +kernel
theorem dX11_ends_102 : decode cX11_ends 102 = .ok (.aload_n 0, 1) := by decide +kernel
theorem dX11_ends_103 : decode cX11_ends 103 = .ok (.aload_n 0, 1) := by decide +kernel
theorem dX11_ends_104 : decode cX11_ends 104 = .ok (.getfield 95, 3) := by decide +kernel
theorem dX11_ends_107 : decode cX11_ends 107 = .ok (.iload_n 3, 1) := by decide +kernel
theorem dX11_ends_108 : decode cX11_ends 108 = .ok (.bipush 10, 2) := by decide +kernel
theorem dX11_ends_110 : decode cX11_ends 110 = .ok (.idiv, 1) := by decide +kernel
theorem dX11_ends_111 : decode cX11_ends 111 = .ok (.iload_n 3, 1) := by decide +kernel
theorem dX11_ends_112 : decode cX11_ends 112 = .ok (.bipush 10, 2) := by decide +kernel
theorem dX11_ends_114 : decode cX11_ends 114 = .ok (.irem, 1) := by decide +kernel
theorem dX11_ends_115 : decode cX11_ends 115 = .ok (.invokevirtual 171, 3) := by decide +kernel
theorem dX11_ends_118 : decode cX11_ends 118 = .ok (.pop, 1) := by decide +kernel
theorem dX11_ends_119 : decode cX11_ends 119 = .ok (.goto 24, 3) := by decide +kernel
theorem dX11_ends_122 : decode cX11_ends 122 = .ok (.aload_n 0, 1) := by decide +kernel
theorem dX11_ends_123 : decode cX11_ends 123 = .ok (.getfield 95, 3) := by decide +kernel
theorem dX11_ends_126 : decode cX11_ends 126 = .ok (.iload_n 3, 1) := by decide +kernel
theorem dX11_ends_127 : decode cX11_ends 127 = .ok (.invokevirtual 175, 3) := by decide +kernel
theorem dX11_ends_130 : decode cX11_ends 130 = .ok (.goto 13, 3) := by decide +kernel
theorem dX11_ends_133 : decode cX11_ends 133 = .ok (.aload_n 0, 1) := by decide +kernel
theorem dX11_ends_134 : decode cX11_ends 134 = .ok (.getfield 95, 3) := by decide +kernel
theorem dX11_ends_137 : decode cX11_ends 137 = .ok (.getfield 157, 3) := by decide +kernel
theorem dX11_ends_140 : decode cX11_ends 140 = .ok (.iload_n 3, 1) := by decide +kernel
theorem dX11_ends_141 : decode cX11_ends 141 = .ok (.iconst 1, 1) := by decide +kernel
theorem dX11_ends_142 : decode cX11_ends 142 = .ok (.iastore, 1) := by decide +kernel
theorem dX11_ends_143 : decode cX11_ends 143 = .ok (.iinc 2 1, 3) := by decide +kernel
theorem dX11_ends_146 : decode cX11_ends 146 = .ok (.goto (-122), 3) := by decide +kernel
theorem dX11_ends_149 : decode cX11_ends 149 = .ok (.iload_n 1, 1) := by decide +kernel
theorem dX11_ends_150 : decode cX11_ends 150 = .ok (.ifCond .ne 13, 3) := by decide +kernel
theorem dX11_ends_153 : decode cX11_ends 153 = .ok (.aload_n 0, 1) := by decide +kernel
theorem dX11_ends_154 : decode cX11_ends 154 = .ok (.getfield 95, 3) := by decide +kernel
theorem dX11_ends_157 : decode cX11_ends 157 = .ok (.invokevirtual 208, 3) := by decide +kernel
theorem dX11_ends_160 : decode cX11_ends 160 = .ok (.goto 10, 3) := by decide +kernel
theorem dX11_ends_163 : decode cX11_ends 163 = .ok (.aload_n 0, 1) := by decide +kernel
theorem dX11_ends_164 : decode cX11_ends 164 = .ok (.getfield 95, 3) := by decide +kernel
theorem dX11_ends_167 : decode cX11_ends 167 = .ok (.invokevirtual 204, 3) := by decide +kernel
theorem dX11_ends_170 : decode cX11_ends 170 = .ok (.ireturn, 1) := by decide +kernel
set_option maxRecDepth 20000 in
theorem ggX11_ends_X7_copyFrom : GoodIn wsX11_ends wsX7_copyFrom := goodIn_r _ [13, 14, 15, 16, 17, 18, 19, 20, 21, 22, 23, 24, 25, 26, 27, 28, 29, 30, 31, 32, 33, 34, 35, 36, 37, 38, 39, 40, 41, 42, 43, 44, 172, 173, 174, 175, 176, 177, 178, 179, 180, 181, 182, 183, 184, 185, 186, 187, 188, 189, 190, 191, 192] (by decide +kernel) (by decide +kernel)
set_option maxRecDepth 20000 in
theorem gX11_ends_X7_copyFrom : GoodIn wsX11_ends (wsV RX11 224 RX7 yX7_copyFrom wsX7_copyFrom) := goodIn_app (goodIn_of _ (by decide +kernel)) ggX11_ends_X7_copyFrom
set_option maxRecDepth 20000 in
theorem ggX11_ends_X11_letGo : GoodIn wsX11_ends wsX11_letGo := goodIn_r _ [49, 50, 51, 52, 53, 54, 48, 55, 56, 57, 58, 59, 60, 61, 62, 63, 64, 65, 66, 67, 12, 68, 19, 21, 69, 70, 71, 72, 73, 74, 75, 76, 77, 78, 79, 80, 81, 82, 83, 84, 85, 86, 87, 88, 89, 90, 91, 92, 93, 94, 95, 96, 97, 98, 99, 100, 101, 102, 103, 104, 105, 106, 107, 108, 109, 110, 111, 112, 113, 114, 115, 116, 117, 118, 119, 120, 121, 122, 123, 124, 125, 126, 127, 128, 129, 130, 131, 132, 133, 134, 135, 136, 22, 137, 138, 139, 140, 141, 142, 143, 34, 144, 24, 28, 27, 23, 172, 173, 174, 175, 176, 177, 178, 179, 180, 181, 182, 183, 184, 185, 186, 187, 188, 153, 154, 155, 156, 157, 158, 159, 160, 161, 162, 163, 164, 165, 166, 167, 168, 169, 170, 171, 193, 194, 195, 196, 197, 198, 199, 200] (by decide +kernel) (by decide +kernel)
set_option maxRecDepth 20000 in
theorem gX11_ends_X11_letGo : GoodIn wsX11_ends (wsV RX11 220 RX11 yX11_letGo wsX11_letGo) := goodIn_app (goodIn_of _ (by decide +kernel)) ggX11_ends_X11_letGo
set_option maxRecDepth 20000 in
theorem ggX11_ends_X11_takeTo : GoodIn wsX11_ends wsX11_takeTo := goodIn_r _ [55, 56, 57, 58, 59, 60, 61, 62, 48, 63, 64, 65, 66, 67, 12, 68, 19, 21, 69, 70, 71, 72, 73, 74, 75, 76, 77, 78, 79, 80, 81, 82, 83, 84, 85, 86, 87, 88, 89, 90, 91, 92, 93, 94, 95, 96, 97, 98, 99, 100, 101, 102, 103, 104, 105, 106, 107, 108, 109, 110, 111, 112, 113, 114, 115, 116, 117, 118, 119, 120, 121, 122, 123, 124, 125, 126, 127, 128, 129, 130, 131, 132, 133, 134, 135, 136, 22, 137, 138, 139, 172, 173, 174, 175, 176, 177, 178, 179, 180, 181, 182, 183, 184, 185, 186, 187, 188, 153, 154, 155, 156, 157, 158, 159, 160, 161, 162, 163, 164, 165, 166, 167, 168, 169, 170, 171, 193, 194, 195, 196, 197, 198, 199, 200] (by decide +kernel) (by decide +kernel)
set_option maxRecDepth 20000 in
theorem gX11_ends_X11_takeTo : GoodIn wsX11_ends (wsV RX11 171 RX11 yX11_takeTo wsX11_takeTo) := goodIn_app (goodIn_of _ (by decide +kernel)) ggX11_ends_X11_takeTo
set_option maxRecDepth 20000 in
theorem ggX11_ends_X7_unname : GoodIn wsX11_ends wsX7_unname := goodIn_r _ [148, 19, 20, 172, 173, 174, 175, 176, 177, 178, 179, 180, 181, 182, 183, 184, 185, 186, 187, 188] (by decide +kernel) (by decide +kernel)
set_option maxRecDepth 20000 in
theorem gX11_ends_X7_unname : GoodIn wsX11_ends (wsV RX11 175 RX7 yX7_unname wsX7_unname) := goodIn_app (goodIn_of _ (by decide +kernel)) ggX11_ends_X7_unname
set_option maxRecDepth 20000 in
theorem ggX11_ends_X7_named : GoodIn wsX11_ends wsX7_named := goodIn_r _ [152, 19, 172, 173, 174, 175, 176, 177, 178, 179, 180, 181, 182, 183, 184, 185, 186, 187, 188] (by decide +kernel) (by decide +kernel)
set_option maxRecDepth 20000 in
theorem gX11_ends_X7_named : GoodIn wsX11_ends (wsV RX11 208 RX7 yX7_named wsX7_named) := goodIn_app (goodIn_of _ (by decide +kernel)) ggX11_ends_X7_named
set_option maxRecDepth 20000 in
theorem ggX11_ends_X7_used : GoodIn wsX11_ends wsX7_used := goodIn_r _ [136, 22, 19, 172, 173, 174, 175, 176, 177, 178, 179, 180, 181, 182, 183, 184, 185, 186, 187, 188] (by decide +kernel) (by decide +kernel)
set_option maxRecDepth 20000 in
theorem gX11_ends_X7_used : GoodIn wsX11_ends (wsV RX11 204 RX7 yX7_used wsX7_used) := goodIn_app (goodIn_of _ (by decide +kernel)) ggX11_ends_X7_used
def fX11_ends_143 (rec24 : Int32 → Int32 → c_G → Option (c_G × Int32)) (a1 : Int32) (x1 : Int32) (x2 : Int32) (g : c_G) : Option (c_G × Int32) :=
  c_let (x2 + (1 : Int32)) fun v143001 => rec24 x1 v143001 g
set_option maxRecDepth 100000 in
set_option maxHeartbeats 4000000 in
theorem jX11_ends_143 {p : Program} {l : Launch} {e : Env} {s : State} {m : MethodId} {below : List Frame} {meth : Method} {c : Code} {D : va_G} {tc : Nat → ClassId} {ad : Nat → Nat} {A : Nat → Prop} {E : (Nat → Nat) × (Nat → Nat) × Nat} {a1 : Int32} {g' : c_G} {r : Int32} (C : c_C p s m meth c D tc A E RX11 wsX11_ends cX11_ends 4 (some .int) ([.ref (ad 0), .int a1] : List Value).toArray) (hD : c_D A ad TC) {rec24 : Int32 → Int32 → c_G → Option (c_G × Int32)} (hrec24 : ∀ (x1 : Int32) (x2 : Int32) (g : c_G), rec24 x1 x2 g = some (g', r) → ∀ (H : Heap) (locs : List Loc), va_P D vwCl (c_ws tc ad TC g) H → va_S A s.heap H locs → ∀ ls : Array Slot, lv_has ls 4 [(0, .ref (ad 0)), (1, .int x1), (2, .int x2)] → W p l e (c_rm 6) s m ([.ref (ad 0), .int a1] : List Value).toArray below meth c H locs 0 0 (MQ below (va_Qi (fun (x : Int32) (_ : Unit) => x = r) (fun _ t => va_P D vwCl (c_ws tc ad TC g') t.heap) A) ([.ref (ad 0), .int a1] : List Value).toArray s 0 0 A) (F0 m 24 ls [])) : ∀ (x1 : Int32) (x2 : Int32) (g : c_G), fX11_ends_143 rec24 a1 x1 x2 g = some (g', r) → ∀ (H : Heap) (locs : List Loc), va_P D vwCl (c_ws tc ad TC g) H → va_S A s.heap H locs → ∀ ls : Array Slot, lv_has ls 4 [(0, .ref (ad 0)), (1, .int x1), (2, .int x2)] → W p l e (c_rm 6) s m ([.ref (ad 0), .int a1] : List Value).toArray below meth c H locs 0 0 (MQ below (va_Qi (fun (x : Int32) (_ : Unit) => x = r) (fun _ t => va_P D vwCl (c_ws tc ad TC g') t.heap) A) ([.ref (ad 0), .int a1] : List Value).toArray s 0 0 A) (F0 m 143 ls []) := by
  obtain ⟨hx, hb, hr, hml, hts, hown, hlk, hK, hE⟩ := id C
  intro x1 x2 g hf H locs hP hS ls hl
  unfold fX11_ends_143 at hf
  obtain ⟨v143001, ev143001, hf⟩ := c_letE hf
  refine lv_iinc (v := v143001) (lv' := [(2, .int v143001), (0, .ref (ad 0)), (1, .int x1)]) hx hb dX11_ends_143 hl (k := 2) rfl (by rw [ev143001]; rfl) (by decide) rfl (fun ls hl => ?_)
  refine lv_goto (tgt := 24) hx hb dX11_ends_146 (by decide) ?_
  exact hrec24 x1 v143001 g hf _ _ hP hS _ (lv_sub hl [1, 2, 0] rfl)
def fX11_ends_24  (a1 : Int32) : Nat → Int32 → Int32 → c_G → Option (c_G × Int32)
  | 0, _, _, _ => none
  | n + 1, x1, x2, g => if (g.1 70 3) ≤ x2 then (if x1 = 0 then ((fX7_named g).bind fun r24005 => some (g, r24005)) else ((fX7_used g).bind fun r24003 => some (g, r24003))) else (if c_in (x2) (10) = true then if (g.1 71 (x2).toNatClampNeg) = (0 : Int32) then ((fX11_letGo g 101 ((1 : Int32)) ((1000000 : Int32))).bind fun g24010 => fX11_ends_143 (fX11_ends_24 a1 n) a1 x1 x2 g24010) else if (g.1 71 (x2).toNatClampNeg) = (1 : Int32) then (c_b2 (fX11_takeTo g 101 (((g.1 72 (x2).toNatClampNeg) / (10 : Int32))) (((g.1 72 (x2).toNatClampNeg) - (g.1 72 (x2).toNatClampNeg) / (10 : Int32) * (10 : Int32)))) fun g24013 r24014 => fX11_ends_143 (fX11_ends_24 a1 n) a1 x1 x2 g24013) else if (g.1 71 (x2).toNatClampNeg) = (2 : Int32) then ((fX7_unname g ((g.1 72 (x2).toNatClampNeg))).bind fun g24017 => fX11_ends_143 (fX11_ends_24 a1 n) a1 x1 x2 g24017) else (if c_in ((g.1 72 (x2).toNatClampNeg)) (6) = true then c_let (c_si g 105 ((g.1 72 (x2).toNatClampNeg)).toNatClampNeg (1 : Int32)) fun g24019 => fX11_ends_143 (fX11_ends_24 a1 n) a1 x1 x2 g24019 else none) else none)
set_option maxRecDepth 100000 in
set_option maxHeartbeats 4000000 in
theorem jX11_ends_24 {p : Program} {l : Launch} {e : Env} {s : State} {m : MethodId} {below : List Frame} {meth : Method} {c : Code} {D : va_G} {tc : Nat → ClassId} {ad : Nat → Nat} {A : Nat → Prop} {E : (Nat → Nat) × (Nat → Nat) × Nat} {a1 : Int32} {g' : c_G} {r : Int32} (C : c_C p s m meth c D tc A E RX11 wsX11_ends cX11_ends 4 (some .int) ([.ref (ad 0), .int a1] : List Value).toArray) (hD : c_D A ad TC)  : ∀ (n : Nat) (x1 : Int32) (x2 : Int32) (g : c_G), fX11_ends_24 a1 n x1 x2 g = some (g', r) → ∀ (H : Heap) (locs : List Loc), va_P D vwCl (c_ws tc ad TC g) H → va_S A s.heap H locs → ∀ ls : Array Slot, lv_has ls 4 [(0, .ref (ad 0)), (1, .int x1), (2, .int x2)] → W p l e (c_rm 6) s m ([.ref (ad 0), .int a1] : List Value).toArray below meth c H locs 0 0 (MQ below (va_Qi (fun (x : Int32) (_ : Unit) => x = r) (fun _ t => va_P D vwCl (c_ws tc ad TC g') t.heap) A) ([.ref (ad 0), .int a1] : List Value).toArray s 0 0 A) (F0 m 24 ls []) := by
  obtain ⟨hx, hb, hr, hml, hts, hown, hlk, hK, hE⟩ := id C
  intro n
  induction n with
  | zero =>
    intro x1 x2 g hf
    cases hf
  | succ n ih =>
    intro x1 x2 g hf H locs hP hS ls hl
    unfold fX11_ends_24 at hf
    refine lv_iload_n hx hb dX11_ends_24 rfl (lv_at hl 2 rfl) ?_
    refine lv_aload_n hx hb dX11_ends_25 rfl (lv_at hl 0 rfl) ?_
    refine c_get hx hb hts i_X11_ends_X11 hown hK hP 0 tC0 rfl 5 (by decide) (hts _ (List.mem_of_getElem? (i := 2) rfl)) (fun _ h9 => h9) rfl (v := .ref (ad 55)) rfl dX11_ends_26 ?_
    refine c_get hx hb hts i_X11_ends_X7 hown hK hP 55 tC55 rfl 14 (by decide) (hts _ (List.mem_of_getElem? (i := 3) rfl)) (fun _ h9 => h9) rfl (v := .ref (ad 70)) rfl dX11_ends_29 ?_
    refine c_get hx hb hts i_X11_ends_X5 hown hK hP 70 tC70 rfl 3 (by decide) (hts _ (List.mem_of_getElem? (i := 4) rfl)) (fun _ h9 => h9) rfl (v := .int (g.1 70 3)) rfl dX11_ends_32 ?_
    refine lv_icmp_ge (tgt := 149) hx hb dX11_ends_35 (by decide) (fun c24001 => ?_) (fun c24001 => ?_)
    · have hf := c_it c24001 hf
      refine lv_iload_n hx hb dX11_ends_149 rfl (lv_at hl 1 rfl) ?_
      refine lv_if_ne (tgt := 163) hx hb dX11_ends_150 (by decide) (fun c24002 => ?_) (fun c24002 => ?_)
      · have hf := c_ie c24002 hf
        refine lv_aload_n hx hb dX11_ends_163 rfl (lv_at hl 0 rfl) ?_
        refine c_get hx hb hts i_X11_ends_X11 hown hK hP 0 tC0 rfl 7 (by decide) (hts _ (List.mem_of_getElem? (i := 1) rfl)) (fun _ h9 => h9) rfl (v := .ref (ad 101)) rfl dX11_ends_164 ?_
        obtain ⟨r24003, hc24004, hf⟩ := c_bd hf
        refine c_goi (va_runV (As := []) (rest := []) ⟨hx, hb, hml, hown, hts⟩ (kX7_used hD hc24004) (cwV 0 hts gX11_ends_X7_used rfl rfl rfl (by decide +kernel) ⟨Nat.le_of_ble_eq_true rfl, Nat.le_of_ble_eq_true rfl⟩) (c_preV hK hP hE hS tC101 rfl) rfl rfl hl.1 rfl (lv_room (Nat.le_of_ble_eq_true rfl)) dX11_ends_167 ⟨Nat.zero_le _, Nat.zero_le _⟩) hS (fun H locs hP hS => ?_)
        exact c_iret hx hb hr hlk hP hS rfl (c_inj hf) dX11_ends_170
      · have hf := c_it c24002 hf
        refine lv_aload_n hx hb dX11_ends_153 rfl (lv_at hl 0 rfl) ?_
        refine c_get hx hb hts i_X11_ends_X11 hown hK hP 0 tC0 rfl 7 (by decide) (hts _ (List.mem_of_getElem? (i := 1) rfl)) (fun _ h9 => h9) rfl (v := .ref (ad 101)) rfl dX11_ends_154 ?_
        obtain ⟨r24005, hc24006, hf⟩ := c_bd hf
        refine c_goi (va_runV (As := []) (rest := []) ⟨hx, hb, hml, hown, hts⟩ (kX7_named hD hc24006) (cwV 0 hts gX11_ends_X7_named rfl rfl rfl (by decide +kernel) ⟨Nat.le_of_ble_eq_true rfl, Nat.le_of_ble_eq_true rfl⟩) (c_preV hK hP hE hS tC101 rfl) rfl rfl hl.1 rfl (lv_room (Nat.le_of_ble_eq_true rfl)) dX11_ends_157 ⟨Nat.zero_le _, Nat.zero_le _⟩) hS (fun H locs hP hS => ?_)
        refine lv_goto (tgt := 170) hx hb dX11_ends_160 (by decide) ?_
        exact c_iret hx hb hr hlk hP hS rfl (c_inj hf) dX11_ends_170
    · have hf := c_ie c24001 hf
      refine lv_aload_n hx hb dX11_ends_38 rfl (lv_at hl 0 rfl) ?_
      refine c_get hx hb hts i_X11_ends_X11 hown hK hP 0 tC0 rfl 5 (by decide) (hts _ (List.mem_of_getElem? (i := 2) rfl)) (fun _ h9 => h9) rfl (v := .ref (ad 55)) rfl dX11_ends_39 ?_
      refine c_get hx hb hts i_X11_ends_X7 hown hK hP 55 tC55 rfl 14 (by decide) (hts _ (List.mem_of_getElem? (i := 3) rfl)) (fun _ h9 => h9) rfl (v := .ref (ad 70)) rfl dX11_ends_42 ?_
      refine c_get hx hb hts i_X11_ends_X5 hown hK hP 70 tC70 rfl 1 (by decide) (hts _ (List.mem_of_getElem? (i := 5) rfl)) (fun _ h9 => h9) rfl (v := .ref (ad 72)) rfl dX11_ends_45 ?_
      refine lv_iload_n hx hb dX11_ends_48 rfl (lv_at hl 2 rfl) ?_
      obtain ⟨hi24007, hf⟩ := c_gd hf
      refine c_iald (j := (x2).toNatClampNeg) hx hb hK hP 72 tC72 rfl (c_inV hi24007) dX11_ends_49 ?_
      refine lv_istore_n (lv' := [(3, .int (g.1 72 (x2).toNatClampNeg)), (0, .ref (ad 0)), (1, .int x1), (2, .int x2)]) hx hb dX11_ends_50 rfl hl (by decide) rfl (fun ls hl => ?_)
      refine lv_aload_n hx hb dX11_ends_51 rfl (lv_at hl 1 rfl) ?_
      refine c_get hx hb hts i_X11_ends_X11 hown hK hP 0 tC0 rfl 5 (by decide) (hts _ (List.mem_of_getElem? (i := 2) rfl)) (fun _ h9 => h9) rfl (v := .ref (ad 55)) rfl dX11_ends_52 ?_
      refine c_get hx hb hts i_X11_ends_X7 hown hK hP 55 tC55 rfl 14 (by decide) (hts _ (List.mem_of_getElem? (i := 3) rfl)) (fun _ h9 => h9) rfl (v := .ref (ad 70)) rfl dX11_ends_55 ?_
      refine c_get hx hb hts i_X11_ends_X5 hown hK hP 70 tC70 rfl 0 (by decide) (hts _ (List.mem_of_getElem? (i := 6) rfl)) (fun _ h9 => h9) rfl (v := .ref (ad 71)) rfl dX11_ends_58 ?_
      refine lv_iload_n hx hb dX11_ends_61 rfl (lv_at hl 3 rfl) ?_
      refine c_iald (j := (x2).toNatClampNeg) hx hb hK hP 71 tC71 rfl (c_inV hi24007) dX11_ends_62 ?_
      by_cases c24008 : (g.1 71 (x2).toNatClampNeg) = (0 : Int32)
      · have hf := c_it c24008 hf
        refine lv_tableIn (off := 25) (tgt := 88) hx hb dX11_ends_63 (by rw [c24008]; decide) (by rw [c24008]; decide) (by rw [c24008]; rfl) (by decide) ?_
        refine lv_aload_n hx hb dX11_ends_88 rfl (lv_at hl 1 rfl) ?_
        refine lv_aload_n hx hb dX11_ends_89 rfl (lv_at hl 1 rfl) ?_
        refine c_get hx hb hts i_X11_ends_X11 hown hK hP 0 tC0 rfl 7 (by decide) (hts _ (List.mem_of_getElem? (i := 1) rfl)) (fun _ h9 => h9) rfl (v := .ref (ad 101)) rfl dX11_ends_90 ?_
        refine lv_iconst (v := (1 : Int32)) hx hb dX11_ends_93 (by decide) ?_
        refine lv_ldc hx hb hown (v := (1000000 : Int32)) (hts _ (List.mem_of_getElem? (i := 7) rfl)) dX11_ends_94 ?_
        obtain ⟨g24010, hc24009, hf⟩ := c_bd hf
        refine c_gov (va_runV (As := [.ref (ad 101), .int (1 : Int32), .int (1000000 : Int32)]) (rest := []) ⟨hx, hb, hml, hown, hts⟩ (kX11_letGo hD hc24009) (cwV 3 hts gX11_ends_X11_letGo rfl rfl rfl (by decide +kernel) ⟨Nat.le_of_ble_eq_true rfl, Nat.le_of_ble_eq_true rfl⟩) (c_preV hK hP hE hS tC0 rfl) rfl rfl hl.1 rfl (lv_room (Nat.le_of_ble_eq_true rfl)) dX11_ends_96 ⟨Nat.zero_le _, Nat.zero_le _⟩) hS (fun H locs hP hS => ?_)
        refine lv_goto (tgt := 143) hx hb dX11_ends_99 (by decide) ?_
        exact jX11_ends_143 C hD ih x1 x2 g24010 hf _ _ hP hS _ (lv_sub hl [1, 2, 3] rfl)
      have hf := c_ie c24008 hf
      by_cases c24011 : (g.1 71 (x2).toNatClampNeg) = (1 : Int32)
      · have hf := c_it c24011 hf
        refine lv_tableIn (off := 39) (tgt := 102) hx hb dX11_ends_63 (by rw [c24011]; decide) (by rw [c24011]; decide) (by rw [c24011]; rfl) (by decide) ?_
        refine lv_aload_n hx hb dX11_ends_102 rfl (lv_at hl 1 rfl) ?_
        refine lv_aload_n hx hb dX11_ends_103 rfl (lv_at hl 1 rfl) ?_
        refine c_get hx hb hts i_X11_ends_X11 hown hK hP 0 tC0 rfl 7 (by decide) (hts _ (List.mem_of_getElem? (i := 1) rfl)) (fun _ h9 => h9) rfl (v := .ref (ad 101)) rfl dX11_ends_104 ?_
        refine lv_iload_n hx hb dX11_ends_107 rfl (lv_at hl 0 rfl) ?_
        refine lv_bipush (v := (10 : Int32)) hx hb dX11_ends_108 (by decide) ?_
        refine lv_idiv hx hb dX11_ends_110 (by decide) ?_
        refine lv_iload_n hx hb dX11_ends_111 rfl (lv_at hl 0 rfl) ?_
        refine lv_bipush (v := (10 : Int32)) hx hb dX11_ends_112 (by decide) ?_
        refine lv_irem hx hb dX11_ends_114 (by decide) ?_
        obtain ⟨g24013, r24014, hc24012, hf⟩ := c_b2E hf
        refine c_goi (va_runV (As := [.ref (ad 101), .int ((g.1 72 (x2).toNatClampNeg) / (10 : Int32)), .int ((g.1 72 (x2).toNatClampNeg) - (g.1 72 (x2).toNatClampNeg) / (10 : Int32) * (10 : Int32))]) (rest := []) ⟨hx, hb, hml, hown, hts⟩ (kX11_takeTo hD hc24012) (cwV 3 hts gX11_ends_X11_takeTo rfl rfl rfl (by decide +kernel) ⟨Nat.le_of_ble_eq_true rfl, Nat.le_of_ble_eq_true rfl⟩) (c_preV hK hP hE hS tC0 rfl) rfl rfl hl.1 rfl (lv_room (Nat.le_of_ble_eq_true rfl)) dX11_ends_115 ⟨Nat.zero_le _, Nat.zero_le _⟩) hS (fun H locs hP hS => ?_)
        refine lv_pop hx hb dX11_ends_118 rfl ?_
        refine lv_goto (tgt := 143) hx hb dX11_ends_119 (by decide) ?_
        exact jX11_ends_143 C hD ih x1 x2 g24013 hf _ _ hP hS _ (lv_sub hl [1, 2, 3] rfl)
      have hf := c_ie c24011 hf
      by_cases c24015 : (g.1 71 (x2).toNatClampNeg) = (2 : Int32)
      · have hf := c_it c24015 hf
        refine lv_tableIn (off := 59) (tgt := 122) hx hb dX11_ends_63 (by rw [c24015]; decide) (by rw [c24015]; decide) (by rw [c24015]; rfl) (by decide) ?_
        refine lv_aload_n hx hb dX11_ends_122 rfl (lv_at hl 1 rfl) ?_
        refine c_get hx hb hts i_X11_ends_X11 hown hK hP 0 tC0 rfl 7 (by decide) (hts _ (List.mem_of_getElem? (i := 1) rfl)) (fun _ h9 => h9) rfl (v := .ref (ad 101)) rfl dX11_ends_123 ?_
        refine lv_iload_n hx hb dX11_ends_126 rfl (lv_at hl 0 rfl) ?_
        obtain ⟨g24017, hc24016, hf⟩ := c_bd hf
        refine c_gov (va_runV (As := [.int (g.1 72 (x2).toNatClampNeg)]) (rest := []) ⟨hx, hb, hml, hown, hts⟩ (kX7_unname hD hc24016) (cwV 1 hts gX11_ends_X7_unname rfl rfl rfl (by decide +kernel) ⟨Nat.le_of_ble_eq_true rfl, Nat.le_of_ble_eq_true rfl⟩) (c_preV hK hP hE hS tC101 rfl) rfl rfl hl.1 rfl (lv_room (Nat.le_of_ble_eq_true rfl)) dX11_ends_127 ⟨Nat.zero_le _, Nat.zero_le _⟩) hS (fun H locs hP hS => ?_)
        refine lv_goto (tgt := 143) hx hb dX11_ends_130 (by decide) ?_
        exact jX11_ends_143 C hD ih x1 x2 g24017 hf _ _ hP hS _ (lv_sub hl [1, 2, 3] rfl)
      have hf := c_ie c24015 hf
      have h9 := c_sw (x := (g.1 71 (x2).toNatClampNeg)) (lo := 0) (n := 2) (by decide) (fun k hj hk => by rcases (show k = 0 ∨ k = 1 ∨ k = 2 by omega) with rfl | rfl | rfl <;> assumption)
      refine lv_tableOut (tgt := 133) hx hb dX11_ends_63 (by omega) (by decide) ?_
      refine lv_aload_n hx hb dX11_ends_133 rfl (lv_at hl 1 rfl) ?_
      refine c_get hx hb hts i_X11_ends_X11 hown hK hP 0 tC0 rfl 7 (by decide) (hts _ (List.mem_of_getElem? (i := 1) rfl)) (fun _ h9 => h9) rfl (v := .ref (ad 101)) rfl dX11_ends_134 ?_
      refine c_get hx hb hts i_X11_ends_X7 hown hK hP 101 tC101 rfl 3 (by decide) (hts _ (List.mem_of_getElem? (i := 8) rfl)) (fun _ h9 => h9) rfl (v := .ref (ad 105)) rfl dX11_ends_137 ?_
      refine lv_iload_n hx hb dX11_ends_140 rfl (lv_at hl 0 rfl) ?_
      refine lv_iconst (v := (1 : Int32)) hx hb dX11_ends_141 (by decide) ?_
      obtain ⟨hi24018, hf⟩ := c_gd hf
      obtain ⟨g24019, eg24019, hf⟩ := c_letE hf
      refine c_iast (j := ((g.1 72 (x2).toNatClampNeg)).toNatClampNeg) hx hb hK hP hD hS 105 tC105 rfl (c_inV hi24018) eg24019 dX11_ends_142 (fun H locs hP hS => ?_)
      exact jX11_ends_143 C hD ih x1 x2 g24019 hf _ _ hP hS _ (lv_sub hl [1, 2, 3] rfl)
def fX11_ends (g : c_G) (a1 : Int32) : Option (c_G × Int32) :=
  if a1 < 0 then (some (g, (-1 : Int32))) else (if a1 ≤ (1 : Int32) then ((fX7_copyFrom g 55).bind fun g4 => fX11_ends_24 a1 c_F a1 ((0 : Int32)) g4) else (some (g, (-1 : Int32))))
set_option maxRecDepth 100000 in
set_option maxHeartbeats 4000000 in
theorem kX11_ends {l : Launch} {D : va_G} {tc : Nat → ClassId} {ad : Nat → Nat} {A : Nat → Prop} {E : (Nat → Nat) × (Nat → Nat) × Nat} (hD : c_D A ad TC) {a1 : Int32} {g g' : c_G} {r : Int32} (hf : fX11_ends g a1 = some (g', r)) : c_Mi l yX11_ends wsX11_ends (c_rm 6) D tc ad A E TC ([.ref (ad 0), .int a1] : List Value) g g' r := by
  refine c_ofW (bytes := cX11_ends) (maxL := 4) (ret := (some .int)) (by decide) rfl (Nat.le_of_ble_eq_true rfl) ?_
  intro p e s m below meth c ls C hP hS hl
  unfold fX11_ends at hf
  obtain ⟨hx, hb, hr, hml, hts, hown, hlk, hK, hE⟩ := id C
  have hl : lv_has ls 4 [(0, .ref (ad 0)), (1, .int a1)] := hl
  refine lv_iload_n hx hb dX11_ends_0 rfl (lv_at hl 1 rfl) ?_
  refine lv_if_lt (tgt := 9) hx hb dX11_ends_1 (by decide) (fun c1 => ?_) (fun c1 => ?_)
  · have hf := c_it c1 hf
    refine lv_iconst (v := (-1 : Int32)) hx hb dX11_ends_9 (by decide) ?_
    exact c_iret hx hb hr hlk hP hS rfl (c_inj hf) dX11_ends_10
  · have hf := c_ie c1 hf
    refine lv_iload_n hx hb dX11_ends_4 rfl (lv_at hl 1 rfl) ?_
    refine lv_iconst (v := (1 : Int32)) hx hb dX11_ends_5 (by decide) ?_
    refine lv_icmp_le (tgt := 11) hx hb dX11_ends_6 (by decide) (fun c2 => ?_) (fun c2 => ?_)
    · have hf := c_it c2 hf
      refine lv_aload_n hx hb dX11_ends_11 rfl (lv_at hl 0 rfl) ?_
      refine c_get hx hb hts i_X11_ends_X11 hown hK hP 0 tC0 rfl 7 (by decide) (hts _ (List.mem_of_getElem? (i := 1) rfl)) (fun _ h9 => h9) rfl (v := .ref (ad 101)) rfl dX11_ends_12 ?_
      refine lv_aload_n hx hb dX11_ends_15 rfl (lv_at hl 0 rfl) ?_
      refine c_get hx hb hts i_X11_ends_X11 hown hK hP 0 tC0 rfl 5 (by decide) (hts _ (List.mem_of_getElem? (i := 2) rfl)) (fun _ h9 => h9) rfl (v := .ref (ad 55)) rfl dX11_ends_16 ?_
      obtain ⟨g4, hc3, hf⟩ := c_bd hf
      refine c_gov (va_runV (As := [.ref (ad 55)]) (rest := []) ⟨hx, hb, hml, hown, hts⟩ (kX7_copyFrom hD hc3) (cwV 1 hts gX11_ends_X7_copyFrom rfl rfl rfl (by decide +kernel) ⟨Nat.le_of_ble_eq_true rfl, Nat.le_of_ble_eq_true rfl⟩) (c_preV hK hP hE hS tC101 rfl) rfl rfl hl.1 rfl (lv_room (Nat.le_of_ble_eq_true rfl)) dX11_ends_19 ⟨Nat.zero_le _, Nat.zero_le _⟩) hS (fun H locs hP hS => ?_)
      refine lv_iconst (v := (0 : Int32)) hx hb dX11_ends_22 (by decide) ?_
      refine lv_istore_n (lv' := [(2, .int (0 : Int32)), (0, .ref (ad 0)), (1, .int a1)]) hx hb dX11_ends_23 rfl hl (by decide) rfl (fun ls hl => ?_)
      exact jX11_ends_24 C hD c_F a1 ((0 : Int32)) g4 hf _ _ hP hS _ (lv_sub hl [1, 2, 0] rfl)
    · have hf := c_ie c2 hf
      refine lv_iconst (v := (-1 : Int32)) hx hb dX11_ends_9 (by decide) ?_
      exact c_iret hx hb hr hlk hP hS rfl (c_inj hf) dX11_ends_10
theorem i_X11_book_X7 : ∀ w ∈ u_ws RX7 TX7 17, w ∈ wsX11_book := c_inP [42, 43, 44, 45, 46, 47, 48, 49, 50, 51, 52, 53, 54, 55, 56, 57, 58] (by decide +kernel)
theorem i_X11_book_X11 : ∀ w ∈ u_ws RX11 TX11 19, w ∈ wsX11_book := c_inP [23, 24, 25, 26, 27, 28, 29, 30, 31, 32, 33, 34, 35, 36, 37, 38, 39, 40, 41] (by decide +kernel)
theorem dX11_book_0 : decode cX11_book 0 = .ok (.iload_n 1, 1) := by decide +kernel
theorem dX11_book_1 : decode cX11_book 1 = .ok (.iconst (-1), 1) := by decide +kernel
theorem dX11_book_2 : decode cX11_book 2 = .ok (.if_icmp .ne 14, 3) := by decide +kernel
theorem dX11_book_5 : decode cX11_book 5 = .ok (.aload_n 0, 1) := by decide +kernel
theorem dX11_book_6 : decode cX11_book 6 = .ok (.getfield 88, 3) := by decide +kernel
theorem dX11_book_9 : decode cX11_book 9 = .ok (.getfield 276, 3) := by decide +kernel
theorem dX11_book_12 : decode cX11_book 12 = .ok (.invokevirtual 237, 3) := by decide +kernel
theorem dX11_book_15 : decode cX11_book 15 = .ok (.ireturn, 1) := by decide +kernel
theorem dX11_book_16 : decode cX11_book 16 = .ok (.iload_n 1, 1) := by decide +kernel
theorem dX11_book_17 : decode cX11_book 17 = .ok (.invokestatic 141, 3) := by decide +kernel
theorem dX11_book_20 : decode cX11_book 20 = .ok (.ifCond .eq 15, 3) := by decide +kernel
theorem dX11_book_23 : decode cX11_book 23 = .ok (.iload_n 2, 1) := by decide +kernel
theorem dX11_book_24 : decode cX11_book 24 = .ok (.iconst (-1), 1) := by decide +kernel
theorem dX11_book_25 : decode cX11_book 25 = .ok (.if_icmp .eq 12, 3) := by decide +kernel
theorem dX11_book_28 : decode cX11_book 28 = .ok (.iload_n 2, 1) := by decide +kernel
theorem dX11_book_29 : decode cX11_book 29 = .ok (.invokestatic 164, 3) := by decide +kernel
theorem dX11_book_32 : decode cX11_book 32 = .ok (.ifCond .ne 5, 3) := by decide +kernel
theorem dX11_book_35 : decode cX11_book 35 = .ok (.iconst (-1), 1) := by decide +kernel
theorem dX11_book_36 : decode cX11_book 36 = .ok (.ireturn, 1) := by decide +kernel
theorem dX11_book_37 : decode cX11_book 37 = .ok (.aload_n 0, 1) := by decide +kernel
theorem dX11_book_38 : decode cX11_book 38 = .ok (.getfield 88, 3) := by decide +kernel
theorem dX11_book_41 : decode cX11_book 41 = .ok (.getfield 276, 3) := by decide +kernel
theorem dX11_book_44 : decode cX11_book 44 = .ok (.iload_n 1, 1) := by decide +kernel
theorem dX11_book_45 : decode cX11_book 45 = .ok (.iload_n 2, 1) := by decide +kernel
theorem dX11_book_46 : decode cX11_book 46 = .ok (.ifCond .ge 8, 3) := by decide +kernel
theorem dX11_book_49 : decode cX11_book 49 = .ok (.bipush (-5), 2) := by decide +kernel
theorem dX11_book_51 : decode cX11_book 51 = .ok (.goto 4, 3) := by decide +kernel
theorem dX11_book_54 : decode cX11_book 54 = .ok (.iload_n 2, 1) := by decide +kernel
theorem dX11_book_55 : decode cX11_book 55 = .ok (.iconst 0, 1) := by decide +kernel
theorem dX11_book_56 : decode cX11_book 56 = .ok (.invokevirtual 242, 3) := by decide +kernel
theorem dX11_book_59 : decode cX11_book 59 = .ok (.ireturn, 1) := by decide +kernel
set_option maxRecDepth 20000 in
theorem ggX11_book_X5_clear : GoodIn wsX11_book wsX5_clear := goodIn_r _ [7, 8, 59, 60, 61, 62] (by decide +kernel) (by decide +kernel)
set_option maxRecDepth 20000 in
theorem gX11_book_X5_clear : GoodIn wsX11_book (wsV RX11 237 RX5 yX5_clear wsX5_clear) := goodIn_app (goodIn_of _ (by decide +kernel)) ggX11_book_X5_clear
set_option maxRecDepth 20000 in
theorem ggX11_book_X11_isElder : GoodIn wsX11_book wsX11_isElder := goodIn_r _ [12] (by decide +kernel) (by decide +kernel)
set_option maxRecDepth 20000 in
theorem gX11_book_X11_isElder : GoodIn wsX11_book (va_wsS RX11 141 yX11_isElder wsX11_isElder) := goodIn_app (goodIn_of _ (by decide +kernel)) ggX11_book_X11_isElder
set_option maxRecDepth 20000 in
theorem ggX11_book_X11_isWord : GoodIn wsX11_book wsX11_isWord := goodIn_r _ [15] (by decide +kernel) (by decide +kernel)
set_option maxRecDepth 20000 in
theorem gX11_book_X11_isWord : GoodIn wsX11_book (va_wsS RX11 164 yX11_isWord wsX11_isWord) := goodIn_app (goodIn_of _ (by decide +kernel)) ggX11_book_X11_isWord
set_option maxRecDepth 20000 in
theorem ggX11_book_X5_add : GoodIn wsX11_book wsX5_add := goodIn_r _ [19, 8, 20, 21, 22, 59, 60, 61, 62] (by decide +kernel) (by decide +kernel)
set_option maxRecDepth 20000 in
theorem gX11_book_X5_add : GoodIn wsX11_book (wsV RX11 242 RX5 yX5_add wsX5_add) := goodIn_app (goodIn_of _ (by decide +kernel)) ggX11_book_X5_add
def fX11_book_55  (a1 : Int32) (a2 : Int32) (y1 : Int32) (y2 : Int32) (g : c_G) : Option (c_G × Int32) :=
  c_b2 (fX5_add g y1 y2 ((0 : Int32))) fun g55002 r55003 => some (g55002, r55003)
set_option maxRecDepth 100000 in
set_option maxHeartbeats 4000000 in
theorem jX11_book_55 {p : Program} {l : Launch} {e : Env} {s : State} {m : MethodId} {below : List Frame} {meth : Method} {c : Code} {D : va_G} {tc : Nat → ClassId} {ad : Nat → Nat} {A : Nat → Prop} {E : (Nat → Nat) × (Nat → Nat) × Nat} {a1 : Int32} {a2 : Int32} {g' : c_G} {r : Int32} (C : c_C p s m meth c D tc A E RX11 wsX11_book cX11_book 3 (some .int) ([.ref (ad 0), .int a1, .int a2] : List Value).toArray) (hD : c_D A ad TC)  : ∀ (y1 : Int32) (y2 : Int32) (g : c_G), fX11_book_55 a1 a2 y1 y2 g = some (g', r) → ∀ (H : Heap) (locs : List Loc), va_P D vwCl (c_ws tc ad TC g) H → va_S A s.heap H locs → ∀ ls : Array Slot, lv_has ls 3 [] → W p l e (c_rm 1) s m ([.ref (ad 0), .int a1, .int a2] : List Value).toArray below meth c H locs 0 0 (MQ below (va_Qi (fun (x : Int32) (_ : Unit) => x = r) (fun _ t => va_P D vwCl (c_ws tc ad TC g') t.heap) A) ([.ref (ad 0), .int a1, .int a2] : List Value).toArray s 0 0 A) (F0 m 55 ls [.int y2, .int y1, .ref (ad 74)]) := by
  obtain ⟨hx, hb, hr, hml, hts, hown, hlk, hK, hE⟩ := id C
  intro y1 y2 g hf H locs hP hS ls hl
  unfold fX11_book_55 at hf
  refine lv_iconst (v := (0 : Int32)) hx hb dX11_book_55 (by decide) ?_
  obtain ⟨g55002, r55003, hc55001, hf⟩ := c_b2E hf
  refine c_goi (va_runV (As := [.int y1, .int y2, .int (0 : Int32)]) (rest := []) ⟨hx, hb, hml, hown, hts⟩ (kX5_add hD hc55001) (cwV 3 hts gX11_book_X5_add rfl rfl rfl (by decide +kernel) ⟨Nat.le_of_ble_eq_true rfl, Nat.le_of_ble_eq_true rfl⟩) (c_preV hK hP hE hS tC74 rfl) rfl rfl hl.1 rfl (lv_room (Nat.le_of_ble_eq_true rfl)) dX11_book_56 ⟨Nat.zero_le _, Nat.zero_le _⟩) hS (fun H locs hP hS => ?_)
  exact c_iret hx hb hr hlk hP hS rfl (c_inj hf) dX11_book_59
def fX11_book_37  (a1 : Int32) (a2 : Int32) (x1 : Int32) (x2 : Int32) (g : c_G) : Option (c_G × Int32) :=
  if 0 ≤ x2 then (fX11_book_55 a1 a2 x1 x2 g) else (fX11_book_55 a1 a2 x1 ((-5 : Int32)) g)
set_option maxRecDepth 100000 in
set_option maxHeartbeats 4000000 in
theorem jX11_book_37 {p : Program} {l : Launch} {e : Env} {s : State} {m : MethodId} {below : List Frame} {meth : Method} {c : Code} {D : va_G} {tc : Nat → ClassId} {ad : Nat → Nat} {A : Nat → Prop} {E : (Nat → Nat) × (Nat → Nat) × Nat} {a1 : Int32} {a2 : Int32} {g' : c_G} {r : Int32} (C : c_C p s m meth c D tc A E RX11 wsX11_book cX11_book 3 (some .int) ([.ref (ad 0), .int a1, .int a2] : List Value).toArray) (hD : c_D A ad TC)  : ∀ (x1 : Int32) (x2 : Int32) (g : c_G), fX11_book_37 a1 a2 x1 x2 g = some (g', r) → ∀ (H : Heap) (locs : List Loc), va_P D vwCl (c_ws tc ad TC g) H → va_S A s.heap H locs → ∀ ls : Array Slot, lv_has ls 3 [(0, .ref (ad 0)), (1, .int x1), (2, .int x2)] → W p l e (c_rm 1) s m ([.ref (ad 0), .int a1, .int a2] : List Value).toArray below meth c H locs 0 0 (MQ below (va_Qi (fun (x : Int32) (_ : Unit) => x = r) (fun _ t => va_P D vwCl (c_ws tc ad TC g') t.heap) A) ([.ref (ad 0), .int a1, .int a2] : List Value).toArray s 0 0 A) (F0 m 37 ls []) := by
  obtain ⟨hx, hb, hr, hml, hts, hown, hlk, hK, hE⟩ := id C
  intro x1 x2 g hf H locs hP hS ls hl
  unfold fX11_book_37 at hf
  refine lv_aload_n hx hb dX11_book_37 rfl (lv_at hl 0 rfl) ?_
  refine c_get hx hb hts i_X11_book_X11 hown hK hP 0 tC0 rfl 5 (by decide) (hts _ (List.mem_of_getElem? (i := 1) rfl)) (fun _ h9 => h9) rfl (v := .ref (ad 55)) rfl dX11_book_38 ?_
  refine c_get hx hb hts i_X11_book_X7 hown hK hP 55 tC55 rfl 15 (by decide) (hts _ (List.mem_of_getElem? (i := 2) rfl)) (fun _ h9 => h9) rfl (v := .ref (ad 74)) rfl dX11_book_41 ?_
  refine lv_iload_n hx hb dX11_book_44 rfl (lv_at hl 1 rfl) ?_
  refine lv_iload_n hx hb dX11_book_45 rfl (lv_at hl 2 rfl) ?_
  refine lv_if_ge (tgt := 54) hx hb dX11_book_46 (by decide) (fun c37001 => ?_) (fun c37001 => ?_)
  · have hf := c_it c37001 hf
    refine lv_iload_n hx hb dX11_book_54 rfl (lv_at hl 2 rfl) ?_
    exact jX11_book_55 C hD x1 x2 g hf _ _ hP hS _ (lv_sub hl [] rfl)
  · have hf := c_ie c37001 hf
    refine lv_bipush (v := (-5 : Int32)) hx hb dX11_book_49 (by decide) ?_
    refine lv_goto (tgt := 55) hx hb dX11_book_51 (by decide) ?_
    exact jX11_book_55 C hD x1 ((-5 : Int32)) g hf _ _ hP hS _ (lv_sub hl [] rfl)
def fX11_book (g : c_G) (a1 : Int32) (a2 : Int32) : Option (c_G × Int32) :=
  if a1 = (-1 : Int32) then (c_b2 (fX5_clear g) fun g6 r7 => some (g6, r7)) else (if (fX11_isElder a1) = 0 then (some (g, (-1 : Int32))) else (if a2 = (-1 : Int32) then (fX11_book_37 a1 a2 a1 a2 g) else (if (fX11_isWord a2) = 0 then (some (g, (-1 : Int32))) else (fX11_book_37 a1 a2 a1 a2 g))))
set_option maxRecDepth 100000 in
set_option maxHeartbeats 4000000 in
theorem kX11_book {l : Launch} {D : va_G} {tc : Nat → ClassId} {ad : Nat → Nat} {A : Nat → Prop} {E : (Nat → Nat) × (Nat → Nat) × Nat} (hD : c_D A ad TC) {a1 : Int32} {a2 : Int32} {g g' : c_G} {r : Int32} (hf : fX11_book g a1 a2 = some (g', r)) : c_Mi l yX11_book wsX11_book (c_rm 1) D tc ad A E TC ([.ref (ad 0), .int a1, .int a2] : List Value) g g' r := by
  refine c_ofW (bytes := cX11_book) (maxL := 3) (ret := (some .int)) (by decide) rfl (Nat.le_of_ble_eq_true rfl) ?_
  intro p e s m below meth c ls C hP hS hl
  unfold fX11_book at hf
  obtain ⟨hx, hb, hr, hml, hts, hown, hlk, hK, hE⟩ := id C
  have hl : lv_has ls 3 [(0, .ref (ad 0)), (1, .int a1), (2, .int a2)] := hl
  refine lv_iload_n hx hb dX11_book_0 rfl (lv_at hl 1 rfl) ?_
  refine lv_iconst (v := (-1 : Int32)) hx hb dX11_book_1 (by decide) ?_
  refine lv_icmp_ne (tgt := 16) hx hb dX11_book_2 (by decide) (fun c1 => ?_) (fun c1 => ?_)
  · have hf := c_ie c1 hf
    refine lv_iload_n hx hb dX11_book_16 rfl (lv_at hl 1 rfl) ?_
    refine c_goi (va_runS (As := [.int a1]) (rest := []) ⟨hx, hb, hml, hown, hts⟩ (kX11_isElder (T := TC) (g := g) rfl) (va_cwS 1 hts gX11_book_X11_isElder rfl rfl rfl (by decide +kernel) ⟨Nat.le_of_ble_eq_true rfl, Nat.le_of_ble_eq_true rfl⟩) (c_preS hK hP hE hS) rfl rfl hl.1 rfl (lv_room (Nat.le_of_ble_eq_true rfl)) dX11_book_17 ⟨Nat.zero_le _, Nat.zero_le _⟩) hS (fun H locs hP hS => ?_)
    refine lv_if_eq (tgt := 35) hx hb dX11_book_20 (by decide) (fun c2 => ?_) (fun c2 => ?_)
    · have hf := c_it c2 hf
      refine lv_iconst (v := (-1 : Int32)) hx hb dX11_book_35 (by decide) ?_
      exact c_iret hx hb hr hlk hP hS rfl (c_inj hf) dX11_book_36
    · have hf := c_ie c2 hf
      refine lv_iload_n hx hb dX11_book_23 rfl (lv_at hl 2 rfl) ?_
      refine lv_iconst (v := (-1 : Int32)) hx hb dX11_book_24 (by decide) ?_
      refine lv_icmp_eq (tgt := 37) hx hb dX11_book_25 (by decide) (fun c3 => ?_) (fun c3 => ?_)
      · have hf := c_it c3 hf
        exact jX11_book_37 C hD a1 a2 g hf _ _ hP hS _ (lv_sub hl [0, 1, 2] rfl)
      · have hf := c_ie c3 hf
        refine lv_iload_n hx hb dX11_book_28 rfl (lv_at hl 2 rfl) ?_
        refine c_goi (va_runS (As := [.int a2]) (rest := []) ⟨hx, hb, hml, hown, hts⟩ (kX11_isWord (T := TC) (g := g) rfl) (va_cwS 1 hts gX11_book_X11_isWord rfl rfl rfl (by decide +kernel) ⟨Nat.le_of_ble_eq_true rfl, Nat.le_of_ble_eq_true rfl⟩) (c_preS hK hP hE hS) rfl rfl hl.1 rfl (lv_room (Nat.le_of_ble_eq_true rfl)) dX11_book_29 ⟨Nat.zero_le _, Nat.zero_le _⟩) hS (fun H locs hP hS => ?_)
        refine lv_if_ne (tgt := 37) hx hb dX11_book_32 (by decide) (fun c4 => ?_) (fun c4 => ?_)
        · have hf := c_ie c4 hf
          exact jX11_book_37 C hD a1 a2 g hf _ _ hP hS _ (lv_sub hl [0, 1, 2] rfl)
        · have hf := c_it c4 hf
          refine lv_iconst (v := (-1 : Int32)) hx hb dX11_book_35 (by decide) ?_
          exact c_iret hx hb hr hlk hP hS rfl (c_inj hf) dX11_book_36
  · have hf := c_it c1 hf
    refine lv_aload_n hx hb dX11_book_5 rfl (lv_at hl 0 rfl) ?_
    refine c_get hx hb hts i_X11_book_X11 hown hK hP 0 tC0 rfl 5 (by decide) (hts _ (List.mem_of_getElem? (i := 1) rfl)) (fun _ h9 => h9) rfl (v := .ref (ad 55)) rfl dX11_book_6 ?_
    refine c_get hx hb hts i_X11_book_X7 hown hK hP 55 tC55 rfl 15 (by decide) (hts _ (List.mem_of_getElem? (i := 2) rfl)) (fun _ h9 => h9) rfl (v := .ref (ad 74)) rfl dX11_book_9 ?_
    obtain ⟨g6, r7, hc5, hf⟩ := c_b2E hf
    refine c_goi (va_runV (As := []) (rest := []) ⟨hx, hb, hml, hown, hts⟩ (kX5_clear hD hc5) (cwV 0 hts gX11_book_X5_clear rfl rfl rfl (by decide +kernel) ⟨Nat.le_of_ble_eq_true rfl, Nat.le_of_ble_eq_true rfl⟩) (c_preV hK hP hE hS tC74 rfl) rfl rfl hl.1 rfl (lv_room (Nat.le_of_ble_eq_true rfl)) dX11_book_12 ⟨Nat.zero_le _, Nat.zero_le _⟩) hS (fun H locs hP hS => ?_)
    exact c_iret hx hb hr hlk hP hS rfl (c_inj hf) dX11_book_15
theorem i_X11_looked_X5 : ∀ w ∈ u_ws RX5 TX5 4, w ∈ wsX11_looked := c_inP [43, 44, 45, 46] (by decide +kernel)
theorem i_X11_looked_X7 : ∀ w ∈ u_ws RX7 TX7 17, w ∈ wsX11_looked := c_inP [26, 27, 28, 29, 30, 31, 32, 33, 34, 35, 36, 37, 38, 39, 40, 41, 42] (by decide +kernel)
theorem i_X11_looked_X11 : ∀ w ∈ u_ws RX11 TX11 19, w ∈ wsX11_looked := c_inP [7, 8, 9, 10, 11, 12, 13, 14, 15, 16, 17, 18, 19, 20, 21, 22, 23, 24, 25] (by decide +kernel)
theorem dX11_looked_0 : decode cX11_looked 0 = .ok (.iconst 0, 1) := by decide +kernel
theorem dX11_looked_1 : decode cX11_looked 1 = .ok (.istore_n 1, 1) := by decide +kernel
theorem dX11_looked_2 : decode cX11_looked 2 = .ok (.iload_n 1, 1) := by decide +kernel
theorem dX11_looked_3 : decode cX11_looked 3 = .ok (.aload_n 0, 1) := by decide +kernel
theorem dX11_looked_4 : decode cX11_looked 4 = .ok (.getfield 88, 3) := by decide +kernel
theorem dX11_looked_7 : decode cX11_looked 7 = .ok (.getfield 276, 3) := by decide +kernel
theorem dX11_looked_10 : decode cX11_looked 10 = .ok (.getfield 267, 3) := by decide +kernel
theorem dX11_looked_13 : decode cX11_looked 13 = .ok (.if_icmp .ge 46, 3) := by decide +kernel
theorem dX11_looked_16 : decode cX11_looked 16 = .ok (.aload_n 0, 1) := by decide +kernel
theorem dX11_looked_17 : decode cX11_looked 17 = .ok (.getfield 88, 3) := by decide +kernel
theorem dX11_looked_20 : decode cX11_looked 20 = .ok (.getfield 151, 3) := by decide +kernel
theorem dX11_looked_23 : decode cX11_looked 23 = .ok (.aload_n 0, 1) := by decide +kernel
theorem dX11_looked_24 : decode cX11_looked 24 = .ok (.getfield 88, 3) := by decide +kernel
theorem dX11_looked_27 : decode cX11_looked 27 = .ok (.getfield 276, 3) := by decide +kernel
theorem dX11_looked_30 : decode cX11_looked 30 = .ok (.getfield 273, 3) := by decide +kernel
theorem dX11_looked_33 : decode cX11_looked 33 = .ok (.iload_n 1, 1) := by decide +kernel
theorem dX11_looked_34 : decode cX11_looked 34 = .ok (.iaload, 1) := by decide +kernel
theorem dX11_looked_35 : decode cX11_looked 35 = .ok (.iaload, 1) := by decide +kernel
theorem dX11_looked_36 : decode cX11_looked 36 = .ok (.aload_n 0, 1) := by decide +kernel
theorem dX11_looked_37 : decode cX11_looked 37 = .ok (.getfield 88, 3) := by decide +kernel
theorem dX11_looked_40 : decode cX11_looked 40 = .ok (.getfield 276, 3) := by decide +kernel
theorem dX11_looked_43 : decode cX11_looked 43 = .ok (.getfield 270, 3) := by decide +kernel
theorem dX11_looked_46 : decode cX11_looked 46 = .ok (.iload_n 1, 1) := by decide +kernel
theorem dX11_looked_47 : decode cX11_looked 47 = .ok (.iaload, 1) := by decide +kernel
theorem dX11_looked_48 : decode cX11_looked 48 = .ok (.if_icmp .eq 5, 3) := by decide +kernel
theorem dX11_looked_51 : decode cX11_looked 51 = .ok (.iload_n 1, 1) := by decide +kernel
theorem dX11_looked_52 : decode cX11_looked 52 = .ok (.ireturn, 1) := by decide +kernel
theorem dX11_looked_53 : decode cX11_looked 53 = .ok (.iinc 1 1, 3) := by decide +kernel
theorem dX11_looked_56 : decode cX11_looked 56 = .ok (.goto (-54), 3) := by decide +kernel
theorem dX11_looked_59 : decode cX11_looked 59 = .ok (.bipush (-5), 2) := by decide +kernel
theorem dX11_looked_61 : decode cX11_looked 61 = .ok (.ireturn, 1) := by decide +kernel
def fX11_looked_2   : Nat → Int32 → c_G → Option (Int32)
  | 0, _, _ => none
  | n + 1, x1, g => if (g.1 74 3) ≤ x1 then (some (-5 : Int32)) else (if c_in (x1) (8) = true then if c_in ((g.1 75 (x1).toNatClampNeg)) (6) = true then if (g.1 57 ((g.1 75 (x1).toNatClampNeg)).toNatClampNeg) = (g.1 76 (x1).toNatClampNeg) then (c_let (x1 + (1 : Int32)) fun v2005 => (fX11_looked_2 n) v2005 g) else (some x1) else none else none)
set_option maxRecDepth 100000 in
set_option maxHeartbeats 4000000 in
theorem jX11_looked_2 {p : Program} {l : Launch} {e : Env} {s : State} {m : MethodId} {below : List Frame} {meth : Method} {c : Code} {D : va_G} {tc : Nat → ClassId} {ad : Nat → Nat} {A : Nat → Prop} {E : (Nat → Nat) × (Nat → Nat) × Nat} {r : Int32} (C : c_C p s m meth c D tc A E RX11 wsX11_looked cX11_looked 2 (some .int) ([.ref (ad 0)] : List Value).toArray) (hD : c_D A ad TC)  : ∀ (n : Nat) (x1 : Int32) (g : c_G), fX11_looked_2 n x1 g = some r → ∀ (H : Heap) (locs : List Loc), va_P D vwCl (c_ws tc ad TC g) H → va_S A s.heap H locs → ∀ ls : Array Slot, lv_has ls 2 [(0, .ref (ad 0)), (1, .int x1)] → W p l e (c_rm 0) s m ([.ref (ad 0)] : List Value).toArray below meth c H locs 0 0 (MQ below (va_Qi (fun (x : Int32) (_ : Unit) => x = r) (fun _ t => va_P D vwCl (c_ws tc ad TC g) t.heap) A) ([.ref (ad 0)] : List Value).toArray s 0 0 A) (F0 m 2 ls []) := by
  obtain ⟨hx, hb, hr, hml, hts, hown, hlk, hK, hE⟩ := id C
  intro n
  induction n with
  | zero =>
    intro x1 g hf
    cases hf
  | succ n ih =>
    intro x1 g hf H locs hP hS ls hl
    unfold fX11_looked_2 at hf
    refine lv_iload_n hx hb dX11_looked_2 rfl (lv_at hl 1 rfl) ?_
    refine lv_aload_n hx hb dX11_looked_3 rfl (lv_at hl 0 rfl) ?_
    refine c_get hx hb hts i_X11_looked_X11 hown hK hP 0 tC0 rfl 5 (by decide) (hts _ (List.mem_of_getElem? (i := 1) rfl)) (fun _ h9 => h9) rfl (v := .ref (ad 55)) rfl dX11_looked_4 ?_
    refine c_get hx hb hts i_X11_looked_X7 hown hK hP 55 tC55 rfl 15 (by decide) (hts _ (List.mem_of_getElem? (i := 2) rfl)) (fun _ h9 => h9) rfl (v := .ref (ad 74)) rfl dX11_looked_7 ?_
    refine c_get hx hb hts i_X11_looked_X5 hown hK hP 74 tC74 rfl 3 (by decide) (hts _ (List.mem_of_getElem? (i := 3) rfl)) (fun _ h9 => h9) rfl (v := .int (g.1 74 3)) rfl dX11_looked_10 ?_
    refine lv_icmp_ge (tgt := 59) hx hb dX11_looked_13 (by decide) (fun c2001 => ?_) (fun c2001 => ?_)
    · have hf := c_it c2001 hf
      refine lv_bipush (v := (-5 : Int32)) hx hb dX11_looked_59 (by decide) ?_
      exact c_iret hx hb hr hlk hP hS rfl ⟨rfl, Option.some.inj hf⟩ dX11_looked_61
    · have hf := c_ie c2001 hf
      refine lv_aload_n hx hb dX11_looked_16 rfl (lv_at hl 0 rfl) ?_
      refine c_get hx hb hts i_X11_looked_X11 hown hK hP 0 tC0 rfl 5 (by decide) (hts _ (List.mem_of_getElem? (i := 1) rfl)) (fun _ h9 => h9) rfl (v := .ref (ad 55)) rfl dX11_looked_17 ?_
      refine c_get hx hb hts i_X11_looked_X7 hown hK hP 55 tC55 rfl 1 (by decide) (hts _ (List.mem_of_getElem? (i := 4) rfl)) (fun _ h9 => h9) rfl (v := .ref (ad 57)) rfl dX11_looked_20 ?_
      refine lv_aload_n hx hb dX11_looked_23 rfl (lv_at hl 0 rfl) ?_
      refine c_get hx hb hts i_X11_looked_X11 hown hK hP 0 tC0 rfl 5 (by decide) (hts _ (List.mem_of_getElem? (i := 1) rfl)) (fun _ h9 => h9) rfl (v := .ref (ad 55)) rfl dX11_looked_24 ?_
      refine c_get hx hb hts i_X11_looked_X7 hown hK hP 55 tC55 rfl 15 (by decide) (hts _ (List.mem_of_getElem? (i := 2) rfl)) (fun _ h9 => h9) rfl (v := .ref (ad 74)) rfl dX11_looked_27 ?_
      refine c_get hx hb hts i_X11_looked_X5 hown hK hP 74 tC74 rfl 0 (by decide) (hts _ (List.mem_of_getElem? (i := 5) rfl)) (fun _ h9 => h9) rfl (v := .ref (ad 75)) rfl dX11_looked_30 ?_
      refine lv_iload_n hx hb dX11_looked_33 rfl (lv_at hl 1 rfl) ?_
      obtain ⟨hi2002, hf⟩ := c_gd hf
      refine c_iald (j := (x1).toNatClampNeg) hx hb hK hP 75 tC75 rfl (c_inV hi2002) dX11_looked_34 ?_
      obtain ⟨hi2003, hf⟩ := c_gd hf
      refine c_iald (j := ((g.1 75 (x1).toNatClampNeg)).toNatClampNeg) hx hb hK hP 57 tC57 rfl (c_inV hi2003) dX11_looked_35 ?_
      refine lv_aload_n hx hb dX11_looked_36 rfl (lv_at hl 0 rfl) ?_
      refine c_get hx hb hts i_X11_looked_X11 hown hK hP 0 tC0 rfl 5 (by decide) (hts _ (List.mem_of_getElem? (i := 1) rfl)) (fun _ h9 => h9) rfl (v := .ref (ad 55)) rfl dX11_looked_37 ?_
      refine c_get hx hb hts i_X11_looked_X7 hown hK hP 55 tC55 rfl 15 (by decide) (hts _ (List.mem_of_getElem? (i := 2) rfl)) (fun _ h9 => h9) rfl (v := .ref (ad 74)) rfl dX11_looked_40 ?_
      refine c_get hx hb hts i_X11_looked_X5 hown hK hP 74 tC74 rfl 1 (by decide) (hts _ (List.mem_of_getElem? (i := 6) rfl)) (fun _ h9 => h9) rfl (v := .ref (ad 76)) rfl dX11_looked_43 ?_
      refine lv_iload_n hx hb dX11_looked_46 rfl (lv_at hl 1 rfl) ?_
      refine c_iald (j := (x1).toNatClampNeg) hx hb hK hP 76 tC76 rfl (c_inV hi2002) dX11_looked_47 ?_
      refine lv_icmp_eq (tgt := 53) hx hb dX11_looked_48 (by decide) (fun c2004 => ?_) (fun c2004 => ?_)
      · have hf := c_it c2004 hf
        obtain ⟨v2005, ev2005, hf⟩ := c_letE hf
        refine lv_iinc (v := v2005) (lv' := [(1, .int v2005), (0, .ref (ad 0))]) hx hb dX11_looked_53 hl (k := 1) rfl (by rw [ev2005]; rfl) (by decide) rfl (fun ls hl => ?_)
        refine lv_goto (tgt := 2) hx hb dX11_looked_56 (by decide) ?_
        exact ih v2005 g hf _ _ hP hS _ (lv_sub hl [1, 0] rfl)
      · have hf := c_ie c2004 hf
        refine lv_iload_n hx hb dX11_looked_51 rfl (lv_at hl 1 rfl) ?_
        exact c_iret hx hb hr hlk hP hS rfl ⟨rfl, Option.some.inj hf⟩ dX11_looked_52
def fX11_looked (g : c_G)  : Option (Int32) :=
  fX11_looked_2 c_F ((0 : Int32)) g
set_option maxRecDepth 100000 in
set_option maxHeartbeats 4000000 in
theorem kX11_looked {l : Launch} {D : va_G} {tc : Nat → ClassId} {ad : Nat → Nat} {A : Nat → Prop} {E : (Nat → Nat) × (Nat → Nat) × Nat} (hD : c_D A ad TC)  {g : c_G} {r : Int32} (hf : fX11_looked g  = some r) : c_Mi l yX11_looked wsX11_looked (c_rm 0) D tc ad A E TC ([.ref (ad 0)] : List Value) g g r := by
  refine c_ofW (bytes := cX11_looked) (maxL := 2) (ret := (some .int)) (by decide) rfl (Nat.le_of_ble_eq_true rfl) ?_
  intro p e s m below meth c ls C hP hS hl
  unfold fX11_looked at hf
  obtain ⟨hx, hb, hr, hml, hts, hown, hlk, hK, hE⟩ := id C
  have hl : lv_has ls 2 [(0, .ref (ad 0))] := hl
  refine lv_iconst (v := (0 : Int32)) hx hb dX11_looked_0 (by decide) ?_
  refine lv_istore_n (lv' := [(1, .int (0 : Int32)), (0, .ref (ad 0))]) hx hb dX11_looked_1 rfl hl (by decide) rfl (fun ls hl => ?_)
  exact jX11_looked_2 C hD c_F ((0 : Int32)) g hf _ _ hP hS _ (lv_sub hl [1, 0] rfl)
theorem dX11_isTape_0 : decode cX11_isTape 0 = .ok (.iload_n 0, 1) := by decide +kernel
theorem dX11_isTape_1 : decode cX11_isTape 1 = .ok (.ifCond .lt 13, 3) := by decide +kernel
theorem dX11_isTape_4 : decode cX11_isTape 4 = .ok (.iload_n 0, 1) := by decide +kernel
theorem dX11_isTape_5 : decode cX11_isTape 5 = .ok (.bipush 6, 2) := by decide +kernel
theorem dX11_isTape_7 : decode cX11_isTape 7 = .ok (.if_icmp .ge 7, 3) := by decide +kernel
theorem dX11_isTape_10 : decode cX11_isTape 10 = .ok (.iconst 1, 1) := by decide +kernel
theorem dX11_isTape_11 : decode cX11_isTape 11 = .ok (.goto 4, 3) := by decide +kernel
theorem dX11_isTape_14 : decode cX11_isTape 14 = .ok (.iconst 0, 1) := by decide +kernel
theorem dX11_isTape_15 : decode cX11_isTape 15 = .ok (.ireturn, 1) := by decide +kernel
def fX11_isTape (a1 : Int32) : Int32 :=
  if a1 < 0 then ((0 : Int32)) else (if (6 : Int32) ≤ a1 then ((0 : Int32)) else ((1 : Int32)))
set_option maxRecDepth 100000 in
set_option maxHeartbeats 4000000 in
theorem kX11_isTape {l : Launch} {D : va_G} {tc : Nat → ClassId} {ad : Nat → Nat} {A : Nat → Prop} {E : (Nat → Nat) × (Nat → Nat) × Nat} {T : List c_T} {a1 : Int32} {g : c_G} {r : Int32} (hf : fX11_isTape a1 = r) : c_Mi l yX11_isTape wsX11_isTape (c_rm 0) D tc ad A E T ([.int a1] : List Value) g g r := by
  refine c_ofW (bytes := cX11_isTape) (maxL := 1) (ret := (some .boolean)) (by decide) rfl (Nat.le_of_ble_eq_true rfl) ?_
  intro p e s m below meth c ls C hP hS hl
  unfold fX11_isTape at hf
  obtain ⟨hx, hb, hr, hml, hts, hown, hlk, hK, hE⟩ := id C
  have hl : lv_has ls 1 [(0, .int a1)] := hl
  refine lv_iload_n hx hb dX11_isTape_0 rfl (lv_at hl 0 rfl) ?_
  refine lv_if_lt (tgt := 14) hx hb dX11_isTape_1 (by decide) (fun c1 => ?_) (fun c1 => ?_)
  · have hf := c_it c1 hf
    refine lv_iconst (v := (0 : Int32)) hx hb dX11_isTape_14 (by decide) ?_
    exact c_iret hx hb hr hlk hP hS rfl ⟨rfl, hf⟩ dX11_isTape_15
  · have hf := c_ie c1 hf
    refine lv_iload_n hx hb dX11_isTape_4 rfl (lv_at hl 0 rfl) ?_
    refine lv_bipush (v := (6 : Int32)) hx hb dX11_isTape_5 (by decide) ?_
    refine lv_icmp_ge (tgt := 14) hx hb dX11_isTape_7 (by decide) (fun c2 => ?_) (fun c2 => ?_)
    · have hf := c_it c2 hf
      refine lv_iconst (v := (0 : Int32)) hx hb dX11_isTape_14 (by decide) ?_
      exact c_iret hx hb hr hlk hP hS rfl ⟨rfl, hf⟩ dX11_isTape_15
    · have hf := c_ie c2 hf
      refine lv_iconst (v := (1 : Int32)) hx hb dX11_isTape_10 (by decide) ?_
      refine lv_goto (tgt := 15) hx hb dX11_isTape_11 (by decide) ?_
      exact c_iret hx hb hr hlk hP hS rfl ⟨rfl, hf⟩ dX11_isTape_15
theorem bX11_isTape (a1 : Int32) : fX11_isTape a1 = 0 ∨ fX11_isTape a1 = 1 := by
  unfold fX11_isTape
  first | (repeat' split) <;> first | exact Or.inl rfl | exact Or.inr rfl
theorem i_X11_judge_X7 : ∀ w ∈ u_ws RX7 TX7 17, w ∈ wsX11_judge := c_inP [29, 30, 31, 32, 33, 34, 35, 36, 37, 38, 39, 40, 41, 42, 43, 44, 45] (by decide +kernel)
theorem i_X11_judge_X11 : ∀ w ∈ u_ws RX11 TX11 19, w ∈ wsX11_judge := c_inP [10, 11, 12, 13, 14, 15, 16, 17, 18, 19, 20, 21, 22, 23, 24, 25, 26, 27, 28] (by decide +kernel)
theorem dX11_judge_0 : decode cX11_judge 0 = .ok (.iload_n 1, 1) := by decide +kernel
theorem dX11_judge_1 : decode cX11_judge 1 = .ok (.invokestatic 279, 3) := by decide +kernel
theorem dX11_judge_4 : decode cX11_judge 4 = .ok (.ifCond .ne 5, 3) := by decide +kernel
theorem dX11_judge_7 : decode cX11_judge 7 = .ok (.iconst (-1), 1) := by decide +kernel
theorem dX11_judge_8 : decode cX11_judge 8 = .ok (.ireturn, 1) := by decide +kernel
theorem dX11_judge_9 : decode cX11_judge 9 = .ok (.aload_n 0, 1) := by decide +kernel
theorem dX11_judge_10 : decode cX11_judge 10 = .ok (.getfield 44, 3) := by decide +kernel
theorem dX11_judge_13 : decode cX11_judge 13 = .ok (.iload_n 1, 1) := by decide +kernel
theorem dX11_judge_14 : decode cX11_judge 14 = .ok (.iaload, 1) := by decide +kernel
theorem dX11_judge_15 : decode cX11_judge 15 = .ok (.bipush (-5), 2) := by decide +kernel
theorem dX11_judge_17 : decode cX11_judge 17 = .ok (.if_icmp .ne 6, 3) := by decide +kernel
theorem dX11_judge_20 : decode cX11_judge 20 = .ok (.bipush 100, 2) := by decide +kernel
theorem dX11_judge_22 : decode cX11_judge 22 = .ok (.ireturn, 1) := by decide +kernel
theorem dX11_judge_23 : decode cX11_judge 23 = .ok (.aload_n 0, 1) := by decide +kernel
theorem dX11_judge_24 : decode cX11_judge 24 = .ok (.getfield 44, 3) := by decide +kernel
theorem dX11_judge_27 : decode cX11_judge 27 = .ok (.iload_n 1, 1) := by decide +kernel
theorem dX11_judge_28 : decode cX11_judge 28 = .ok (.iaload, 1) := by decide +kernel
theorem dX11_judge_29 : decode cX11_judge 29 = .ok (.iconst 4, 1) := by decide +kernel
theorem dX11_judge_30 : decode cX11_judge 30 = .ok (.if_icmp .eq 6, 3) := by decide +kernel
theorem dX11_judge_33 : decode cX11_judge 33 = .ok (.bipush (-12), 2) := by decide +kernel
theorem dX11_judge_35 : decode cX11_judge 35 = .ok (.ireturn, 1) := by decide +kernel
theorem dX11_judge_36 : decode cX11_judge 36 = .ok (.iload_n 2, 1) := by decide +kernel
theorem dX11_judge_37 : decode cX11_judge 37 = .ok (.ifCond .lt 13, 3) := by decide +kernel
theorem dX11_judge_40 : decode cX11_judge 40 = .ok (.iload_n 2, 1) := by decide +kernel
theorem dX11_judge_41 : decode cX11_judge 41 = .ok (.aload_n 0, 1) := by decide +kernel
theorem dX11_judge_42 : decode cX11_judge 42 = .ok (.getfield 47, 3) := by decide +kernel
theorem dX11_judge_45 : decode cX11_judge 45 = .ok (.iload_n 1, 1) := by decide +kernel
theorem dX11_judge_46 : decode cX11_judge 46 = .ok (.iaload, 1) := by decide +kernel
theorem dX11_judge_47 : decode cX11_judge 47 = .ok (.if_icmp .le 6, 3) := by decide +kernel
theorem dX11_judge_50 : decode cX11_judge 50 = .ok (.bipush 100, 2) := by decide +kernel
theorem dX11_judge_52 : decode cX11_judge 52 = .ok (.ireturn, 1) := by decide +kernel
theorem dX11_judge_53 : decode cX11_judge 53 = .ok (.iconst 0, 1) := by decide +kernel
theorem dX11_judge_54 : decode cX11_judge 54 = .ok (.istore_n 3, 1) := by decide +kernel
theorem dX11_judge_55 : decode cX11_judge 55 = .ok (.iload_n 3, 1) := by decide +kernel
theorem dX11_judge_56 : decode cX11_judge 56 = .ok (.bipush 6, 2) := by decide +kernel
theorem dX11_judge_58 : decode cX11_judge 58 = .ok (.if_icmp .ge 68, 3) := by decide +kernel
theorem dX11_judge_61 : decode cX11_judge 61 = .ok (.iload_n 2, 1) := by decide +kernel
theorem dX11_judge_62 : decode cX11_judge 62 = .ok (.iload_n 3, 1) := by decide +kernel
theorem dX11_judge_63 : decode cX11_judge 63 = .ok (.iadd, 1) := by decide +kernel
theorem dX11_judge_64 : decode cX11_judge 64 = .ok (.aload_n 0, 1) := by decide +kernel
theorem dX11_judge_65 : decode cX11_judge 65 = .ok (.getfield 47, 3) := by decide +kernel
theorem dX11_judge_68 : decode cX11_judge 68 = .ok (.iload_n 1, 1) := by decide +kernel
theorem dX11_judge_69 : decode cX11_judge 69 = .ok (.iaload, 1) := by decide +kernel
theorem dX11_judge_70 : decode cX11_judge 70 = .ok (.if_icmp .lt 8, 3) := by decide +kernel
theorem dX11_judge_73 : decode cX11_judge 73 = .ok (.bipush 100, 2) := by decide +kernel
theorem dX11_judge_75 : decode cX11_judge 75 = .ok (.iload_n 3, 1) := by decide +kernel
theorem dX11_judge_76 : decode cX11_judge 76 = .ok (.iadd, 1) := by decide +kernel
theorem dX11_judge_77 : decode cX11_judge 77 = .ok (.ireturn, 1) := by decide +kernel
theorem dX11_judge_78 : decode cX11_judge 78 = .ok (.aload_n 0, 1) := by decide +kernel
theorem dX11_judge_79 : decode cX11_judge 79 = .ok (.getfield 88, 3) := by decide +kernel
theorem dX11_judge_82 : decode cX11_judge 82 = .ok (.getfield 151, 3) := by decide +kernel
theorem dX11_judge_85 : decode cX11_judge 85 = .ok (.iload_n 3, 1) := by decide +kernel
theorem dX11_judge_86 : decode cX11_judge 86 = .ok (.iaload, 1) := by decide +kernel
theorem dX11_judge_87 : decode cX11_judge 87 = .ok (.ifCond .lt 7, 3) := by decide +kernel
theorem dX11_judge_90 : decode cX11_judge 90 = .ok (.iconst 1, 1) := by decide +kernel
theorem dX11_judge_91 : decode cX11_judge 91 = .ok (.goto 4, 3) := by decide +kernel
theorem dX11_judge_94 : decode cX11_judge 94 = .ok (.iconst 0, 1) := by decide +kernel
theorem dX11_judge_95 : decode cX11_judge 95 = .ok (.aload_n 0, 1) := by decide +kernel
theorem dX11_judge_96 : decode cX11_judge 96 = .ok (.getfield 52, 3) := by decide +kernel
theorem dX11_judge_99 : decode cX11_judge 99 = .ok (.iload_n 1, 1) := by decide +kernel
theorem dX11_judge_100 : decode cX11_judge 100 = .ok (.aaload, 1) := by decide +kernel
theorem dX11_judge_101 : decode cX11_judge 101 = .ok (.iload_n 2, 1) := by decide +kernel
theorem dX11_judge_102 : decode cX11_judge 102 = .ok (.iload_n 3, 1) := by decide +kernel
theorem dX11_judge_103 : decode cX11_judge 103 = .ok (.iadd, 1) := by decide +kernel
theorem dX11_judge_104 : decode cX11_judge 104 = .ok (.laload, 1) := by decide +kernel
theorem dX11_judge_105 : decode cX11_judge 105 = .ok (.lconst 1, 1) := by decide +kernel
theorem dX11_judge_106 : decode cX11_judge 106 = .ok (.lcmp, 1) := by decide +kernel
theorem dX11_judge_107 : decode cX11_judge 107 = .ok (.ifCond .ne 7, 3) := by decide +kernel
theorem dX11_judge_110 : decode cX11_judge 110 = .ok (.iconst 1, 1) := by decide +kernel
theorem dX11_judge_111 : decode cX11_judge 111 = .ok (.goto 4, 3) := by decide +kernel
theorem dX11_judge_114 : decode cX11_judge 114 = .ok (.iconst 0, 1) := by decide +kernel
theorem dX11_judge_115 : decode cX11_judge 115 = .ok (.if_icmp .eq 5, 3) := by decide +kernel
theorem dX11_judge_118 : decode cX11_judge 118 = .ok (.iload_n 3, 1) := by decide +kernel
theorem dX11_judge_119 : decode cX11_judge 119 = .ok (.ireturn, 1) := by decide +kernel
theorem dX11_judge_120 : decode cX11_judge 120 = .ok (.iinc 3 1, 3) := by decide +kernel
theorem dX11_judge_123 : decode cX11_judge 123 = .ok (.goto (-68), 3) := by decide +kernel
theorem dX11_judge_126 : decode cX11_judge 126 = .ok (.bipush (-5), 2) := by decide +kernel
theorem dX11_judge_128 : decode cX11_judge 128 = .ok (.ireturn, 1) := by decide +kernel
set_option maxRecDepth 20000 in
theorem ggX11_judge_X11_isTape : GoodIn wsX11_judge wsX11_isTape := goodIn_r _ [9] (by decide +kernel) (by decide +kernel)
set_option maxRecDepth 20000 in
theorem gX11_judge_X11_isTape : GoodIn wsX11_judge (va_wsS RX11 279 yX11_isTape wsX11_isTape) := goodIn_app (goodIn_of _ (by decide +kernel)) ggX11_judge_X11_isTape
def fX11_judge_115 (rec55 : Int32 → Int32 → Int32 → c_G → Option (Int32)) (a1 : Int32) (a2 : Int32) (x1 : Int32) (x2 : Int32) (x3 : Int32) (y0 : Int32) (y1 : Int32) (g : c_G) : Option (Int32) :=
  if y0 = y1 then (c_let (x3 + (1 : Int32)) fun v115002 => rec55 x1 x2 v115002 g) else (some x3)
set_option maxRecDepth 100000 in
set_option maxHeartbeats 4000000 in
theorem jX11_judge_115 {p : Program} {l : Launch} {e : Env} {s : State} {m : MethodId} {below : List Frame} {meth : Method} {c : Code} {D : va_G} {tc : Nat → ClassId} {ad : Nat → Nat} {A : Nat → Prop} {E : (Nat → Nat) × (Nat → Nat) × Nat} {a1 : Int32} {a2 : Int32} {r : Int32} (C : c_C p s m meth c D tc A E RX11 wsX11_judge cX11_judge 4 (some .int) ([.ref (ad 0), .int a1, .int a2] : List Value).toArray) (hD : c_D A ad TC) {rec55 : Int32 → Int32 → Int32 → c_G → Option (Int32)} (hrec55 : ∀ (x1 : Int32) (x2 : Int32) (x3 : Int32) (g : c_G), rec55 x1 x2 x3 g = some r → ∀ (H : Heap) (locs : List Loc), va_P D vwCl (c_ws tc ad TC g) H → va_S A s.heap H locs → ∀ ls : Array Slot, lv_has ls 4 [(0, .ref (ad 0)), (1, .int x1), (2, .int x2), (3, .int x3)] → W p l e (c_rm 1) s m ([.ref (ad 0), .int a1, .int a2] : List Value).toArray below meth c H locs 0 0 (MQ below (va_Qi (fun (x : Int32) (_ : Unit) => x = r) (fun _ t => va_P D vwCl (c_ws tc ad TC g) t.heap) A) ([.ref (ad 0), .int a1, .int a2] : List Value).toArray s 0 0 A) (F0 m 55 ls [])) : ∀ (x1 : Int32) (x2 : Int32) (x3 : Int32) (y0 : Int32) (y1 : Int32) (g : c_G), fX11_judge_115 rec55 a1 a2 x1 x2 x3 y0 y1 g = some r → ∀ (H : Heap) (locs : List Loc), va_P D vwCl (c_ws tc ad TC g) H → va_S A s.heap H locs → ∀ ls : Array Slot, lv_has ls 4 [(0, .ref (ad 0)), (1, .int x1), (2, .int x2), (3, .int x3)] → W p l e (c_rm 1) s m ([.ref (ad 0), .int a1, .int a2] : List Value).toArray below meth c H locs 0 0 (MQ below (va_Qi (fun (x : Int32) (_ : Unit) => x = r) (fun _ t => va_P D vwCl (c_ws tc ad TC g) t.heap) A) ([.ref (ad 0), .int a1, .int a2] : List Value).toArray s 0 0 A) (F0 m 115 ls [.int y1, .int y0]) := by
  obtain ⟨hx, hb, hr, hml, hts, hown, hlk, hK, hE⟩ := id C
  intro x1 x2 x3 y0 y1 g hf H locs hP hS ls hl
  unfold fX11_judge_115 at hf
  refine lv_icmp_eq (tgt := 120) hx hb dX11_judge_115 (by decide) (fun c115001 => ?_) (fun c115001 => ?_)
  · have hf := c_it c115001 hf
    obtain ⟨v115002, ev115002, hf⟩ := c_letE hf
    refine lv_iinc (v := v115002) (lv' := [(3, .int v115002), (0, .ref (ad 0)), (1, .int x1), (2, .int x2)]) hx hb dX11_judge_120 hl (k := 3) rfl (by rw [ev115002]; rfl) (by decide) rfl (fun ls hl => ?_)
    refine lv_goto (tgt := 55) hx hb dX11_judge_123 (by decide) ?_
    exact hrec55 x1 x2 v115002 g hf _ _ hP hS _ (lv_sub hl [1, 2, 3, 0] rfl)
  · have hf := c_ie c115001 hf
    refine lv_iload_n hx hb dX11_judge_118 rfl (lv_at hl 3 rfl) ?_
    exact c_iret hx hb hr hlk hP hS rfl ⟨rfl, Option.some.inj hf⟩ dX11_judge_119
def fX11_judge_95 (rec55 : Int32 → Int32 → Int32 → c_G → Option (Int32)) (a1 : Int32) (a2 : Int32) (x1 : Int32) (x2 : Int32) (x3 : Int32) (y0 : Int32) (g : c_G) : Option (Int32) :=
  if c_in (x1) (6) = true then if c_in ((x2 + x3)) (60) = true then if (lg_cmp (g.2.1 (13 + (x1).toNatClampNeg) ((x2 + x3)).toNatClampNeg) (1 : Int64)) = 0 then (fX11_judge_115 rec55 a1 a2 x1 x2 x3 y0 ((1 : Int32)) g) else (fX11_judge_115 rec55 a1 a2 x1 x2 x3 y0 ((0 : Int32)) g) else none else none
set_option maxRecDepth 100000 in
set_option maxHeartbeats 4000000 in
theorem jX11_judge_95 {p : Program} {l : Launch} {e : Env} {s : State} {m : MethodId} {below : List Frame} {meth : Method} {c : Code} {D : va_G} {tc : Nat → ClassId} {ad : Nat → Nat} {A : Nat → Prop} {E : (Nat → Nat) × (Nat → Nat) × Nat} {a1 : Int32} {a2 : Int32} {r : Int32} (C : c_C p s m meth c D tc A E RX11 wsX11_judge cX11_judge 4 (some .int) ([.ref (ad 0), .int a1, .int a2] : List Value).toArray) (hD : c_D A ad TC) {rec55 : Int32 → Int32 → Int32 → c_G → Option (Int32)} (hrec55 : ∀ (x1 : Int32) (x2 : Int32) (x3 : Int32) (g : c_G), rec55 x1 x2 x3 g = some r → ∀ (H : Heap) (locs : List Loc), va_P D vwCl (c_ws tc ad TC g) H → va_S A s.heap H locs → ∀ ls : Array Slot, lv_has ls 4 [(0, .ref (ad 0)), (1, .int x1), (2, .int x2), (3, .int x3)] → W p l e (c_rm 1) s m ([.ref (ad 0), .int a1, .int a2] : List Value).toArray below meth c H locs 0 0 (MQ below (va_Qi (fun (x : Int32) (_ : Unit) => x = r) (fun _ t => va_P D vwCl (c_ws tc ad TC g) t.heap) A) ([.ref (ad 0), .int a1, .int a2] : List Value).toArray s 0 0 A) (F0 m 55 ls [])) : ∀ (x1 : Int32) (x2 : Int32) (x3 : Int32) (y0 : Int32) (g : c_G), fX11_judge_95 rec55 a1 a2 x1 x2 x3 y0 g = some r → ∀ (H : Heap) (locs : List Loc), va_P D vwCl (c_ws tc ad TC g) H → va_S A s.heap H locs → ∀ ls : Array Slot, lv_has ls 4 [(0, .ref (ad 0)), (1, .int x1), (2, .int x2), (3, .int x3)] → W p l e (c_rm 1) s m ([.ref (ad 0), .int a1, .int a2] : List Value).toArray below meth c H locs 0 0 (MQ below (va_Qi (fun (x : Int32) (_ : Unit) => x = r) (fun _ t => va_P D vwCl (c_ws tc ad TC g) t.heap) A) ([.ref (ad 0), .int a1, .int a2] : List Value).toArray s 0 0 A) (F0 m 95 ls [.int y0]) := by
  obtain ⟨hx, hb, hr, hml, hts, hown, hlk, hK, hE⟩ := id C
  intro x1 x2 x3 y0 g hf H locs hP hS ls hl
  unfold fX11_judge_95 at hf
  refine lv_aload_n hx hb dX11_judge_95 rfl (lv_at hl 0 rfl) ?_
  refine c_get hx hb hts i_X11_judge_X11 hown hK hP 0 tC0 rfl 18 (by decide) (hts _ (List.mem_of_getElem? (i := 5) rfl)) (fun _ h9 => h9) rfl (v := .ref (ad 12)) rfl dX11_judge_96 ?_
  refine lv_iload_n hx hb dX11_judge_99 rfl (lv_at hl 1 rfl) ?_
  obtain ⟨hi95001, hf⟩ := c_gd hf
  refine c_aald7 hx hb hK hP 12 tC12 (c_inV hi95001) (y := (13 + (x1).toNatClampNeg)) (c_tA (c_iN hi95001)) dX11_judge_100 ?_
  refine lv_iload_n hx hb dX11_judge_101 rfl (lv_at hl 2 rfl) ?_
  refine lv_iload_n hx hb dX11_judge_102 rfl (lv_at hl 3 rfl) ?_
  refine lv_iadd hx hb dX11_judge_103 ?_
  obtain ⟨hi95002, hf⟩ := c_gd hf
  refine c_lald (j := ((x2 + x3)).toNatClampNeg) hx hb hK hP (13 + (x1).toNatClampNeg) (c_tB (c_iN hi95001)) rfl (c_inV hi95002) dX11_judge_104 ?_
  refine lv_lconst (v := (1 : Int64)) hx hb dX11_judge_105 (by decide) ?_
  refine W.lcmp hx hb dX11_judge_106 ?_
  refine lv_if_ne (tgt := 114) hx hb dX11_judge_107 (by decide) (fun c95003 => ?_) (fun c95003 => ?_)
  · have hf := c_ie c95003 hf
    refine lv_iconst (v := (0 : Int32)) hx hb dX11_judge_114 (by decide) ?_
    exact jX11_judge_115 C hD hrec55 x1 x2 x3 y0 ((0 : Int32)) g hf _ _ hP hS _ (lv_sub hl [0, 1, 2, 3] rfl)
  · have hf := c_it c95003 hf
    refine lv_iconst (v := (1 : Int32)) hx hb dX11_judge_110 (by decide) ?_
    refine lv_goto (tgt := 115) hx hb dX11_judge_111 (by decide) ?_
    exact jX11_judge_115 C hD hrec55 x1 x2 x3 y0 ((1 : Int32)) g hf _ _ hP hS _ (lv_sub hl [0, 1, 2, 3] rfl)
def fX11_judge_55  (a1 : Int32) (a2 : Int32) : Nat → Int32 → Int32 → Int32 → c_G → Option (Int32)
  | 0, _, _, _, _ => none
  | n + 1, x1, x2, x3, g => if (6 : Int32) ≤ x3 then (some (-5 : Int32)) else (if c_in (x1) (6) = true then if (x2 + x3) < (g.1 11 (x1).toNatClampNeg) then (if c_in (x3) (6) = true then if (g.1 57 (x3).toNatClampNeg) < 0 then (fX11_judge_95 (fX11_judge_55 a1 a2 n) a1 a2 x1 x2 x3 ((0 : Int32)) g) else (fX11_judge_95 (fX11_judge_55 a1 a2 n) a1 a2 x1 x2 x3 ((1 : Int32)) g) else none) else (some ((100 : Int32) + x3)) else none)
set_option maxRecDepth 100000 in
set_option maxHeartbeats 4000000 in
theorem jX11_judge_55 {p : Program} {l : Launch} {e : Env} {s : State} {m : MethodId} {below : List Frame} {meth : Method} {c : Code} {D : va_G} {tc : Nat → ClassId} {ad : Nat → Nat} {A : Nat → Prop} {E : (Nat → Nat) × (Nat → Nat) × Nat} {a1 : Int32} {a2 : Int32} {r : Int32} (C : c_C p s m meth c D tc A E RX11 wsX11_judge cX11_judge 4 (some .int) ([.ref (ad 0), .int a1, .int a2] : List Value).toArray) (hD : c_D A ad TC)  : ∀ (n : Nat) (x1 : Int32) (x2 : Int32) (x3 : Int32) (g : c_G), fX11_judge_55 a1 a2 n x1 x2 x3 g = some r → ∀ (H : Heap) (locs : List Loc), va_P D vwCl (c_ws tc ad TC g) H → va_S A s.heap H locs → ∀ ls : Array Slot, lv_has ls 4 [(0, .ref (ad 0)), (1, .int x1), (2, .int x2), (3, .int x3)] → W p l e (c_rm 1) s m ([.ref (ad 0), .int a1, .int a2] : List Value).toArray below meth c H locs 0 0 (MQ below (va_Qi (fun (x : Int32) (_ : Unit) => x = r) (fun _ t => va_P D vwCl (c_ws tc ad TC g) t.heap) A) ([.ref (ad 0), .int a1, .int a2] : List Value).toArray s 0 0 A) (F0 m 55 ls []) := by
  obtain ⟨hx, hb, hr, hml, hts, hown, hlk, hK, hE⟩ := id C
  intro n
  induction n with
  | zero =>
    intro x1 x2 x3 g hf
    cases hf
  | succ n ih =>
    intro x1 x2 x3 g hf H locs hP hS ls hl
    unfold fX11_judge_55 at hf
    refine lv_iload_n hx hb dX11_judge_55 rfl (lv_at hl 3 rfl) ?_
    refine lv_bipush (v := (6 : Int32)) hx hb dX11_judge_56 (by decide) ?_
    refine lv_icmp_ge (tgt := 126) hx hb dX11_judge_58 (by decide) (fun c55001 => ?_) (fun c55001 => ?_)
    · have hf := c_it c55001 hf
      refine lv_bipush (v := (-5 : Int32)) hx hb dX11_judge_126 (by decide) ?_
      exact c_iret hx hb hr hlk hP hS rfl ⟨rfl, Option.some.inj hf⟩ dX11_judge_128
    · have hf := c_ie c55001 hf
      refine lv_iload_n hx hb dX11_judge_61 rfl (lv_at hl 2 rfl) ?_
      refine lv_iload_n hx hb dX11_judge_62 rfl (lv_at hl 3 rfl) ?_
      refine lv_iadd hx hb dX11_judge_63 ?_
      refine lv_aload_n hx hb dX11_judge_64 rfl (lv_at hl 0 rfl) ?_
      refine c_get hx hb hts i_X11_judge_X11 hown hK hP 0 tC0 rfl 17 (by decide) (hts _ (List.mem_of_getElem? (i := 2) rfl)) (fun _ h9 => h9) rfl (v := .ref (ad 11)) rfl dX11_judge_65 ?_
      refine lv_iload_n hx hb dX11_judge_68 rfl (lv_at hl 1 rfl) ?_
      obtain ⟨hi55002, hf⟩ := c_gd hf
      refine c_iald (j := (x1).toNatClampNeg) hx hb hK hP 11 tC11 rfl (c_inV hi55002) dX11_judge_69 ?_
      refine lv_icmp_lt (tgt := 78) hx hb dX11_judge_70 (by decide) (fun c55003 => ?_) (fun c55003 => ?_)
      · have hf := c_it c55003 hf
        refine lv_aload_n hx hb dX11_judge_78 rfl (lv_at hl 0 rfl) ?_
        refine c_get hx hb hts i_X11_judge_X11 hown hK hP 0 tC0 rfl 5 (by decide) (hts _ (List.mem_of_getElem? (i := 3) rfl)) (fun _ h9 => h9) rfl (v := .ref (ad 55)) rfl dX11_judge_79 ?_
        refine c_get hx hb hts i_X11_judge_X7 hown hK hP 55 tC55 rfl 1 (by decide) (hts _ (List.mem_of_getElem? (i := 4) rfl)) (fun _ h9 => h9) rfl (v := .ref (ad 57)) rfl dX11_judge_82 ?_
        refine lv_iload_n hx hb dX11_judge_85 rfl (lv_at hl 3 rfl) ?_
        obtain ⟨hi55004, hf⟩ := c_gd hf
        refine c_iald (j := (x3).toNatClampNeg) hx hb hK hP 57 tC57 rfl (c_inV hi55004) dX11_judge_86 ?_
        refine lv_if_lt (tgt := 94) hx hb dX11_judge_87 (by decide) (fun c55005 => ?_) (fun c55005 => ?_)
        · have hf := c_it c55005 hf
          refine lv_iconst (v := (0 : Int32)) hx hb dX11_judge_94 (by decide) ?_
          exact jX11_judge_95 C hD ih x1 x2 x3 ((0 : Int32)) g hf _ _ hP hS _ (lv_sub hl [0, 1, 2, 3] rfl)
        · have hf := c_ie c55005 hf
          refine lv_iconst (v := (1 : Int32)) hx hb dX11_judge_90 (by decide) ?_
          refine lv_goto (tgt := 95) hx hb dX11_judge_91 (by decide) ?_
          exact jX11_judge_95 C hD ih x1 x2 x3 ((1 : Int32)) g hf _ _ hP hS _ (lv_sub hl [0, 1, 2, 3] rfl)
      · have hf := c_ie c55003 hf
        refine lv_bipush (v := (100 : Int32)) hx hb dX11_judge_73 (by decide) ?_
        refine lv_iload_n hx hb dX11_judge_75 rfl (lv_at hl 3 rfl) ?_
        refine lv_iadd hx hb dX11_judge_76 ?_
        exact c_iret hx hb hr hlk hP hS rfl ⟨rfl, Option.some.inj hf⟩ dX11_judge_77
def fX11_judge (g : c_G) (a1 : Int32) (a2 : Int32) : Option (Int32) :=
  if (fX11_isTape a1) = 0 then (some (-1 : Int32)) else (if c_in (a1) (6) = true then if (g.1 10 (a1).toNatClampNeg) = (-5 : Int32) then (some (100 : Int32)) else (if (g.1 10 (a1).toNatClampNeg) = (4 : Int32) then (if a2 < 0 then (some (100 : Int32)) else (if a2 ≤ (g.1 11 (a1).toNatClampNeg) then (fX11_judge_55 a1 a2 c_F a1 a2 ((0 : Int32)) g) else (some (100 : Int32)))) else (some (-12 : Int32))) else none)
set_option maxRecDepth 100000 in
set_option maxHeartbeats 4000000 in
theorem kX11_judge {l : Launch} {D : va_G} {tc : Nat → ClassId} {ad : Nat → Nat} {A : Nat → Prop} {E : (Nat → Nat) × (Nat → Nat) × Nat} (hD : c_D A ad TC) {a1 : Int32} {a2 : Int32} {g : c_G} {r : Int32} (hf : fX11_judge g a1 a2 = some r) : c_Mi l yX11_judge wsX11_judge (c_rm 1) D tc ad A E TC ([.ref (ad 0), .int a1, .int a2] : List Value) g g r := by
  refine c_ofW (bytes := cX11_judge) (maxL := 4) (ret := (some .int)) (by decide) rfl (Nat.le_of_ble_eq_true rfl) ?_
  intro p e s m below meth c ls C hP hS hl
  unfold fX11_judge at hf
  obtain ⟨hx, hb, hr, hml, hts, hown, hlk, hK, hE⟩ := id C
  have hl : lv_has ls 4 [(0, .ref (ad 0)), (1, .int a1), (2, .int a2)] := hl
  refine lv_iload_n hx hb dX11_judge_0 rfl (lv_at hl 1 rfl) ?_
  refine c_goi (va_runS (As := [.int a1]) (rest := []) ⟨hx, hb, hml, hown, hts⟩ (kX11_isTape (T := TC) (g := g) rfl) (va_cwS 1 hts gX11_judge_X11_isTape rfl rfl rfl (by decide +kernel) ⟨Nat.le_of_ble_eq_true rfl, Nat.le_of_ble_eq_true rfl⟩) (c_preS hK hP hE hS) rfl rfl hl.1 rfl (lv_room (Nat.le_of_ble_eq_true rfl)) dX11_judge_1 ⟨Nat.zero_le _, Nat.zero_le _⟩) hS (fun H locs hP hS => ?_)
  refine lv_if_ne (tgt := 9) hx hb dX11_judge_4 (by decide) (fun c1 => ?_) (fun c1 => ?_)
  · have hf := c_ie c1 hf
    refine lv_aload_n hx hb dX11_judge_9 rfl (lv_at hl 0 rfl) ?_
    refine c_get hx hb hts i_X11_judge_X11 hown hK hP 0 tC0 rfl 16 (by decide) (hts _ (List.mem_of_getElem? (i := 1) rfl)) (fun _ h9 => h9) rfl (v := .ref (ad 10)) rfl dX11_judge_10 ?_
    refine lv_iload_n hx hb dX11_judge_13 rfl (lv_at hl 1 rfl) ?_
    obtain ⟨hi2, hf⟩ := c_gd hf
    refine c_iald (j := (a1).toNatClampNeg) hx hb hK hP 10 tC10 rfl (c_inV hi2) dX11_judge_14 ?_
    refine lv_bipush (v := (-5 : Int32)) hx hb dX11_judge_15 (by decide) ?_
    refine lv_icmp_ne (tgt := 23) hx hb dX11_judge_17 (by decide) (fun c3 => ?_) (fun c3 => ?_)
    · have hf := c_ie c3 hf
      refine lv_aload_n hx hb dX11_judge_23 rfl (lv_at hl 0 rfl) ?_
      refine c_get hx hb hts i_X11_judge_X11 hown hK hP 0 tC0 rfl 16 (by decide) (hts _ (List.mem_of_getElem? (i := 1) rfl)) (fun _ h9 => h9) rfl (v := .ref (ad 10)) rfl dX11_judge_24 ?_
      refine lv_iload_n hx hb dX11_judge_27 rfl (lv_at hl 1 rfl) ?_
      refine c_iald (j := (a1).toNatClampNeg) hx hb hK hP 10 tC10 rfl (c_inV hi2) dX11_judge_28 ?_
      refine lv_iconst (v := (4 : Int32)) hx hb dX11_judge_29 (by decide) ?_
      refine lv_icmp_eq (tgt := 36) hx hb dX11_judge_30 (by decide) (fun c4 => ?_) (fun c4 => ?_)
      · have hf := c_it c4 hf
        refine lv_iload_n hx hb dX11_judge_36 rfl (lv_at hl 2 rfl) ?_
        refine lv_if_lt (tgt := 50) hx hb dX11_judge_37 (by decide) (fun c5 => ?_) (fun c5 => ?_)
        · have hf := c_it c5 hf
          refine lv_bipush (v := (100 : Int32)) hx hb dX11_judge_50 (by decide) ?_
          exact c_iret hx hb hr hlk hP hS rfl ⟨rfl, Option.some.inj hf⟩ dX11_judge_52
        · have hf := c_ie c5 hf
          refine lv_iload_n hx hb dX11_judge_40 rfl (lv_at hl 2 rfl) ?_
          refine lv_aload_n hx hb dX11_judge_41 rfl (lv_at hl 0 rfl) ?_
          refine c_get hx hb hts i_X11_judge_X11 hown hK hP 0 tC0 rfl 17 (by decide) (hts _ (List.mem_of_getElem? (i := 2) rfl)) (fun _ h9 => h9) rfl (v := .ref (ad 11)) rfl dX11_judge_42 ?_
          refine lv_iload_n hx hb dX11_judge_45 rfl (lv_at hl 1 rfl) ?_
          refine c_iald (j := (a1).toNatClampNeg) hx hb hK hP 11 tC11 rfl (c_inV hi2) dX11_judge_46 ?_
          refine lv_icmp_le (tgt := 53) hx hb dX11_judge_47 (by decide) (fun c6 => ?_) (fun c6 => ?_)
          · have hf := c_it c6 hf
            refine lv_iconst (v := (0 : Int32)) hx hb dX11_judge_53 (by decide) ?_
            refine lv_istore_n (lv' := [(3, .int (0 : Int32)), (0, .ref (ad 0)), (1, .int a1), (2, .int a2)]) hx hb dX11_judge_54 rfl hl (by decide) rfl (fun ls hl => ?_)
            exact jX11_judge_55 C hD c_F a1 a2 ((0 : Int32)) g hf _ _ hP hS _ (lv_sub hl [1, 2, 3, 0] rfl)
          · have hf := c_ie c6 hf
            refine lv_bipush (v := (100 : Int32)) hx hb dX11_judge_50 (by decide) ?_
            exact c_iret hx hb hr hlk hP hS rfl ⟨rfl, Option.some.inj hf⟩ dX11_judge_52
      · have hf := c_ie c4 hf
        refine lv_bipush (v := (-12 : Int32)) hx hb dX11_judge_33 (by decide) ?_
        exact c_iret hx hb hr hlk hP hS rfl ⟨rfl, Option.some.inj hf⟩ dX11_judge_35
    · have hf := c_it c3 hf
      refine lv_bipush (v := (100 : Int32)) hx hb dX11_judge_20 (by decide) ?_
      exact c_iret hx hb hr hlk hP hS rfl ⟨rfl, Option.some.inj hf⟩ dX11_judge_22
  · have hf := c_it c1 hf
    refine lv_iconst (v := (-1 : Int32)) hx hb dX11_judge_7 (by decide) ?_
    exact c_iret hx hb hr hlk hP hS rfl ⟨rfl, Option.some.inj hf⟩ dX11_judge_8
theorem i_X11_image_X7 : ∀ w ∈ u_ws RX7 TX7 17, w ∈ wsX11_image := c_inP [60, 61, 62, 63, 64, 65, 66, 67, 68, 69, 70, 71, 72, 73, 74, 75, 76] (by decide +kernel)
theorem i_X11_image_X11 : ∀ w ∈ u_ws RX11 TX11 19, w ∈ wsX11_image := c_inP [41, 42, 43, 44, 45, 46, 47, 48, 49, 50, 51, 52, 53, 54, 55, 56, 57, 58, 59] (by decide +kernel)
theorem dX11_image_0 : decode cX11_image 0 = .ok (.aload_n 0, 1) := by decide +kernel
theorem dX11_image_1 : decode cX11_image 1 = .ok (.getfield 92, 3) := by decide +kernel
theorem dX11_image_4 : decode cX11_image 4 = .ok (.aload_n 0, 1) := by decide +kernel
theorem dX11_image_5 : decode cX11_image 5 = .ok (.getfield 88, 3) := by decide +kernel
theorem dX11_image_8 : decode cX11_image 8 = .ok (.invokevirtual 224, 3) := by decide +kernel
theorem dX11_image_11 : decode cX11_image 11 = .ok (.aload_n 0, 1) := by decide +kernel
theorem dX11_image_12 : decode cX11_image 12 = .ok (.iconst 1, 1) := by decide +kernel
theorem dX11_image_13 : decode cX11_image 13 = .ok (.putfield 282, 3) := by decide +kernel
theorem dX11_image_16 : decode cX11_image 16 = .ok (.aload_n 0, 1) := by decide +kernel
theorem dX11_image_17 : decode cX11_image 17 = .ok (.getfield 88, 3) := by decide +kernel
theorem dX11_image_20 : decode cX11_image 20 = .ok (.getfield 111, 3) := by decide +kernel
theorem dX11_image_23 : decode cX11_image 23 = .ok (.ireturn, 1) := by decide +kernel
set_option maxRecDepth 20000 in
theorem ggX11_image_X7_copyFrom : GoodIn wsX11_image wsX7_copyFrom := goodIn_r _ [9, 10, 11, 12, 13, 14, 15, 16, 17, 18, 19, 20, 21, 22, 23, 24, 25, 26, 27, 28, 29, 30, 31, 32, 33, 34, 35, 36, 37, 38, 39, 40, 60, 61, 62, 63, 64, 65, 66, 67, 68, 69, 70, 71, 72, 73, 74, 75, 76, 77, 78, 79, 80] (by decide +kernel) (by decide +kernel)
set_option maxRecDepth 20000 in
theorem gX11_image_X7_copyFrom : GoodIn wsX11_image (wsV RX11 224 RX7 yX7_copyFrom wsX7_copyFrom) := goodIn_app (goodIn_of _ (by decide +kernel)) ggX11_image_X7_copyFrom
def fX11_image (g : c_G)  : Option (c_G × Int32) :=
  (fX7_copyFrom g 55).bind fun g2 => c_let (c_si g2 0 8 (1 : Int32)) fun g3 => some (g3, (g3.1 55 6))
set_option maxRecDepth 100000 in
set_option maxHeartbeats 4000000 in
theorem kX11_image {l : Launch} {D : va_G} {tc : Nat → ClassId} {ad : Nat → Nat} {A : Nat → Prop} {E : (Nat → Nat) × (Nat → Nat) × Nat} (hD : c_D A ad TC)  {g g' : c_G} {r : Int32} (hf : fX11_image g  = some (g', r)) : c_Mi l yX11_image wsX11_image (c_rm 3) D tc ad A E TC ([.ref (ad 0)] : List Value) g g' r := by
  refine c_ofW (bytes := cX11_image) (maxL := 1) (ret := (some .int)) (by decide) rfl (Nat.le_of_ble_eq_true rfl) ?_
  intro p e s m below meth c ls C hP hS hl
  unfold fX11_image at hf
  obtain ⟨hx, hb, hr, hml, hts, hown, hlk, hK, hE⟩ := id C
  have hl : lv_has ls 1 [(0, .ref (ad 0))] := hl
  refine lv_aload_n hx hb dX11_image_0 rfl (lv_at hl 0 rfl) ?_
  refine c_get hx hb hts i_X11_image_X11 hown hK hP 0 tC0 rfl 6 (by decide) (hts _ (List.mem_of_getElem? (i := 1) rfl)) (fun _ h9 => h9) rfl (v := .ref (ad 78)) rfl dX11_image_1 ?_
  refine lv_aload_n hx hb dX11_image_4 rfl (lv_at hl 0 rfl) ?_
  refine c_get hx hb hts i_X11_image_X11 hown hK hP 0 tC0 rfl 5 (by decide) (hts _ (List.mem_of_getElem? (i := 2) rfl)) (fun _ h9 => h9) rfl (v := .ref (ad 55)) rfl dX11_image_5 ?_
  obtain ⟨g2, hc1, hf⟩ := c_bd hf
  refine c_gov (va_runV (As := [.ref (ad 55)]) (rest := []) ⟨hx, hb, hml, hown, hts⟩ (kX7_copyFrom hD hc1) (cwV 1 hts gX11_image_X7_copyFrom rfl rfl rfl (by decide +kernel) ⟨Nat.le_of_ble_eq_true rfl, Nat.le_of_ble_eq_true rfl⟩) (c_preV hK hP hE hS tC78 rfl) rfl rfl hl.1 rfl (lv_room (Nat.le_of_ble_eq_true rfl)) dX11_image_8 ⟨Nat.zero_le _, Nat.zero_le _⟩) hS (fun H locs hP hS => ?_)
  refine lv_aload_n hx hb dX11_image_11 rfl (lv_at hl 0 rfl) ?_
  refine lv_iconst (v := (1 : Int32)) hx hb dX11_image_12 (by decide) ?_
  obtain ⟨g3, eg3, hf⟩ := c_letE hf
  refine c_put hx hb hts i_X11_image_X11 tyX11 tyX11_ok nmX11 hown hK hP hD hS 0 tC0 rfl 8 (by decide) (hts _ (List.mem_of_getElem? (i := 3) rfl)) (fun _ h9 => h9) rfl (ty := .boolean) (by decide +kernel) rfl rfl rfl eg3 dX11_image_13 (fun H locs hP hS => ?_)
  refine lv_aload_n hx hb dX11_image_16 rfl (lv_at hl 0 rfl) ?_
  refine c_get hx hb hts i_X11_image_X11 hown hK hP 0 tC0 rfl 5 (by decide) (hts _ (List.mem_of_getElem? (i := 2) rfl)) (fun _ h9 => h9) rfl (v := .ref (ad 55)) rfl dX11_image_17 ?_
  refine c_get hx hb hts i_X11_image_X7 hown hK hP 55 tC55 rfl 6 (by decide) (hts _ (List.mem_of_getElem? (i := 4) rfl)) (fun _ h9 => h9) rfl (v := .int (g3.1 55 6)) rfl dX11_image_20 ?_
  exact c_iret hx hb hr hlk hP hS rfl (c_inj hf) dX11_image_23
theorem i_X11_undo_X7 : ∀ w ∈ u_ws RX7 TX7 17, w ∈ wsX11_undo := c_inP [60, 61, 62, 63, 64, 65, 66, 67, 68, 69, 70, 71, 72, 73, 74, 75, 76] (by decide +kernel)
theorem i_X11_undo_X11 : ∀ w ∈ u_ws RX11 TX11 19, w ∈ wsX11_undo := c_inP [41, 42, 43, 44, 45, 46, 47, 48, 49, 50, 51, 52, 53, 54, 55, 56, 57, 58, 59] (by decide +kernel)
theorem dX11_undo_0 : decode cX11_undo 0 = .ok (.aload_n 0, 1) := by decide +kernel
theorem dX11_undo_1 : decode cX11_undo 1 = .ok (.getfield 282, 3) := by decide +kernel
theorem dX11_undo_4 : decode cX11_undo 4 = .ok (.ifCond .ne 6, 3) := by decide +kernel
theorem dX11_undo_7 : decode cX11_undo 7 = .ok (.bipush (-3), 2) := by decide +kernel
theorem dX11_undo_9 : decode cX11_undo 9 = .ok (.ireturn, 1) := by decide +kernel
theorem dX11_undo_10 : decode cX11_undo 10 = .ok (.aload_n 0, 1) := by decide +kernel
theorem dX11_undo_11 : decode cX11_undo 11 = .ok (.getfield 88, 3) := by decide +kernel
theorem dX11_undo_14 : decode cX11_undo 14 = .ok (.aload_n 0, 1) := by decide +kernel
theorem dX11_undo_15 : decode cX11_undo 15 = .ok (.getfield 92, 3) := by decide +kernel
theorem dX11_undo_18 : decode cX11_undo 18 = .ok (.invokevirtual 224, 3) := by decide +kernel
theorem dX11_undo_21 : decode cX11_undo 21 = .ok (.aload_n 0, 1) := by decide +kernel
theorem dX11_undo_22 : decode cX11_undo 22 = .ok (.getfield 88, 3) := by decide +kernel
theorem dX11_undo_25 : decode cX11_undo 25 = .ok (.getfield 111, 3) := by decide +kernel
theorem dX11_undo_28 : decode cX11_undo 28 = .ok (.ireturn, 1) := by decide +kernel
set_option maxRecDepth 20000 in
theorem ggX11_undo_X7_copyFrom : GoodIn wsX11_undo wsX7_copyFrom := goodIn_r _ [9, 10, 11, 12, 13, 14, 15, 16, 17, 18, 19, 20, 21, 22, 23, 24, 25, 26, 27, 28, 29, 30, 31, 32, 33, 34, 35, 36, 37, 38, 39, 40, 60, 61, 62, 63, 64, 65, 66, 67, 68, 69, 70, 71, 72, 73, 74, 75, 76, 77, 78, 79, 80] (by decide +kernel) (by decide +kernel)
set_option maxRecDepth 20000 in
theorem gX11_undo_X7_copyFrom : GoodIn wsX11_undo (wsV RX11 224 RX7 yX7_copyFrom wsX7_copyFrom) := goodIn_app (goodIn_of _ (by decide +kernel)) ggX11_undo_X7_copyFrom
def fX11_undo (g : c_G)  : Option (c_G × Int32) :=
  if (g.1 0 8) = 0 then (some (g, (-3 : Int32))) else ((fX7_copyFrom g 78).bind fun g3 => some (g3, (g3.1 55 6)))
set_option maxRecDepth 100000 in
set_option maxHeartbeats 4000000 in
theorem kX11_undo {l : Launch} {D : va_G} {tc : Nat → ClassId} {ad : Nat → Nat} {A : Nat → Prop} {E : (Nat → Nat) × (Nat → Nat) × Nat} (hD : c_D A ad TC)  {g g' : c_G} {r : Int32} (hf : fX11_undo g  = some (g', r)) : c_Mi l yX11_undo wsX11_undo (c_rm 3) D tc ad A E TC ([.ref (ad 0)] : List Value) g g' r := by
  refine c_ofW (bytes := cX11_undo) (maxL := 1) (ret := (some .int)) (by decide) rfl (Nat.le_of_ble_eq_true rfl) ?_
  intro p e s m below meth c ls C hP hS hl
  unfold fX11_undo at hf
  obtain ⟨hx, hb, hr, hml, hts, hown, hlk, hK, hE⟩ := id C
  have hl : lv_has ls 1 [(0, .ref (ad 0))] := hl
  refine lv_aload_n hx hb dX11_undo_0 rfl (lv_at hl 0 rfl) ?_
  refine c_get hx hb hts i_X11_undo_X11 hown hK hP 0 tC0 rfl 8 (by decide) (hts _ (List.mem_of_getElem? (i := 1) rfl)) (fun _ h9 => h9) rfl (v := .int (g.1 0 8)) rfl dX11_undo_1 ?_
  refine lv_if_ne (tgt := 10) hx hb dX11_undo_4 (by decide) (fun c1 => ?_) (fun c1 => ?_)
  · have hf := c_ie c1 hf
    refine lv_aload_n hx hb dX11_undo_10 rfl (lv_at hl 0 rfl) ?_
    refine c_get hx hb hts i_X11_undo_X11 hown hK hP 0 tC0 rfl 5 (by decide) (hts _ (List.mem_of_getElem? (i := 2) rfl)) (fun _ h9 => h9) rfl (v := .ref (ad 55)) rfl dX11_undo_11 ?_
    refine lv_aload_n hx hb dX11_undo_14 rfl (lv_at hl 0 rfl) ?_
    refine c_get hx hb hts i_X11_undo_X11 hown hK hP 0 tC0 rfl 6 (by decide) (hts _ (List.mem_of_getElem? (i := 3) rfl)) (fun _ h9 => h9) rfl (v := .ref (ad 78)) rfl dX11_undo_15 ?_
    obtain ⟨g3, hc2, hf⟩ := c_bd hf
    refine c_gov (va_runV (As := [.ref (ad 78)]) (rest := []) ⟨hx, hb, hml, hown, hts⟩ (kX7_copyFrom hD hc2) (cwV 1 hts gX11_undo_X7_copyFrom rfl rfl rfl (by decide +kernel) ⟨Nat.le_of_ble_eq_true rfl, Nat.le_of_ble_eq_true rfl⟩) (c_preV hK hP hE hS tC55 rfl) rfl rfl hl.1 rfl (lv_room (Nat.le_of_ble_eq_true rfl)) dX11_undo_18 ⟨Nat.zero_le _, Nat.zero_le _⟩) hS (fun H locs hP hS => ?_)
    refine lv_aload_n hx hb dX11_undo_21 rfl (lv_at hl 0 rfl) ?_
    refine c_get hx hb hts i_X11_undo_X11 hown hK hP 0 tC0 rfl 5 (by decide) (hts _ (List.mem_of_getElem? (i := 2) rfl)) (fun _ h9 => h9) rfl (v := .ref (ad 55)) rfl dX11_undo_22 ?_
    refine c_get hx hb hts i_X11_undo_X7 hown hK hP 55 tC55 rfl 6 (by decide) (hts _ (List.mem_of_getElem? (i := 4) rfl)) (fun _ h9 => h9) rfl (v := .int (g3.1 55 6)) rfl dX11_undo_25 ?_
    exact c_iret hx hb hr hlk hP hS rfl (c_inj hf) dX11_undo_28
  · have hf := c_it c1 hf
    refine lv_bipush (v := (-3 : Int32)) hx hb dX11_undo_7 (by decide) ?_
    exact c_iret hx hb hr hlk hP hS rfl (c_inj hf) dX11_undo_9
theorem i_X11_trace_X0 : ∀ w ∈ u_ws RX0 TX0 4, w ∈ wsX11_trace := c_inP [23, 24, 25, 26] (by decide +kernel)
theorem i_X11_trace_X11 : ∀ w ∈ u_ws RX11 TX11 19, w ∈ wsX11_trace := c_inP [4, 5, 6, 7, 8, 9, 10, 11, 12, 13, 14, 15, 16, 17, 18, 19, 20, 21, 22] (by decide +kernel)
theorem dX11_trace_0 : decode cX11_trace 0 = .ok (.iload_n 1, 1) := by decide +kernel
theorem dX11_trace_1 : decode cX11_trace 1 = .ok (.ifCond .lt 26, 3) := by decide +kernel
theorem dX11_trace_4 : decode cX11_trace 4 = .ok (.iload_n 1, 1) := by decide +kernel
theorem dX11_trace_5 : decode cX11_trace 5 = .ok (.aload_n 0, 1) := by decide +kernel
theorem dX11_trace_6 : decode cX11_trace 6 = .ok (.getfield 40, 3) := by decide +kernel
theorem dX11_trace_9 : decode cX11_trace 9 = .ok (.getfield 286, 3) := by decide +kernel
theorem dX11_trace_12 : decode cX11_trace 12 = .ok (.if_icmp .ge 15, 3) := by decide +kernel
theorem dX11_trace_15 : decode cX11_trace 15 = .ok (.iload_n 1, 1) := by decide +kernel
theorem dX11_trace_16 : decode cX11_trace 16 = .ok (.aload_n 0, 1) := by decide +kernel
theorem dX11_trace_17 : decode cX11_trace 17 = .ok (.getfield 40, 3) := by decide +kernel
theorem dX11_trace_20 : decode cX11_trace 20 = .ok (.getfield 304, 3) := by decide +kernel
theorem dX11_trace_23 : decode cX11_trace 23 = .ok (.arraylength, 1) := by decide +kernel
theorem dX11_trace_24 : decode cX11_trace 24 = .ok (.if_icmp .lt 7, 3) := by decide +kernel
theorem dX11_trace_27 : decode cX11_trace 27 = .ok (.iconst (-1), 1) := by decide +kernel
theorem dX11_trace_28 : decode cX11_trace 28 = .ok (.goto 12, 3) := by decide +kernel
theorem dX11_trace_31 : decode cX11_trace 31 = .ok (.aload_n 0, 1) := by decide +kernel
theorem dX11_trace_32 : decode cX11_trace 32 = .ok (.getfield 40, 3) := by decide +kernel
theorem dX11_trace_35 : decode cX11_trace 35 = .ok (.getfield 304, 3) := by decide +kernel
theorem dX11_trace_38 : decode cX11_trace 38 = .ok (.iload_n 1, 1) := by decide +kernel
theorem dX11_trace_39 : decode cX11_trace 39 = .ok (.iaload, 1) := by decide +kernel
theorem dX11_trace_40 : decode cX11_trace 40 = .ok (.ireturn, 1) := by decide +kernel
def fX11_trace (g : c_G) (a1 : Int32) : Option (Int32) :=
  if a1 < 0 then (some (-1 : Int32)) else (if (g.1 8 2) ≤ a1 then (some (-1 : Int32)) else (if a1 < (20 : Int32) then (if c_in (a1) (20) = true then some (g.1 9 (a1).toNatClampNeg) else none) else (some (-1 : Int32))))
set_option maxRecDepth 100000 in
set_option maxHeartbeats 4000000 in
theorem kX11_trace {l : Launch} {D : va_G} {tc : Nat → ClassId} {ad : Nat → Nat} {A : Nat → Prop} {E : (Nat → Nat) × (Nat → Nat) × Nat} (hD : c_D A ad TC) {a1 : Int32} {g : c_G} {r : Int32} (hf : fX11_trace g a1 = some r) : c_Mi l yX11_trace wsX11_trace (c_rm 0) D tc ad A E TC ([.ref (ad 0), .int a1] : List Value) g g r := by
  refine c_ofW (bytes := cX11_trace) (maxL := 2) (ret := (some .int)) (by decide) rfl (Nat.le_of_ble_eq_true rfl) ?_
  intro p e s m below meth c ls C hP hS hl
  unfold fX11_trace at hf
  obtain ⟨hx, hb, hr, hml, hts, hown, hlk, hK, hE⟩ := id C
  have hl : lv_has ls 2 [(0, .ref (ad 0)), (1, .int a1)] := hl
  refine lv_iload_n hx hb dX11_trace_0 rfl (lv_at hl 1 rfl) ?_
  refine lv_if_lt (tgt := 27) hx hb dX11_trace_1 (by decide) (fun c1 => ?_) (fun c1 => ?_)
  · have hf := c_it c1 hf
    refine lv_iconst (v := (-1 : Int32)) hx hb dX11_trace_27 (by decide) ?_
    refine lv_goto (tgt := 40) hx hb dX11_trace_28 (by decide) ?_
    exact c_iret hx hb hr hlk hP hS rfl ⟨rfl, Option.some.inj hf⟩ dX11_trace_40
  · have hf := c_ie c1 hf
    refine lv_iload_n hx hb dX11_trace_4 rfl (lv_at hl 1 rfl) ?_
    refine lv_aload_n hx hb dX11_trace_5 rfl (lv_at hl 0 rfl) ?_
    refine c_get hx hb hts i_X11_trace_X11 hown hK hP 0 tC0 rfl 15 (by decide) (hts _ (List.mem_of_getElem? (i := 1) rfl)) (fun _ h9 => h9) rfl (v := .ref (ad 8)) rfl dX11_trace_6 ?_
    refine c_get hx hb hts i_X11_trace_X0 hown hK hP 8 tC8 rfl 2 (by decide) (hts _ (List.mem_of_getElem? (i := 2) rfl)) (fun _ h9 => h9) rfl (v := .int (g.1 8 2)) rfl dX11_trace_9 ?_
    refine lv_icmp_ge (tgt := 27) hx hb dX11_trace_12 (by decide) (fun c2 => ?_) (fun c2 => ?_)
    · have hf := c_it c2 hf
      refine lv_iconst (v := (-1 : Int32)) hx hb dX11_trace_27 (by decide) ?_
      refine lv_goto (tgt := 40) hx hb dX11_trace_28 (by decide) ?_
      exact c_iret hx hb hr hlk hP hS rfl ⟨rfl, Option.some.inj hf⟩ dX11_trace_40
    · have hf := c_ie c2 hf
      refine lv_iload_n hx hb dX11_trace_15 rfl (lv_at hl 1 rfl) ?_
      refine lv_aload_n hx hb dX11_trace_16 rfl (lv_at hl 0 rfl) ?_
      refine c_get hx hb hts i_X11_trace_X11 hown hK hP 0 tC0 rfl 15 (by decide) (hts _ (List.mem_of_getElem? (i := 1) rfl)) (fun _ h9 => h9) rfl (v := .ref (ad 8)) rfl dX11_trace_17 ?_
      refine c_get hx hb hts i_X11_trace_X0 hown hK hP 8 tC8 rfl 3 (by decide) (hts _ (List.mem_of_getElem? (i := 3) rfl)) (fun _ h9 => h9) rfl (v := .ref (ad 9)) rfl dX11_trace_20 ?_
      refine c_alen hx hb hK hP 9 tC9 dX11_trace_23 ?_
      refine c_topi (y := (20 : Int32)) (by decide) ?_
      refine lv_icmp_lt (tgt := 31) hx hb dX11_trace_24 (by decide) (fun c3 => ?_) (fun c3 => ?_)
      · have hf := c_it c3 hf
        refine lv_aload_n hx hb dX11_trace_31 rfl (lv_at hl 0 rfl) ?_
        refine c_get hx hb hts i_X11_trace_X11 hown hK hP 0 tC0 rfl 15 (by decide) (hts _ (List.mem_of_getElem? (i := 1) rfl)) (fun _ h9 => h9) rfl (v := .ref (ad 8)) rfl dX11_trace_32 ?_
        refine c_get hx hb hts i_X11_trace_X0 hown hK hP 8 tC8 rfl 3 (by decide) (hts _ (List.mem_of_getElem? (i := 3) rfl)) (fun _ h9 => h9) rfl (v := .ref (ad 9)) rfl dX11_trace_35 ?_
        refine lv_iload_n hx hb dX11_trace_38 rfl (lv_at hl 1 rfl) ?_
        obtain ⟨hi4, hf⟩ := c_gd hf
        refine c_iald (j := (a1).toNatClampNeg) hx hb hK hP 9 tC9 rfl (c_inV hi4) dX11_trace_39 ?_
        exact c_iret hx hb hr hlk hP hS rfl ⟨rfl, Option.some.inj hf⟩ dX11_trace_40
      · have hf := c_ie c3 hf
        refine lv_iconst (v := (-1 : Int32)) hx hb dX11_trace_27 (by decide) ?_
        refine lv_goto (tgt := 40) hx hb dX11_trace_28 (by decide) ?_
        exact c_iret hx hb hr hlk hP hS rfl ⟨rfl, Option.some.inj hf⟩ dX11_trace_40
theorem i_X11_taken_X7 : ∀ w ∈ u_ws RX7 TX7 17, w ∈ wsX11_taken := c_inP [29, 30, 31, 32, 33, 34, 35, 36, 37, 38, 39, 40, 41, 42, 43, 44, 45] (by decide +kernel)
theorem i_X11_taken_X11 : ∀ w ∈ u_ws RX11 TX11 19, w ∈ wsX11_taken := c_inP [10, 11, 12, 13, 14, 15, 16, 17, 18, 19, 20, 21, 22, 23, 24, 25, 26, 27, 28] (by decide +kernel)
theorem dX11_taken_0 : decode cX11_taken 0 = .ok (.iload_n 2, 1) := by decide +kernel
theorem dX11_taken_1 : decode cX11_taken 1 = .ok (.ifCond .lt 9, 3) := by decide +kernel
theorem dX11_taken_4 : decode cX11_taken 4 = .ok (.iload_n 2, 1) := by decide +kernel
theorem dX11_taken_5 : decode cX11_taken 5 = .ok (.bipush 7, 2) := by decide +kernel
theorem dX11_taken_7 : decode cX11_taken 7 = .ok (.if_icmp .lt 6, 3) := by decide +kernel
theorem dX11_taken_10 : decode cX11_taken 10 = .ok (.bipush (-2), 2) := by decide +kernel
theorem dX11_taken_12 : decode cX11_taken 12 = .ok (.ireturn, 1) := by decide +kernel
theorem dX11_taken_13 : decode cX11_taken 13 = .ok (.aload_n 0, 1) := by decide +kernel
theorem dX11_taken_14 : decode cX11_taken 14 = .ok (.iload_n 1, 1) := by decide +kernel
theorem dX11_taken_15 : decode cX11_taken 15 = .ok (.invokevirtual 119, 3) := by decide +kernel
theorem dX11_taken_18 : decode cX11_taken 18 = .ok (.ifCond .ne 6, 3) := by decide +kernel
theorem dX11_taken_21 : decode cX11_taken 21 = .ok (.bipush (-11), 2) := by decide +kernel
theorem dX11_taken_23 : decode cX11_taken 23 = .ok (.ireturn, 1) := by decide +kernel
theorem dX11_taken_24 : decode cX11_taken 24 = .ok (.aload_n 0, 1) := by decide +kernel
theorem dX11_taken_25 : decode cX11_taken 25 = .ok (.getfield 88, 3) := by decide +kernel
theorem dX11_taken_28 : decode cX11_taken 28 = .ok (.getfield 122, 3) := by decide +kernel
theorem dX11_taken_31 : decode cX11_taken 31 = .ok (.iload_n 1, 1) := by decide +kernel
theorem dX11_taken_32 : decode cX11_taken 32 = .ok (.iaload, 1) := by decide +kernel
theorem dX11_taken_33 : decode cX11_taken 33 = .ok (.istore_n 3, 1) := by decide +kernel
theorem dX11_taken_34 : decode cX11_taken 34 = .ok (.iload_n 2, 1) := by decide +kernel
theorem dX11_taken_35 : decode cX11_taken 35 = .ok (.ifCond .eq 17, 3) := by decide +kernel
theorem dX11_taken_38 : decode cX11_taken 38 = .ok (.iload_n 2, 1) := by decide +kernel
theorem dX11_taken_39 : decode cX11_taken 39 = .ok (.iload_n 3, 1) := by decide +kernel
theorem dX11_taken_40 : decode cX11_taken 40 = .ok (.if_icmp .eq 12, 3) := by decide +kernel
theorem dX11_taken_43 : decode cX11_taken 43 = .ok (.iload_n 2, 1) := by decide +kernel
theorem dX11_taken_44 : decode cX11_taken 44 = .ok (.getstatic 307, 3) := by decide +kernel
theorem dX11_taken_47 : decode cX11_taken 47 = .ok (.iload_n 3, 1) := by decide +kernel
theorem dX11_taken_48 : decode cX11_taken 48 = .ok (.iaload, 1) := by decide +kernel
theorem dX11_taken_49 : decode cX11_taken 49 = .ok (.if_icmp .ne 7, 3) := by decide +kernel
theorem dX11_taken_52 : decode cX11_taken 52 = .ok (.iload_n 3, 1) := by decide +kernel
theorem dX11_taken_53 : decode cX11_taken 53 = .ok (.goto 5, 3) := by decide +kernel
theorem dX11_taken_56 : decode cX11_taken 56 = .ok (.bipush (-12), 2) := by decide +kernel
theorem dX11_taken_58 : decode cX11_taken 58 = .ok (.ireturn, 1) := by decide +kernel
set_option maxRecDepth 20000 in
theorem ggX11_taken_X11_isChild : GoodIn wsX11_taken wsX11_isChild := goodIn_r _ [8, 1, 9, 10, 11, 12, 13, 14, 15, 16, 17, 18, 19, 20, 21, 22, 23, 24, 25, 26, 27, 28, 29, 30, 31, 32, 33, 34, 35, 36, 37, 38, 39, 40, 41, 42, 43, 44, 45] (by decide +kernel) (by decide +kernel)
set_option maxRecDepth 20000 in
theorem gX11_taken_X11_isChild : GoodIn wsX11_taken (wsV RX11 119 RX11 yX11_isChild wsX11_isChild) := goodIn_app (goodIn_of _ (by decide +kernel)) ggX11_taken_X11_isChild
def fX11_taken (g : c_G) (a1 : Int32) (a2 : Int32) : Option (Int32) :=
  if a2 < 0 then (some (-2 : Int32)) else (if a2 < (7 : Int32) then ((fX11_isChild g a1).bind fun r3 => if r3 = 0 then (some (-11 : Int32)) else (if c_in (a1) (6) = true then if a2 = 0 then (some (g.1 60 (a1).toNatClampNeg)) else (if a2 = (g.1 60 (a1).toNatClampNeg) then (some (g.1 60 (a1).toNatClampNeg)) else (if c_in ((g.1 60 (a1).toNatClampNeg)) (7) = true then if a2 = (c_abv ((g.1 60 (a1).toNatClampNeg)).toNatClampNeg) then (some (g.1 60 (a1).toNatClampNeg)) else (some (-12 : Int32)) else none)) else none)) else (some (-2 : Int32)))
set_option maxRecDepth 100000 in
set_option maxHeartbeats 4000000 in
theorem kX11_taken {l : Launch} {D : va_G} {tc : Nat → ClassId} {ad : Nat → Nat} {A : Nat → Prop} {E : (Nat → Nat) × (Nat → Nat) × Nat} (hD : c_D A ad TC) {a1 : Int32} {a2 : Int32} {g : c_G} {r : Int32} (hf : fX11_taken g a1 a2 = some r) : c_Mi l yX11_taken wsX11_taken (c_rm 1) D tc ad A E TC ([.ref (ad 0), .int a1, .int a2] : List Value) g g r := by
  refine c_ofW (bytes := cX11_taken) (maxL := 4) (ret := (some .int)) (by decide) rfl (Nat.le_of_ble_eq_true rfl) ?_
  intro p e s m below meth c ls C hP hS hl
  unfold fX11_taken at hf
  obtain ⟨hx, hb, hr, hml, hts, hown, hlk, hK, hE⟩ := id C
  have hl : lv_has ls 4 [(0, .ref (ad 0)), (1, .int a1), (2, .int a2)] := hl
  refine lv_iload_n hx hb dX11_taken_0 rfl (lv_at hl 2 rfl) ?_
  refine lv_if_lt (tgt := 10) hx hb dX11_taken_1 (by decide) (fun c1 => ?_) (fun c1 => ?_)
  · have hf := c_it c1 hf
    refine lv_bipush (v := (-2 : Int32)) hx hb dX11_taken_10 (by decide) ?_
    exact c_iret hx hb hr hlk hP hS rfl ⟨rfl, Option.some.inj hf⟩ dX11_taken_12
  · have hf := c_ie c1 hf
    refine lv_iload_n hx hb dX11_taken_4 rfl (lv_at hl 2 rfl) ?_
    refine lv_bipush (v := (7 : Int32)) hx hb dX11_taken_5 (by decide) ?_
    refine lv_icmp_lt (tgt := 13) hx hb dX11_taken_7 (by decide) (fun c2 => ?_) (fun c2 => ?_)
    · have hf := c_it c2 hf
      refine lv_aload_n hx hb dX11_taken_13 rfl (lv_at hl 0 rfl) ?_
      refine lv_iload_n hx hb dX11_taken_14 rfl (lv_at hl 1 rfl) ?_
      obtain ⟨r3, hc4, hf⟩ := c_bd hf
      refine c_goi (va_runV (As := [.int a1]) (rest := []) ⟨hx, hb, hml, hown, hts⟩ (kX11_isChild hD hc4) (cwV 1 hts gX11_taken_X11_isChild rfl rfl rfl (by decide +kernel) ⟨Nat.le_of_ble_eq_true rfl, Nat.le_of_ble_eq_true rfl⟩) (c_preV hK hP hE hS tC0 rfl) rfl rfl hl.1 rfl (lv_room (Nat.le_of_ble_eq_true rfl)) dX11_taken_15 ⟨Nat.zero_le _, Nat.zero_le _⟩) hS (fun H locs hP hS => ?_)
      refine lv_if_ne (tgt := 24) hx hb dX11_taken_18 (by decide) (fun c5 => ?_) (fun c5 => ?_)
      · have hf := c_ie c5 hf
        refine lv_aload_n hx hb dX11_taken_24 rfl (lv_at hl 0 rfl) ?_
        refine c_get hx hb hts i_X11_taken_X11 hown hK hP 0 tC0 rfl 5 (by decide) (hts _ (List.mem_of_getElem? (i := 1) rfl)) (fun _ h9 => h9) rfl (v := .ref (ad 55)) rfl dX11_taken_25 ?_
        refine c_get hx hb hts i_X11_taken_X7 hown hK hP 55 tC55 rfl 7 (by decide) (hts _ (List.mem_of_getElem? (i := 2) rfl)) (fun _ h9 => h9) rfl (v := .ref (ad 60)) rfl dX11_taken_28 ?_
        refine lv_iload_n hx hb dX11_taken_31 rfl (lv_at hl 1 rfl) ?_
        obtain ⟨hi6, hf⟩ := c_gd hf
        refine c_iald (j := (a1).toNatClampNeg) hx hb hK hP 60 tC60 rfl (c_inV hi6) dX11_taken_32 ?_
        refine lv_istore_n (lv' := [(3, .int (g.1 60 (a1).toNatClampNeg)), (0, .ref (ad 0)), (1, .int a1), (2, .int a2)]) hx hb dX11_taken_33 rfl hl (by decide) rfl (fun ls hl => ?_)
        refine lv_iload_n hx hb dX11_taken_34 rfl (lv_at hl 3 rfl) ?_
        refine lv_if_eq (tgt := 52) hx hb dX11_taken_35 (by decide) (fun c7 => ?_) (fun c7 => ?_)
        · have hf := c_it c7 hf
          refine lv_iload_n hx hb dX11_taken_52 rfl (lv_at hl 0 rfl) ?_
          refine lv_goto (tgt := 58) hx hb dX11_taken_53 (by decide) ?_
          exact c_iret hx hb hr hlk hP hS rfl ⟨rfl, Option.some.inj hf⟩ dX11_taken_58
        · have hf := c_ie c7 hf
          refine lv_iload_n hx hb dX11_taken_38 rfl (lv_at hl 3 rfl) ?_
          refine lv_iload_n hx hb dX11_taken_39 rfl (lv_at hl 0 rfl) ?_
          refine lv_icmp_eq (tgt := 52) hx hb dX11_taken_40 (by decide) (fun c8 => ?_) (fun c8 => ?_)
          · have hf := c_it c8 hf
            refine lv_iload_n hx hb dX11_taken_52 rfl (lv_at hl 0 rfl) ?_
            refine lv_goto (tgt := 58) hx hb dX11_taken_53 (by decide) ?_
            exact c_iret hx hb hr hlk hP hS rfl ⟨rfl, Option.some.inj hf⟩ dX11_taken_58
          · have hf := c_ie c8 hf
            refine lv_iload_n hx hb dX11_taken_43 rfl (lv_at hl 3 rfl) ?_
            refine va_gets hx hb hE.1.2.1 hS hown (hts _ (List.mem_of_getElem? (i := 3) rfl)) (fun _ h9 => h9) dX11_taken_44 ?_
            refine lv_iload_n hx hb dX11_taken_47 rfl (lv_at hl 0 rfl) ?_
            obtain ⟨hi9, hf⟩ := c_gd hf
            refine va_ti hx hb hE.1.2.2.1 hS (c_inV hi9) (v := .int (c_abv ((g.1 60 (a1).toNatClampNeg)).toNatClampNeg)) rfl dX11_taken_48 ?_
            refine lv_icmp_ne (tgt := 56) hx hb dX11_taken_49 (by decide) (fun c10 => ?_) (fun c10 => ?_)
            · have hf := c_ie c10 hf
              refine lv_bipush (v := (-12 : Int32)) hx hb dX11_taken_56 (by decide) ?_
              exact c_iret hx hb hr hlk hP hS rfl ⟨rfl, Option.some.inj hf⟩ dX11_taken_58
            · have hf := c_it c10 hf
              refine lv_iload_n hx hb dX11_taken_52 rfl (lv_at hl 0 rfl) ?_
              refine lv_goto (tgt := 58) hx hb dX11_taken_53 (by decide) ?_
              exact c_iret hx hb hr hlk hP hS rfl ⟨rfl, Option.some.inj hf⟩ dX11_taken_58
      · have hf := c_it c5 hf
        refine lv_bipush (v := (-11 : Int32)) hx hb dX11_taken_21 (by decide) ?_
        exact c_iret hx hb hr hlk hP hS rfl ⟨rfl, Option.some.inj hf⟩ dX11_taken_23
    · have hf := c_ie c2 hf
      refine lv_bipush (v := (-2 : Int32)) hx hb dX11_taken_10 (by decide) ?_
      exact c_iret hx hb hr hlk hP hS rfl ⟨rfl, Option.some.inj hf⟩ dX11_taken_12
theorem i_X11_count_X0 : ∀ w ∈ u_ws RX0 TX0 4, w ∈ wsX11_count := c_inP [51, 52, 53, 54] (by decide +kernel)
theorem i_X11_count_X5 : ∀ w ∈ u_ws RX5 TX5 4, w ∈ wsX11_count := c_inP [47, 48, 49, 50] (by decide +kernel)
theorem i_X11_count_X7 : ∀ w ∈ u_ws RX7 TX7 17, w ∈ wsX11_count := c_inP [30, 31, 32, 33, 34, 35, 36, 37, 38, 39, 40, 41, 42, 43, 44, 45, 46] (by decide +kernel)
theorem i_X11_count_X11 : ∀ w ∈ u_ws RX11 TX11 19, w ∈ wsX11_count := c_inP [11, 12, 13, 14, 15, 16, 17, 18, 19, 20, 21, 22, 23, 24, 25, 26, 27, 28, 29] (by decide +kernel)
theorem dX11_count_0 : decode cX11_count 0 = .ok (.iload_n 1, 1) := by decide +kernel
theorem dX11_count_1 : decode cX11_count 1 = .ok (.tableswitch 102 0 6 #[43, 51, 56, 67, 78, 89, 94], 43) := by decide +kernel
theorem dX11_count_44 : decode cX11_count 44 = .ok (.aload_n 0, 1) := by decide +kernel
theorem dX11_count_45 : decode cX11_count 45 = .ok (.getfield 88, 3) := by decide +kernel
theorem dX11_count_48 : decode cX11_count 48 = .ok (.getfield 111, 3) := by decide +kernel
theorem dX11_count_51 : decode cX11_count 51 = .ok (.ireturn, 1) := by decide +kernel
theorem dX11_count_52 : decode cX11_count 52 = .ok (.aload_n 0, 1) := by decide +kernel
theorem dX11_count_53 : decode cX11_count 53 = .ok (.getfield 188, 3) := by decide +kernel
theorem dX11_count_56 : decode cX11_count 56 = .ok (.ireturn, 1) := by decide +kernel
theorem dX11_count_57 : decode cX11_count 57 = .ok (.aload_n 0, 1) := by decide +kernel
theorem dX11_count_58 : decode cX11_count 58 = .ok (.getfield 88, 3) := by decide +kernel
theorem dX11_count_61 : decode cX11_count 61 = .ok (.getfield 233, 3) := by decide +kernel
theorem dX11_count_64 : decode cX11_count 64 = .ok (.getfield 267, 3) := by decide +kernel
theorem dX11_count_67 : decode cX11_count 67 = .ok (.ireturn, 1) := by decide +kernel
theorem dX11_count_68 : decode cX11_count 68 = .ok (.aload_n 0, 1) := by decide +kernel
theorem dX11_count_69 : decode cX11_count 69 = .ok (.getfield 88, 3) := by decide +kernel
theorem dX11_count_72 : decode cX11_count 72 = .ok (.getfield 264, 3) := by decide +kernel
theorem dX11_count_75 : decode cX11_count 75 = .ok (.getfield 267, 3) := by decide +kernel
theorem dX11_count_78 : decode cX11_count 78 = .ok (.ireturn, 1) := by decide +kernel
theorem dX11_count_79 : decode cX11_count 79 = .ok (.aload_n 0, 1) := by decide +kernel
theorem dX11_count_80 : decode cX11_count 80 = .ok (.getfield 88, 3) := by decide +kernel
theorem dX11_count_83 : decode cX11_count 83 = .ok (.getfield 276, 3) := by decide +kernel
theorem dX11_count_86 : decode cX11_count 86 = .ok (.getfield 267, 3) := by decide +kernel
theorem dX11_count_89 : decode cX11_count 89 = .ok (.ireturn, 1) := by decide +kernel
theorem dX11_count_90 : decode cX11_count 90 = .ok (.aload_n 0, 1) := by decide +kernel
theorem dX11_count_91 : decode cX11_count 91 = .ok (.getfield 185, 3) := by decide +kernel
theorem dX11_count_94 : decode cX11_count 94 = .ok (.ireturn, 1) := by decide +kernel
theorem dX11_count_95 : decode cX11_count 95 = .ok (.aload_n 0, 1) := by decide +kernel
theorem dX11_count_96 : decode cX11_count 96 = .ok (.getfield 40, 3) := by decide +kernel
theorem dX11_count_99 : decode cX11_count 99 = .ok (.getfield 286, 3) := by decide +kernel
theorem dX11_count_102 : decode cX11_count 102 = .ok (.ireturn, 1) := by decide +kernel
theorem dX11_count_103 : decode cX11_count 103 = .ok (.bipush (-2), 2) := by decide +kernel
theorem dX11_count_105 : decode cX11_count 105 = .ok (.ireturn, 1) := by decide +kernel
def fX11_count (g : c_G) (a1 : Int32) : Option (Int32) :=
  if a1 = (0 : Int32) then (some (g.1 55 6)) else if a1 = (1 : Int32) then (some (g.1 0 4)) else if a1 = (2 : Int32) then (some (g.1 66 3)) else if a1 = (3 : Int32) then (some (g.1 70 3)) else if a1 = (4 : Int32) then (some (g.1 74 3)) else if a1 = (5 : Int32) then (some (g.1 0 2)) else if a1 = (6 : Int32) then (some (g.1 8 2)) else (some (-2 : Int32))
set_option maxRecDepth 100000 in
set_option maxHeartbeats 4000000 in
theorem kX11_count {l : Launch} {D : va_G} {tc : Nat → ClassId} {ad : Nat → Nat} {A : Nat → Prop} {E : (Nat → Nat) × (Nat → Nat) × Nat} (hD : c_D A ad TC) {a1 : Int32} {g : c_G} {r : Int32} (hf : fX11_count g a1 = some r) : c_Mi l yX11_count wsX11_count (c_rm 0) D tc ad A E TC ([.ref (ad 0), .int a1] : List Value) g g r := by
  refine c_ofW (bytes := cX11_count) (maxL := 2) (ret := (some .int)) (by decide) rfl (Nat.le_of_ble_eq_true rfl) ?_
  intro p e s m below meth c ls C hP hS hl
  unfold fX11_count at hf
  obtain ⟨hx, hb, hr, hml, hts, hown, hlk, hK, hE⟩ := id C
  have hl : lv_has ls 2 [(0, .ref (ad 0)), (1, .int a1)] := hl
  refine lv_iload_n hx hb dX11_count_0 rfl (lv_at hl 1 rfl) ?_
  by_cases c1 : a1 = (0 : Int32)
  · have hf := c_it c1 hf
    refine lv_tableIn (off := 43) (tgt := 44) hx hb dX11_count_1 (by rw [c1]; decide) (by rw [c1]; decide) (by rw [c1]; rfl) (by decide) ?_
    refine lv_aload_n hx hb dX11_count_44 rfl (lv_at hl 0 rfl) ?_
    refine c_get hx hb hts i_X11_count_X11 hown hK hP 0 tC0 rfl 5 (by decide) (hts _ (List.mem_of_getElem? (i := 1) rfl)) (fun _ h9 => h9) rfl (v := .ref (ad 55)) rfl dX11_count_45 ?_
    refine c_get hx hb hts i_X11_count_X7 hown hK hP 55 tC55 rfl 6 (by decide) (hts _ (List.mem_of_getElem? (i := 2) rfl)) (fun _ h9 => h9) rfl (v := .int (g.1 55 6)) rfl dX11_count_48 ?_
    exact c_iret hx hb hr hlk hP hS rfl ⟨rfl, Option.some.inj hf⟩ dX11_count_51
  have hf := c_ie c1 hf
  by_cases c2 : a1 = (1 : Int32)
  · have hf := c_it c2 hf
    refine lv_tableIn (off := 51) (tgt := 52) hx hb dX11_count_1 (by rw [c2]; decide) (by rw [c2]; decide) (by rw [c2]; rfl) (by decide) ?_
    refine lv_aload_n hx hb dX11_count_52 rfl (lv_at hl 0 rfl) ?_
    refine c_get hx hb hts i_X11_count_X11 hown hK hP 0 tC0 rfl 4 (by decide) (hts _ (List.mem_of_getElem? (i := 3) rfl)) (fun _ h9 => h9) rfl (v := .int (g.1 0 4)) rfl dX11_count_53 ?_
    exact c_iret hx hb hr hlk hP hS rfl ⟨rfl, Option.some.inj hf⟩ dX11_count_56
  have hf := c_ie c2 hf
  by_cases c3 : a1 = (2 : Int32)
  · have hf := c_it c3 hf
    refine lv_tableIn (off := 56) (tgt := 57) hx hb dX11_count_1 (by rw [c3]; decide) (by rw [c3]; decide) (by rw [c3]; rfl) (by decide) ?_
    refine lv_aload_n hx hb dX11_count_57 rfl (lv_at hl 0 rfl) ?_
    refine c_get hx hb hts i_X11_count_X11 hown hK hP 0 tC0 rfl 5 (by decide) (hts _ (List.mem_of_getElem? (i := 1) rfl)) (fun _ h9 => h9) rfl (v := .ref (ad 55)) rfl dX11_count_58 ?_
    refine c_get hx hb hts i_X11_count_X7 hown hK hP 55 tC55 rfl 13 (by decide) (hts _ (List.mem_of_getElem? (i := 4) rfl)) (fun _ h9 => h9) rfl (v := .ref (ad 66)) rfl dX11_count_61 ?_
    refine c_get hx hb hts i_X11_count_X5 hown hK hP 66 tC66 rfl 3 (by decide) (hts _ (List.mem_of_getElem? (i := 5) rfl)) (fun _ h9 => h9) rfl (v := .int (g.1 66 3)) rfl dX11_count_64 ?_
    exact c_iret hx hb hr hlk hP hS rfl ⟨rfl, Option.some.inj hf⟩ dX11_count_67
  have hf := c_ie c3 hf
  by_cases c4 : a1 = (3 : Int32)
  · have hf := c_it c4 hf
    refine lv_tableIn (off := 67) (tgt := 68) hx hb dX11_count_1 (by rw [c4]; decide) (by rw [c4]; decide) (by rw [c4]; rfl) (by decide) ?_
    refine lv_aload_n hx hb dX11_count_68 rfl (lv_at hl 0 rfl) ?_
    refine c_get hx hb hts i_X11_count_X11 hown hK hP 0 tC0 rfl 5 (by decide) (hts _ (List.mem_of_getElem? (i := 1) rfl)) (fun _ h9 => h9) rfl (v := .ref (ad 55)) rfl dX11_count_69 ?_
    refine c_get hx hb hts i_X11_count_X7 hown hK hP 55 tC55 rfl 14 (by decide) (hts _ (List.mem_of_getElem? (i := 6) rfl)) (fun _ h9 => h9) rfl (v := .ref (ad 70)) rfl dX11_count_72 ?_
    refine c_get hx hb hts i_X11_count_X5 hown hK hP 70 tC70 rfl 3 (by decide) (hts _ (List.mem_of_getElem? (i := 5) rfl)) (fun _ h9 => h9) rfl (v := .int (g.1 70 3)) rfl dX11_count_75 ?_
    exact c_iret hx hb hr hlk hP hS rfl ⟨rfl, Option.some.inj hf⟩ dX11_count_78
  have hf := c_ie c4 hf
  by_cases c5 : a1 = (4 : Int32)
  · have hf := c_it c5 hf
    refine lv_tableIn (off := 78) (tgt := 79) hx hb dX11_count_1 (by rw [c5]; decide) (by rw [c5]; decide) (by rw [c5]; rfl) (by decide) ?_
    refine lv_aload_n hx hb dX11_count_79 rfl (lv_at hl 0 rfl) ?_
    refine c_get hx hb hts i_X11_count_X11 hown hK hP 0 tC0 rfl 5 (by decide) (hts _ (List.mem_of_getElem? (i := 1) rfl)) (fun _ h9 => h9) rfl (v := .ref (ad 55)) rfl dX11_count_80 ?_
    refine c_get hx hb hts i_X11_count_X7 hown hK hP 55 tC55 rfl 15 (by decide) (hts _ (List.mem_of_getElem? (i := 7) rfl)) (fun _ h9 => h9) rfl (v := .ref (ad 74)) rfl dX11_count_83 ?_
    refine c_get hx hb hts i_X11_count_X5 hown hK hP 74 tC74 rfl 3 (by decide) (hts _ (List.mem_of_getElem? (i := 5) rfl)) (fun _ h9 => h9) rfl (v := .int (g.1 74 3)) rfl dX11_count_86 ?_
    exact c_iret hx hb hr hlk hP hS rfl ⟨rfl, Option.some.inj hf⟩ dX11_count_89
  have hf := c_ie c5 hf
  by_cases c6 : a1 = (5 : Int32)
  · have hf := c_it c6 hf
    refine lv_tableIn (off := 89) (tgt := 90) hx hb dX11_count_1 (by rw [c6]; decide) (by rw [c6]; decide) (by rw [c6]; rfl) (by decide) ?_
    refine lv_aload_n hx hb dX11_count_90 rfl (lv_at hl 0 rfl) ?_
    refine c_get hx hb hts i_X11_count_X11 hown hK hP 0 tC0 rfl 2 (by decide) (hts _ (List.mem_of_getElem? (i := 8) rfl)) (fun _ h9 => h9) rfl (v := .int (g.1 0 2)) rfl dX11_count_91 ?_
    exact c_iret hx hb hr hlk hP hS rfl ⟨rfl, Option.some.inj hf⟩ dX11_count_94
  have hf := c_ie c6 hf
  by_cases c7 : a1 = (6 : Int32)
  · have hf := c_it c7 hf
    refine lv_tableIn (off := 94) (tgt := 95) hx hb dX11_count_1 (by rw [c7]; decide) (by rw [c7]; decide) (by rw [c7]; rfl) (by decide) ?_
    refine lv_aload_n hx hb dX11_count_95 rfl (lv_at hl 0 rfl) ?_
    refine c_get hx hb hts i_X11_count_X11 hown hK hP 0 tC0 rfl 15 (by decide) (hts _ (List.mem_of_getElem? (i := 9) rfl)) (fun _ h9 => h9) rfl (v := .ref (ad 8)) rfl dX11_count_96 ?_
    refine c_get hx hb hts i_X11_count_X0 hown hK hP 8 tC8 rfl 2 (by decide) (hts _ (List.mem_of_getElem? (i := 10) rfl)) (fun _ h9 => h9) rfl (v := .int (g.1 8 2)) rfl dX11_count_99 ?_
    exact c_iret hx hb hr hlk hP hS rfl ⟨rfl, Option.some.inj hf⟩ dX11_count_102
  have hf := c_ie c7 hf
  have h9 := c_sw (x := a1) (lo := 0) (n := 6) (by decide) (fun k hj hk => by rcases (show k = 0 ∨ k = 1 ∨ k = 2 ∨ k = 3 ∨ k = 4 ∨ k = 5 ∨ k = 6 by omega) with rfl | rfl | rfl | rfl | rfl | rfl | rfl <;> assumption)
  refine lv_tableOut (tgt := 103) hx hb dX11_count_1 (by omega) (by decide) ?_
  refine lv_bipush (v := (-2 : Int32)) hx hb dX11_count_103 (by decide) ?_
  exact c_iret hx hb hr hlk hP hS rfl ⟨rfl, Option.some.inj hf⟩ dX11_count_105
theorem i_X11_tape_X11 : ∀ w ∈ u_ws RX11 TX11 19, w ∈ wsX11_tape := c_inP [12, 13, 14, 15, 16, 17, 18, 19, 20, 21, 22, 23, 24, 25, 26, 27, 28, 29, 30] (by decide +kernel)
theorem dX11_tape_0 : decode cX11_tape 0 = .ok (.iload_n 1, 1) := by decide +kernel
theorem dX11_tape_1 : decode cX11_tape 1 = .ok (.invokestatic 279, 3) := by decide +kernel
theorem dX11_tape_4 : decode cX11_tape 4 = .ok (.ifCond .ne 5, 3) := by decide +kernel
theorem dX11_tape_7 : decode cX11_tape 7 = .ok (.iconst (-1), 1) := by decide +kernel
theorem dX11_tape_8 : decode cX11_tape 8 = .ok (.ireturn, 1) := by decide +kernel
theorem dX11_tape_9 : decode cX11_tape 9 = .ok (.iload_n 2, 1) := by decide +kernel
theorem dX11_tape_10 : decode cX11_tape 10 = .ok (.iconst (-1), 1) := by decide +kernel
theorem dX11_tape_11 : decode cX11_tape 11 = .ok (.if_icmp .lt 8, 3) := by decide +kernel
theorem dX11_tape_14 : decode cX11_tape 14 = .ok (.iload_n 2, 1) := by decide +kernel
theorem dX11_tape_15 : decode cX11_tape 15 = .ok (.iconst 5, 1) := by decide +kernel
theorem dX11_tape_16 : decode cX11_tape 16 = .ok (.if_icmp .lt 6, 3) := by decide +kernel
theorem dX11_tape_19 : decode cX11_tape 19 = .ok (.bipush (-2), 2) := by decide +kernel
theorem dX11_tape_21 : decode cX11_tape 21 = .ok (.ireturn, 1) := by decide +kernel
theorem dX11_tape_22 : decode cX11_tape 22 = .ok (.iload_n 2, 1) := by decide +kernel
theorem dX11_tape_23 : decode cX11_tape 23 = .ok (.iconst (-1), 1) := by decide +kernel
theorem dX11_tape_24 : decode cX11_tape 24 = .ok (.if_icmp .ne 13, 3) := by decide +kernel
theorem dX11_tape_27 : decode cX11_tape 27 = .ok (.aload_n 0, 1) := by decide +kernel
theorem dX11_tape_28 : decode cX11_tape 28 = .ok (.getfield 44, 3) := by decide +kernel
theorem dX11_tape_31 : decode cX11_tape 31 = .ok (.iload_n 1, 1) := by decide +kernel
theorem dX11_tape_32 : decode cX11_tape 32 = .ok (.bipush (-5), 2) := by decide +kernel
theorem dX11_tape_34 : decode cX11_tape 34 = .ok (.iastore, 1) := by decide +kernel
theorem dX11_tape_35 : decode cX11_tape 35 = .ok (.iconst 1, 1) := by decide +kernel
theorem dX11_tape_36 : decode cX11_tape 36 = .ok (.ireturn, 1) := by decide +kernel
theorem dX11_tape_37 : decode cX11_tape 37 = .ok (.iload_n 3, 1) := by decide +kernel
theorem dX11_tape_38 : decode cX11_tape 38 = .ok (.bipush 60, 2) := by decide +kernel
theorem dX11_tape_40 : decode cX11_tape 40 = .ok (.if_icmp .le 6, 3) := by decide +kernel
theorem dX11_tape_43 : decode cX11_tape 43 = .ok (.bipush (-2), 2) := by decide +kernel
theorem dX11_tape_45 : decode cX11_tape 45 = .ok (.ireturn, 1) := by decide +kernel
theorem dX11_tape_46 : decode cX11_tape 46 = .ok (.iload_n 3, 1) := by decide +kernel
theorem dX11_tape_47 : decode cX11_tape 47 = .ok (.ifCond .ge 6, 3) := by decide +kernel
theorem dX11_tape_50 : decode cX11_tape 50 = .ok (.bipush (-14), 2) := by decide +kernel
theorem dX11_tape_52 : decode cX11_tape 52 = .ok (.ireturn, 1) := by decide +kernel
theorem dX11_tape_53 : decode cX11_tape 53 = .ok (.aload_n 0, 1) := by decide +kernel
theorem dX11_tape_54 : decode cX11_tape 54 = .ok (.getfield 44, 3) := by decide +kernel
theorem dX11_tape_57 : decode cX11_tape 57 = .ok (.iload_n 1, 1) := by decide +kernel
theorem dX11_tape_58 : decode cX11_tape 58 = .ok (.iload_n 2, 1) := by decide +kernel
theorem dX11_tape_59 : decode cX11_tape 59 = .ok (.iastore, 1) := by decide +kernel
theorem dX11_tape_60 : decode cX11_tape 60 = .ok (.aload_n 0, 1) := by decide +kernel
theorem dX11_tape_61 : decode cX11_tape 61 = .ok (.getfield 47, 3) := by decide +kernel
theorem dX11_tape_64 : decode cX11_tape 64 = .ok (.iload_n 1, 1) := by decide +kernel
theorem dX11_tape_65 : decode cX11_tape 65 = .ok (.iload_n 3, 1) := by decide +kernel
theorem dX11_tape_66 : decode cX11_tape 66 = .ok (.iastore, 1) := by decide +kernel
theorem dX11_tape_67 : decode cX11_tape 67 = .ok (.aload_n 0, 1) := by decide +kernel
theorem dX11_tape_68 : decode cX11_tape 68 = .ok (.getfield 52, 3) := by decide +kernel
theorem dX11_tape_71 : decode cX11_tape 71 = .ok (.iload_n 1, 1) := by decide +kernel
theorem dX11_tape_72 : decode cX11_tape 72 = .ok (.aaload, 1) := by decide +kernel
theorem dX11_tape_73 : decode cX11_tape 73 = .ok (.lconst 0, 1) := by decide +kernel
theorem dX11_tape_74 : decode cX11_tape 74 = .ok (.invokestatic 310, 3) := by decide +kernel
theorem dX11_tape_77 : decode cX11_tape 77 = .ok (.iconst 1, 1) := by decide +kernel
theorem dX11_tape_78 : decode cX11_tape 78 = .ok (.ireturn, 1) := by decide +kernel
set_option maxRecDepth 20000 in
theorem ggX11_tape_X11_isTape : GoodIn wsX11_tape wsX11_isTape := goodIn_r _ [7] (by decide +kernel) (by decide +kernel)
set_option maxRecDepth 20000 in
theorem gX11_tape_X11_isTape : GoodIn wsX11_tape (va_wsS RX11 279 yX11_isTape wsX11_isTape) := goodIn_app (goodIn_of _ (by decide +kernel)) ggX11_tape_X11_isTape
set_option maxRecDepth 20000 in
theorem ggX11_tape_J7_fill_d0a16 : GoodIn wsX11_tape wsJ7_fill_d0a16 := goodIn_r _ [11] (by decide +kernel) (by decide +kernel)
set_option maxRecDepth 20000 in
theorem gX11_tape_J7_fill_d0a16 : GoodIn wsX11_tape (va_wsS RX11 310 yJ7_fill_d0a16 wsJ7_fill_d0a16) := goodIn_app (goodIn_of _ (by decide +kernel)) ggX11_tape_J7_fill_d0a16
def fX11_tape (g : c_G) (a1 : Int32) (a2 : Int32) (a3 : Int32) : Option (c_G × Int32) :=
  if (fX11_isTape a1) = 0 then (some (g, (-1 : Int32))) else (if a2 < (-1 : Int32) then (some (g, (-2 : Int32))) else (if a2 < (5 : Int32) then (if a2 = (-1 : Int32) then (if c_in (a1) (6) = true then c_let (c_si g 10 (a1).toNatClampNeg (-5 : Int32)) fun g13 => some (g13, (1 : Int32)) else none) else (if a3 ≤ (60 : Int32) then (if 0 ≤ a3 then (if c_in (a1) (6) = true then c_let (c_si g 10 (a1).toNatClampNeg a2) fun g8 => c_let (c_si g8 11 (a1).toNatClampNeg a3) fun g9 => (fJ7_fill_d0a16 TC g9 ((13 + (a1).toNatClampNeg)) ((0 : Int64))).bind fun g11 => some (g11, (1 : Int32)) else none) else (some (g, (-14 : Int32)))) else (some (g, (-2 : Int32))))) else (some (g, (-2 : Int32)))))
set_option maxRecDepth 100000 in
set_option maxHeartbeats 4000000 in
theorem kX11_tape {l : Launch} {D : va_G} {tc : Nat → ClassId} {ad : Nat → Nat} {A : Nat → Prop} {E : (Nat → Nat) × (Nat → Nat) × Nat} (hD : c_D A ad TC) {a1 : Int32} {a2 : Int32} {a3 : Int32} {g g' : c_G} {r : Int32} (hf : fX11_tape g a1 a2 a3 = some (g', r)) : c_Mi l yX11_tape wsX11_tape (c_rm 1) D tc ad A E TC ([.ref (ad 0), .int a1, .int a2, .int a3] : List Value) g g' r := by
  refine c_ofW (bytes := cX11_tape) (maxL := 4) (ret := (some .int)) (by decide) rfl (Nat.le_of_ble_eq_true rfl) ?_
  intro p e s m below meth c ls C hP hS hl
  unfold fX11_tape at hf
  obtain ⟨hx, hb, hr, hml, hts, hown, hlk, hK, hE⟩ := id C
  have hl : lv_has ls 4 [(0, .ref (ad 0)), (1, .int a1), (2, .int a2), (3, .int a3)] := hl
  refine lv_iload_n hx hb dX11_tape_0 rfl (lv_at hl 1 rfl) ?_
  refine c_goi (va_runS (As := [.int a1]) (rest := []) ⟨hx, hb, hml, hown, hts⟩ (kX11_isTape (T := TC) (g := g) rfl) (va_cwS 1 hts gX11_tape_X11_isTape rfl rfl rfl (by decide +kernel) ⟨Nat.le_of_ble_eq_true rfl, Nat.le_of_ble_eq_true rfl⟩) (c_preS hK hP hE hS) rfl rfl hl.1 rfl (lv_room (Nat.le_of_ble_eq_true rfl)) dX11_tape_1 ⟨Nat.zero_le _, Nat.zero_le _⟩) hS (fun H locs hP hS => ?_)
  refine lv_if_ne (tgt := 9) hx hb dX11_tape_4 (by decide) (fun c1 => ?_) (fun c1 => ?_)
  · have hf := c_ie c1 hf
    refine lv_iload_n hx hb dX11_tape_9 rfl (lv_at hl 2 rfl) ?_
    refine lv_iconst (v := (-1 : Int32)) hx hb dX11_tape_10 (by decide) ?_
    refine lv_icmp_lt (tgt := 19) hx hb dX11_tape_11 (by decide) (fun c2 => ?_) (fun c2 => ?_)
    · have hf := c_it c2 hf
      refine lv_bipush (v := (-2 : Int32)) hx hb dX11_tape_19 (by decide) ?_
      exact c_iret hx hb hr hlk hP hS rfl (c_inj hf) dX11_tape_21
    · have hf := c_ie c2 hf
      refine lv_iload_n hx hb dX11_tape_14 rfl (lv_at hl 2 rfl) ?_
      refine lv_iconst (v := (5 : Int32)) hx hb dX11_tape_15 (by decide) ?_
      refine lv_icmp_lt (tgt := 22) hx hb dX11_tape_16 (by decide) (fun c3 => ?_) (fun c3 => ?_)
      · have hf := c_it c3 hf
        refine lv_iload_n hx hb dX11_tape_22 rfl (lv_at hl 2 rfl) ?_
        refine lv_iconst (v := (-1 : Int32)) hx hb dX11_tape_23 (by decide) ?_
        refine lv_icmp_ne (tgt := 37) hx hb dX11_tape_24 (by decide) (fun c4 => ?_) (fun c4 => ?_)
        · have hf := c_ie c4 hf
          refine lv_iload_n hx hb dX11_tape_37 rfl (lv_at hl 3 rfl) ?_
          refine lv_bipush (v := (60 : Int32)) hx hb dX11_tape_38 (by decide) ?_
          refine lv_icmp_le (tgt := 46) hx hb dX11_tape_40 (by decide) (fun c5 => ?_) (fun c5 => ?_)
          · have hf := c_it c5 hf
            refine lv_iload_n hx hb dX11_tape_46 rfl (lv_at hl 3 rfl) ?_
            refine lv_if_ge (tgt := 53) hx hb dX11_tape_47 (by decide) (fun c6 => ?_) (fun c6 => ?_)
            · have hf := c_it c6 hf
              refine lv_aload_n hx hb dX11_tape_53 rfl (lv_at hl 0 rfl) ?_
              refine c_get hx hb hts i_X11_tape_X11 hown hK hP 0 tC0 rfl 16 (by decide) (hts _ (List.mem_of_getElem? (i := 1) rfl)) (fun _ h9 => h9) rfl (v := .ref (ad 10)) rfl dX11_tape_54 ?_
              refine lv_iload_n hx hb dX11_tape_57 rfl (lv_at hl 1 rfl) ?_
              refine lv_iload_n hx hb dX11_tape_58 rfl (lv_at hl 2 rfl) ?_
              obtain ⟨hi7, hf⟩ := c_gd hf
              obtain ⟨g8, eg8, hf⟩ := c_letE hf
              refine c_iast (j := (a1).toNatClampNeg) hx hb hK hP hD hS 10 tC10 rfl (c_inV hi7) eg8 dX11_tape_59 (fun H locs hP hS => ?_)
              refine lv_aload_n hx hb dX11_tape_60 rfl (lv_at hl 0 rfl) ?_
              refine c_get hx hb hts i_X11_tape_X11 hown hK hP 0 tC0 rfl 17 (by decide) (hts _ (List.mem_of_getElem? (i := 2) rfl)) (fun _ h9 => h9) rfl (v := .ref (ad 11)) rfl dX11_tape_61 ?_
              refine lv_iload_n hx hb dX11_tape_64 rfl (lv_at hl 1 rfl) ?_
              refine lv_iload_n hx hb dX11_tape_65 rfl (lv_at hl 3 rfl) ?_
              obtain ⟨g9, eg9, hf⟩ := c_letE hf
              refine c_iast (j := (a1).toNatClampNeg) hx hb hK hP hD hS 11 tC11 rfl (c_inV hi7) eg9 dX11_tape_66 (fun H locs hP hS => ?_)
              refine lv_aload_n hx hb dX11_tape_67 rfl (lv_at hl 0 rfl) ?_
              refine c_get hx hb hts i_X11_tape_X11 hown hK hP 0 tC0 rfl 18 (by decide) (hts _ (List.mem_of_getElem? (i := 3) rfl)) (fun _ h9 => h9) rfl (v := .ref (ad 12)) rfl dX11_tape_68 ?_
              refine lv_iload_n hx hb dX11_tape_71 rfl (lv_at hl 1 rfl) ?_
              refine c_aald7 hx hb hK hP 12 tC12 (c_inV hi7) (y := (13 + (a1).toNatClampNeg)) (c_tA (c_iN hi7)) dX11_tape_72 ?_
              refine lv_lconst (v := (0 : Int64)) hx hb dX11_tape_73 (by decide) ?_
              obtain ⟨g11, hc10, hf⟩ := c_bd hf
              refine c_gov (va_runS (As := [.ref (ad (13 + (a1).toNatClampNeg)), .long (0 : Int64)]) (rest := []) ⟨hx, hb, hml, hown, hts⟩ (kJ7_fill_d0a16 hD hc10) (va_cwS 2 hts gX11_tape_J7_fill_d0a16 rfl rfl rfl (by decide +kernel) ⟨Nat.le_of_ble_eq_true rfl, Nat.le_of_ble_eq_true rfl⟩) (c_preS hK hP hE hS) rfl rfl hl.1 rfl (lv_room (Nat.le_of_ble_eq_true rfl)) dX11_tape_74 ⟨Nat.zero_le _, Nat.zero_le _⟩) hS (fun H locs hP hS => ?_)
              refine lv_iconst (v := (1 : Int32)) hx hb dX11_tape_77 (by decide) ?_
              exact c_iret hx hb hr hlk hP hS rfl (c_inj hf) dX11_tape_78
            · have hf := c_ie c6 hf
              refine lv_bipush (v := (-14 : Int32)) hx hb dX11_tape_50 (by decide) ?_
              exact c_iret hx hb hr hlk hP hS rfl (c_inj hf) dX11_tape_52
          · have hf := c_ie c5 hf
            refine lv_bipush (v := (-2 : Int32)) hx hb dX11_tape_43 (by decide) ?_
            exact c_iret hx hb hr hlk hP hS rfl (c_inj hf) dX11_tape_45
        · have hf := c_it c4 hf
          refine lv_aload_n hx hb dX11_tape_27 rfl (lv_at hl 0 rfl) ?_
          refine c_get hx hb hts i_X11_tape_X11 hown hK hP 0 tC0 rfl 16 (by decide) (hts _ (List.mem_of_getElem? (i := 1) rfl)) (fun _ h9 => h9) rfl (v := .ref (ad 10)) rfl dX11_tape_28 ?_
          refine lv_iload_n hx hb dX11_tape_31 rfl (lv_at hl 1 rfl) ?_
          refine lv_bipush (v := (-5 : Int32)) hx hb dX11_tape_32 (by decide) ?_
          obtain ⟨hi12, hf⟩ := c_gd hf
          obtain ⟨g13, eg13, hf⟩ := c_letE hf
          refine c_iast (j := (a1).toNatClampNeg) hx hb hK hP hD hS 10 tC10 rfl (c_inV hi12) eg13 dX11_tape_34 (fun H locs hP hS => ?_)
          refine lv_iconst (v := (1 : Int32)) hx hb dX11_tape_35 (by decide) ?_
          exact c_iret hx hb hr hlk hP hS rfl (c_inj hf) dX11_tape_36
      · have hf := c_ie c3 hf
        refine lv_bipush (v := (-2 : Int32)) hx hb dX11_tape_19 (by decide) ?_
        exact c_iret hx hb hr hlk hP hS rfl (c_inj hf) dX11_tape_21
  · have hf := c_it c1 hf
    refine lv_iconst (v := (-1 : Int32)) hx hb dX11_tape_7 (by decide) ?_
    exact c_iret hx hb hr hlk hP hS rfl (c_inj hf) dX11_tape_8
theorem dX11_narrowed_0 : decode cX11_narrowed 0 = .ok (.iload_n 0, 1) := by decide +kernel
theorem dX11_narrowed_1 : decode cX11_narrowed 1 = .ok (.tableswitch 47 0 3 #[31, 36, 41, 45], 31) := by decide +kernel
theorem dX11_narrowed_32 : decode cX11_narrowed 32 = .ok (.lload_n 1, 1) := by decide +kernel
theorem dX11_narrowed_33 : decode cX11_narrowed 33 = .ok (.l2i, 1) := by decide +kernel
theorem dX11_narrowed_34 : decode cX11_narrowed 34 = .ok (.i2b, 1) := by decide +kernel
theorem dX11_narrowed_35 : decode cX11_narrowed 35 = .ok (.i2l, 1) := by decide +kernel
theorem dX11_narrowed_36 : decode cX11_narrowed 36 = .ok (.lreturn, 1) := by decide +kernel
theorem dX11_narrowed_37 : decode cX11_narrowed 37 = .ok (.lload_n 1, 1) := by decide +kernel
theorem dX11_narrowed_38 : decode cX11_narrowed 38 = .ok (.l2i, 1) := by decide +kernel
theorem dX11_narrowed_39 : decode cX11_narrowed 39 = .ok (.i2s, 1) := by decide +kernel
theorem dX11_narrowed_40 : decode cX11_narrowed 40 = .ok (.i2l, 1) := by decide +kernel
theorem dX11_narrowed_41 : decode cX11_narrowed 41 = .ok (.lreturn, 1) := by decide +kernel
theorem dX11_narrowed_42 : decode cX11_narrowed 42 = .ok (.lload_n 1, 1) := by decide +kernel
theorem dX11_narrowed_43 : decode cX11_narrowed 43 = .ok (.l2i, 1) := by decide +kernel
theorem dX11_narrowed_44 : decode cX11_narrowed 44 = .ok (.i2l, 1) := by decide +kernel
theorem dX11_narrowed_45 : decode cX11_narrowed 45 = .ok (.lreturn, 1) := by decide +kernel
theorem dX11_narrowed_46 : decode cX11_narrowed 46 = .ok (.lload_n 1, 1) := by decide +kernel
theorem dX11_narrowed_47 : decode cX11_narrowed 47 = .ok (.lreturn, 1) := by decide +kernel
theorem dX11_narrowed_48 : decode cX11_narrowed 48 = .ok (.lload_n 1, 1) := by decide +kernel
theorem dX11_narrowed_49 : decode cX11_narrowed 49 = .ok (.lconst 0, 1) := by decide +kernel
theorem dX11_narrowed_50 : decode cX11_narrowed 50 = .ok (.lcmp, 1) := by decide +kernel
theorem dX11_narrowed_51 : decode cX11_narrowed 51 = .ok (.ifCond .ne 7, 3) := by decide +kernel
theorem dX11_narrowed_54 : decode cX11_narrowed 54 = .ok (.lconst 0, 1) := by decide +kernel
theorem dX11_narrowed_55 : decode cX11_narrowed 55 = .ok (.goto 4, 3) := by decide +kernel
theorem dX11_narrowed_58 : decode cX11_narrowed 58 = .ok (.lconst 1, 1) := by decide +kernel
theorem dX11_narrowed_59 : decode cX11_narrowed 59 = .ok (.lreturn, 1) := by decide +kernel
def fX11_narrowed (a1 : Int32) (a2 : Int64) : Int64 :=
  if a1 = (0 : Int32) then (((((((a2).toInt32)).toInt8.toInt32)).toInt64)) else if a1 = (1 : Int32) then (((((((a2).toInt32)).toInt16.toInt32)).toInt64)) else if a1 = (2 : Int32) then (((((a2).toInt32)).toInt64)) else if a1 = (3 : Int32) then (a2) else (if (lg_cmp a2 (0 : Int64)) = 0 then ((0 : Int64)) else ((1 : Int64)))
set_option maxRecDepth 100000 in
set_option maxHeartbeats 4000000 in
theorem kX11_narrowed {l : Launch} {D : va_G} {tc : Nat → ClassId} {ad : Nat → Nat} {A : Nat → Prop} {E : (Nat → Nat) × (Nat → Nat) × Nat} {T : List c_T} {a1 : Int32} {a2 : Int64} {g : c_G} {r : Int64} (hf : fX11_narrowed a1 a2 = r) : c_Ml l yX11_narrowed wsX11_narrowed (c_rm 0) D tc ad A E T ([.int a1, .long a2] : List Value) g g r := by
  refine c_ofW (bytes := cX11_narrowed) (maxL := 3) (ret := (some .long)) (by decide) rfl (Nat.le_of_ble_eq_true rfl) ?_
  intro p e s m below meth c ls C hP hS hl
  unfold fX11_narrowed at hf
  obtain ⟨hx, hb, hr, hml, hts, hown, hlk, hK, hE⟩ := id C
  have hl : lv_has ls 3 [(0, .int a1), (1, .long a2)] := hl
  refine lv_iload_n hx hb dX11_narrowed_0 rfl (lv_at hl 0 rfl) ?_
  by_cases c1 : a1 = (0 : Int32)
  · have hf := c_it c1 hf
    refine lv_tableIn (off := 31) (tgt := 32) hx hb dX11_narrowed_1 (by rw [c1]; decide) (by rw [c1]; decide) (by rw [c1]; rfl) (by decide) ?_
    refine lv_lload_n hx hb dX11_narrowed_32 rfl (lv_at hl 1 rfl) ?_
    refine lv_l2i hx hb dX11_narrowed_33 rfl ?_
    refine lv_i2b hx hb dX11_narrowed_34 rfl ?_
    refine lv_i2l hx hb dX11_narrowed_35 rfl ?_
    exact c_lret hx hb hr hlk hP hS ⟨rfl, hf⟩ dX11_narrowed_36
  have hf := c_ie c1 hf
  by_cases c2 : a1 = (1 : Int32)
  · have hf := c_it c2 hf
    refine lv_tableIn (off := 36) (tgt := 37) hx hb dX11_narrowed_1 (by rw [c2]; decide) (by rw [c2]; decide) (by rw [c2]; rfl) (by decide) ?_
    refine lv_lload_n hx hb dX11_narrowed_37 rfl (lv_at hl 1 rfl) ?_
    refine lv_l2i hx hb dX11_narrowed_38 rfl ?_
    refine lv_i2s hx hb dX11_narrowed_39 rfl ?_
    refine lv_i2l hx hb dX11_narrowed_40 rfl ?_
    exact c_lret hx hb hr hlk hP hS ⟨rfl, hf⟩ dX11_narrowed_41
  have hf := c_ie c2 hf
  by_cases c3 : a1 = (2 : Int32)
  · have hf := c_it c3 hf
    refine lv_tableIn (off := 41) (tgt := 42) hx hb dX11_narrowed_1 (by rw [c3]; decide) (by rw [c3]; decide) (by rw [c3]; rfl) (by decide) ?_
    refine lv_lload_n hx hb dX11_narrowed_42 rfl (lv_at hl 1 rfl) ?_
    refine lv_l2i hx hb dX11_narrowed_43 rfl ?_
    refine lv_i2l hx hb dX11_narrowed_44 rfl ?_
    exact c_lret hx hb hr hlk hP hS ⟨rfl, hf⟩ dX11_narrowed_45
  have hf := c_ie c3 hf
  by_cases c4 : a1 = (3 : Int32)
  · have hf := c_it c4 hf
    refine lv_tableIn (off := 45) (tgt := 46) hx hb dX11_narrowed_1 (by rw [c4]; decide) (by rw [c4]; decide) (by rw [c4]; rfl) (by decide) ?_
    refine lv_lload_n hx hb dX11_narrowed_46 rfl (lv_at hl 1 rfl) ?_
    exact c_lret hx hb hr hlk hP hS ⟨rfl, hf⟩ dX11_narrowed_47
  have hf := c_ie c4 hf
  have h9 := c_sw (x := a1) (lo := 0) (n := 3) (by decide) (fun k hj hk => by rcases (show k = 0 ∨ k = 1 ∨ k = 2 ∨ k = 3 by omega) with rfl | rfl | rfl | rfl <;> assumption)
  refine lv_tableOut (tgt := 48) hx hb dX11_narrowed_1 (by omega) (by decide) ?_
  refine lv_lload_n hx hb dX11_narrowed_48 rfl (lv_at hl 1 rfl) ?_
  refine lv_lconst (v := (0 : Int64)) hx hb dX11_narrowed_49 (by decide) ?_
  refine W.lcmp hx hb dX11_narrowed_50 ?_
  refine lv_if_ne (tgt := 58) hx hb dX11_narrowed_51 (by decide) (fun c5 => ?_) (fun c5 => ?_)
  · have hf := c_ie c5 hf
    refine lv_lconst (v := (1 : Int64)) hx hb dX11_narrowed_58 (by decide) ?_
    exact c_lret hx hb hr hlk hP hS ⟨rfl, hf⟩ dX11_narrowed_59
  · have hf := c_it c5 hf
    refine lv_lconst (v := (0 : Int64)) hx hb dX11_narrowed_54 (by decide) ?_
    refine lv_goto (tgt := 59) hx hb dX11_narrowed_55 (by decide) ?_
    exact c_lret hx hb hr hlk hP hS ⟨rfl, hf⟩ dX11_narrowed_59
theorem i_X11_item_X11 : ∀ w ∈ u_ws RX11 TX11 19, w ∈ wsX11_item := c_inP [11, 12, 13, 14, 15, 16, 17, 18, 19, 20, 21, 22, 23, 24, 25, 26, 27, 28, 29] (by decide +kernel)
theorem dX11_item_0 : decode cX11_item 0 = .ok (.iload_n 1, 1) := by decide +kernel
theorem dX11_item_1 : decode cX11_item 1 = .ok (.invokestatic 279, 3) := by decide +kernel
theorem dX11_item_4 : decode cX11_item 4 = .ok (.ifCond .ne 5, 3) := by decide +kernel
theorem dX11_item_7 : decode cX11_item 7 = .ok (.iconst (-1), 1) := by decide +kernel
theorem dX11_item_8 : decode cX11_item 8 = .ok (.ireturn, 1) := by decide +kernel
theorem dX11_item_9 : decode cX11_item 9 = .ok (.aload_n 0, 1) := by decide +kernel
theorem dX11_item_10 : decode cX11_item 10 = .ok (.getfield 44, 3) := by decide +kernel
theorem dX11_item_13 : decode cX11_item 13 = .ok (.iload_n 1, 1) := by decide +kernel
theorem dX11_item_14 : decode cX11_item 14 = .ok (.iaload, 1) := by decide +kernel
theorem dX11_item_15 : decode cX11_item 15 = .ok (.bipush (-5), 2) := by decide +kernel
theorem dX11_item_17 : decode cX11_item 17 = .ok (.if_icmp .ne 6, 3) := by decide +kernel
theorem dX11_item_20 : decode cX11_item 20 = .ok (.bipush (-11), 2) := by decide +kernel
theorem dX11_item_22 : decode cX11_item 22 = .ok (.ireturn, 1) := by decide +kernel
theorem dX11_item_23 : decode cX11_item 23 = .ok (.iload_n 2, 1) := by decide +kernel
theorem dX11_item_24 : decode cX11_item 24 = .ok (.ifCond .lt 13, 3) := by decide +kernel
theorem dX11_item_27 : decode cX11_item 27 = .ok (.iload_n 2, 1) := by decide +kernel
theorem dX11_item_28 : decode cX11_item 28 = .ok (.aload_n 0, 1) := by decide +kernel
theorem dX11_item_29 : decode cX11_item 29 = .ok (.getfield 47, 3) := by decide +kernel
theorem dX11_item_32 : decode cX11_item 32 = .ok (.iload_n 1, 1) := by decide +kernel
theorem dX11_item_33 : decode cX11_item 33 = .ok (.iaload, 1) := by decide +kernel
theorem dX11_item_34 : decode cX11_item 34 = .ok (.if_icmp .lt 6, 3) := by decide +kernel
theorem dX11_item_37 : decode cX11_item 37 = .ok (.bipush (-13), 2) := by decide +kernel
theorem dX11_item_39 : decode cX11_item 39 = .ok (.ireturn, 1) := by decide +kernel
theorem dX11_item_40 : decode cX11_item 40 = .ok (.aload_n 0, 1) := by decide +kernel
theorem dX11_item_41 : decode cX11_item 41 = .ok (.getfield 52, 3) := by decide +kernel
theorem dX11_item_44 : decode cX11_item 44 = .ok (.iload_n 1, 1) := by decide +kernel
theorem dX11_item_45 : decode cX11_item 45 = .ok (.aaload, 1) := by decide +kernel
theorem dX11_item_46 : decode cX11_item 46 = .ok (.iload_n 2, 1) := by decide +kernel
theorem dX11_item_47 : decode cX11_item 47 = .ok (.aload_n 0, 1) := by decide +kernel
theorem dX11_item_48 : decode cX11_item 48 = .ok (.getfield 44, 3) := by decide +kernel
theorem dX11_item_51 : decode cX11_item 51 = .ok (.iload_n 1, 1) := by decide +kernel
theorem dX11_item_52 : decode cX11_item 52 = .ok (.iaload, 1) := by decide +kernel
theorem dX11_item_53 : decode cX11_item 53 = .ok (.lload_n 3, 1) := by decide +kernel
theorem dX11_item_54 : decode cX11_item 54 = .ok (.invokestatic 313, 3) := by decide +kernel
theorem dX11_item_57 : decode cX11_item 57 = .ok (.lastore, 1) := by decide +kernel
theorem dX11_item_58 : decode cX11_item 58 = .ok (.iconst 1, 1) := by decide +kernel
theorem dX11_item_59 : decode cX11_item 59 = .ok (.ireturn, 1) := by decide +kernel
set_option maxRecDepth 20000 in
theorem ggX11_item_X11_isTape : GoodIn wsX11_item wsX11_isTape := goodIn_r _ [7] (by decide +kernel) (by decide +kernel)
set_option maxRecDepth 20000 in
theorem gX11_item_X11_isTape : GoodIn wsX11_item (va_wsS RX11 279 yX11_isTape wsX11_isTape) := goodIn_app (goodIn_of _ (by decide +kernel)) ggX11_item_X11_isTape
set_option maxRecDepth 20000 in
theorem ggX11_item_X11_narrowed : GoodIn wsX11_item wsX11_narrowed := goodIn_r _ [10] (by decide +kernel) (by decide +kernel)
set_option maxRecDepth 20000 in
theorem gX11_item_X11_narrowed : GoodIn wsX11_item (va_wsS RX11 313 yX11_narrowed wsX11_narrowed) := goodIn_app (goodIn_of _ (by decide +kernel)) ggX11_item_X11_narrowed
def fX11_item (g : c_G) (a1 : Int32) (a2 : Int32) (a3 : Int64) : Option (c_G × Int32) :=
  if (fX11_isTape a1) = 0 then (some (g, (-1 : Int32))) else (if c_in (a1) (6) = true then if (g.1 10 (a1).toNatClampNeg) = (-5 : Int32) then (some (g, (-11 : Int32))) else (if a2 < 0 then (some (g, (-13 : Int32))) else (if a2 < (g.1 11 (a1).toNatClampNeg) then (c_let ((fX11_narrowed ((g.1 10 (a1).toNatClampNeg)) a3)) fun v6 => if c_in (a2) (60) = true then c_let (c_sl g (13 + (a1).toNatClampNeg) (a2).toNatClampNeg v6) fun g8 => some (g8, (1 : Int32)) else none) else (some (g, (-13 : Int32))))) else none)
set_option maxRecDepth 100000 in
set_option maxHeartbeats 4000000 in
theorem kX11_item {l : Launch} {D : va_G} {tc : Nat → ClassId} {ad : Nat → Nat} {A : Nat → Prop} {E : (Nat → Nat) × (Nat → Nat) × Nat} (hD : c_D A ad TC) {a1 : Int32} {a2 : Int32} {a3 : Int64} {g g' : c_G} {r : Int32} (hf : fX11_item g a1 a2 a3 = some (g', r)) : c_Mi l yX11_item wsX11_item (c_rm 1) D tc ad A E TC ([.ref (ad 0), .int a1, .int a2, .long a3] : List Value) g g' r := by
  refine c_ofW (bytes := cX11_item) (maxL := 5) (ret := (some .int)) (by decide) rfl (Nat.le_of_ble_eq_true rfl) ?_
  intro p e s m below meth c ls C hP hS hl
  unfold fX11_item at hf
  obtain ⟨hx, hb, hr, hml, hts, hown, hlk, hK, hE⟩ := id C
  have hl : lv_has ls 5 [(0, .ref (ad 0)), (1, .int a1), (2, .int a2), (3, .long a3)] := hl
  refine lv_iload_n hx hb dX11_item_0 rfl (lv_at hl 1 rfl) ?_
  refine c_goi (va_runS (As := [.int a1]) (rest := []) ⟨hx, hb, hml, hown, hts⟩ (kX11_isTape (T := TC) (g := g) rfl) (va_cwS 1 hts gX11_item_X11_isTape rfl rfl rfl (by decide +kernel) ⟨Nat.le_of_ble_eq_true rfl, Nat.le_of_ble_eq_true rfl⟩) (c_preS hK hP hE hS) rfl rfl hl.1 rfl (lv_room (Nat.le_of_ble_eq_true rfl)) dX11_item_1 ⟨Nat.zero_le _, Nat.zero_le _⟩) hS (fun H locs hP hS => ?_)
  refine lv_if_ne (tgt := 9) hx hb dX11_item_4 (by decide) (fun c1 => ?_) (fun c1 => ?_)
  · have hf := c_ie c1 hf
    refine lv_aload_n hx hb dX11_item_9 rfl (lv_at hl 0 rfl) ?_
    refine c_get hx hb hts i_X11_item_X11 hown hK hP 0 tC0 rfl 16 (by decide) (hts _ (List.mem_of_getElem? (i := 1) rfl)) (fun _ h9 => h9) rfl (v := .ref (ad 10)) rfl dX11_item_10 ?_
    refine lv_iload_n hx hb dX11_item_13 rfl (lv_at hl 1 rfl) ?_
    obtain ⟨hi2, hf⟩ := c_gd hf
    refine c_iald (j := (a1).toNatClampNeg) hx hb hK hP 10 tC10 rfl (c_inV hi2) dX11_item_14 ?_
    refine lv_bipush (v := (-5 : Int32)) hx hb dX11_item_15 (by decide) ?_
    refine lv_icmp_ne (tgt := 23) hx hb dX11_item_17 (by decide) (fun c3 => ?_) (fun c3 => ?_)
    · have hf := c_ie c3 hf
      refine lv_iload_n hx hb dX11_item_23 rfl (lv_at hl 2 rfl) ?_
      refine lv_if_lt (tgt := 37) hx hb dX11_item_24 (by decide) (fun c4 => ?_) (fun c4 => ?_)
      · have hf := c_it c4 hf
        refine lv_bipush (v := (-13 : Int32)) hx hb dX11_item_37 (by decide) ?_
        exact c_iret hx hb hr hlk hP hS rfl (c_inj hf) dX11_item_39
      · have hf := c_ie c4 hf
        refine lv_iload_n hx hb dX11_item_27 rfl (lv_at hl 2 rfl) ?_
        refine lv_aload_n hx hb dX11_item_28 rfl (lv_at hl 0 rfl) ?_
        refine c_get hx hb hts i_X11_item_X11 hown hK hP 0 tC0 rfl 17 (by decide) (hts _ (List.mem_of_getElem? (i := 2) rfl)) (fun _ h9 => h9) rfl (v := .ref (ad 11)) rfl dX11_item_29 ?_
        refine lv_iload_n hx hb dX11_item_32 rfl (lv_at hl 1 rfl) ?_
        refine c_iald (j := (a1).toNatClampNeg) hx hb hK hP 11 tC11 rfl (c_inV hi2) dX11_item_33 ?_
        refine lv_icmp_lt (tgt := 40) hx hb dX11_item_34 (by decide) (fun c5 => ?_) (fun c5 => ?_)
        · have hf := c_it c5 hf
          refine lv_aload_n hx hb dX11_item_40 rfl (lv_at hl 0 rfl) ?_
          refine c_get hx hb hts i_X11_item_X11 hown hK hP 0 tC0 rfl 18 (by decide) (hts _ (List.mem_of_getElem? (i := 3) rfl)) (fun _ h9 => h9) rfl (v := .ref (ad 12)) rfl dX11_item_41 ?_
          refine lv_iload_n hx hb dX11_item_44 rfl (lv_at hl 1 rfl) ?_
          refine c_aald7 hx hb hK hP 12 tC12 (c_inV hi2) (y := (13 + (a1).toNatClampNeg)) (c_tA (c_iN hi2)) dX11_item_45 ?_
          refine lv_iload_n hx hb dX11_item_46 rfl (lv_at hl 2 rfl) ?_
          refine lv_aload_n hx hb dX11_item_47 rfl (lv_at hl 0 rfl) ?_
          refine c_get hx hb hts i_X11_item_X11 hown hK hP 0 tC0 rfl 16 (by decide) (hts _ (List.mem_of_getElem? (i := 1) rfl)) (fun _ h9 => h9) rfl (v := .ref (ad 10)) rfl dX11_item_48 ?_
          refine lv_iload_n hx hb dX11_item_51 rfl (lv_at hl 1 rfl) ?_
          refine c_iald (j := (a1).toNatClampNeg) hx hb hK hP 10 tC10 rfl (c_inV hi2) dX11_item_52 ?_
          refine lv_lload_n hx hb dX11_item_53 rfl (lv_at hl 3 rfl) ?_
          refine c_gol (va_runS (As := [.int (g.1 10 (a1).toNatClampNeg), .long a3]) (rest := [.int a2, .ref (ad (13 + (a1).toNatClampNeg))]) ⟨hx, hb, hml, hown, hts⟩ (kX11_narrowed (T := TC) (g := g) rfl) (va_cwS 2 hts gX11_item_X11_narrowed rfl rfl rfl (by decide +kernel) ⟨Nat.le_of_ble_eq_true rfl, Nat.le_of_ble_eq_true rfl⟩) (c_preS hK hP hE hS) rfl rfl hl.1 rfl (lv_room (Nat.le_of_ble_eq_true rfl)) dX11_item_54 ⟨Nat.zero_le _, Nat.zero_le _⟩) hS (fun H locs hP hS => ?_)
          obtain ⟨v6, ev6, hf⟩ := c_letE hf
          refine c_topi ev6 ?_
          obtain ⟨hi7, hf⟩ := c_gd hf
          obtain ⟨g8, eg8, hf⟩ := c_letE hf
          refine c_last (j := (a2).toNatClampNeg) hx hb hK hP hD hS (13 + (a1).toNatClampNeg) (c_tB (c_iN hi2)) rfl (c_inV hi7) eg8 dX11_item_57 (fun H locs hP hS => ?_)
          refine lv_iconst (v := (1 : Int32)) hx hb dX11_item_58 (by decide) ?_
          exact c_iret hx hb hr hlk hP hS rfl (c_inj hf) dX11_item_59
        · have hf := c_ie c5 hf
          refine lv_bipush (v := (-13 : Int32)) hx hb dX11_item_37 (by decide) ?_
          exact c_iret hx hb hr hlk hP hS rfl (c_inj hf) dX11_item_39
    · have hf := c_it c3 hf
      refine lv_bipush (v := (-11 : Int32)) hx hb dX11_item_20 (by decide) ?_
      exact c_iret hx hb hr hlk hP hS rfl (c_inj hf) dX11_item_22
  · have hf := c_it c1 hf
    refine lv_iconst (v := (-1 : Int32)) hx hb dX11_item_7 (by decide) ?_
    exact c_iret hx hb hr hlk hP hS rfl (c_inj hf) dX11_item_8
theorem i_X11_read_X11 : ∀ w ∈ u_ws RX11 TX11 19, w ∈ wsX11_read := c_inP [9, 10, 11, 12, 13, 14, 15, 16, 17, 18, 19, 20, 21, 22, 23, 24, 25, 26, 27] (by decide +kernel)
theorem dX11_read_0 : decode cX11_read 0 = .ok (.iload_n 1, 1) := by decide +kernel
theorem dX11_read_1 : decode cX11_read 1 = .ok (.invokestatic 279, 3) := by decide +kernel
theorem dX11_read_4 : decode cX11_read 4 = .ok (.ifCond .eq 14, 3) := by decide +kernel
theorem dX11_read_7 : decode cX11_read 7 = .ok (.aload_n 0, 1) := by decide +kernel
theorem dX11_read_8 : decode cX11_read 8 = .ok (.getfield 44, 3) := by decide +kernel
theorem dX11_read_11 : decode cX11_read 11 = .ok (.iload_n 1, 1) := by decide +kernel
theorem dX11_read_12 : decode cX11_read 12 = .ok (.iaload, 1) := by decide +kernel
theorem dX11_read_13 : decode cX11_read 13 = .ok (.bipush (-5), 2) := by decide +kernel
theorem dX11_read_15 : decode cX11_read 15 = .ok (.if_icmp .ne 7, 3) := by decide +kernel
theorem dX11_read_18 : decode cX11_read 18 = .ok (.ldc2_w 252, 3) := by decide +kernel
theorem dX11_read_21 : decode cX11_read 21 = .ok (.lreturn, 1) := by decide +kernel
theorem dX11_read_22 : decode cX11_read 22 = .ok (.iload_n 2, 1) := by decide +kernel
theorem dX11_read_23 : decode cX11_read 23 = .ok (.ifCond .lt 13, 3) := by decide +kernel
theorem dX11_read_26 : decode cX11_read 26 = .ok (.iload_n 2, 1) := by decide +kernel
theorem dX11_read_27 : decode cX11_read 27 = .ok (.aload_n 0, 1) := by decide +kernel
theorem dX11_read_28 : decode cX11_read 28 = .ok (.getfield 47, 3) := by decide +kernel
theorem dX11_read_31 : decode cX11_read 31 = .ok (.iload_n 1, 1) := by decide +kernel
theorem dX11_read_32 : decode cX11_read 32 = .ok (.iaload, 1) := by decide +kernel
theorem dX11_read_33 : decode cX11_read 33 = .ok (.if_icmp .lt 9, 3) := by decide +kernel
theorem dX11_read_36 : decode cX11_read 36 = .ok (.ldc2_w 252, 3) := by decide +kernel
theorem dX11_read_39 : decode cX11_read 39 = .ok (.goto 11, 3) := by decide +kernel
theorem dX11_read_42 : decode cX11_read 42 = .ok (.aload_n 0, 1) := by decide +kernel
theorem dX11_read_43 : decode cX11_read 43 = .ok (.getfield 52, 3) := by decide +kernel
theorem dX11_read_46 : decode cX11_read 46 = .ok (.iload_n 1, 1) := by decide +kernel
theorem dX11_read_47 : decode cX11_read 47 = .ok (.aaload, 1) := by decide +kernel
theorem dX11_read_48 : decode cX11_read 48 = .ok (.iload_n 2, 1) := by decide +kernel
theorem dX11_read_49 : decode cX11_read 49 = .ok (.laload, 1) := by decide +kernel
theorem dX11_read_50 : decode cX11_read 50 = .ok (.lreturn, 1) := by decide +kernel
set_option maxRecDepth 20000 in
theorem ggX11_read_X11_isTape : GoodIn wsX11_read wsX11_isTape := goodIn_r _ [8] (by decide +kernel) (by decide +kernel)
set_option maxRecDepth 20000 in
theorem gX11_read_X11_isTape : GoodIn wsX11_read (va_wsS RX11 279 yX11_isTape wsX11_isTape) := goodIn_app (goodIn_of _ (by decide +kernel)) ggX11_read_X11_isTape
def fX11_read (g : c_G) (a1 : Int32) (a2 : Int32) : Option (Int64) :=
  if (fX11_isTape a1) = 0 then (some (-9223372036854775808 : Int64)) else (if c_in (a1) (6) = true then if (g.1 10 (a1).toNatClampNeg) = (-5 : Int32) then (some (-9223372036854775808 : Int64)) else (if a2 < 0 then (some (-9223372036854775808 : Int64)) else (if a2 < (g.1 11 (a1).toNatClampNeg) then (if c_in (a2) (60) = true then some (g.2.1 (13 + (a1).toNatClampNeg) (a2).toNatClampNeg) else none) else (some (-9223372036854775808 : Int64)))) else none)
set_option maxRecDepth 100000 in
set_option maxHeartbeats 4000000 in
theorem kX11_read {l : Launch} {D : va_G} {tc : Nat → ClassId} {ad : Nat → Nat} {A : Nat → Prop} {E : (Nat → Nat) × (Nat → Nat) × Nat} (hD : c_D A ad TC) {a1 : Int32} {a2 : Int32} {g : c_G} {r : Int64} (hf : fX11_read g a1 a2 = some r) : c_Ml l yX11_read wsX11_read (c_rm 1) D tc ad A E TC ([.ref (ad 0), .int a1, .int a2] : List Value) g g r := by
  refine c_ofW (bytes := cX11_read) (maxL := 3) (ret := (some .long)) (by decide) rfl (Nat.le_of_ble_eq_true rfl) ?_
  intro p e s m below meth c ls C hP hS hl
  unfold fX11_read at hf
  obtain ⟨hx, hb, hr, hml, hts, hown, hlk, hK, hE⟩ := id C
  have hl : lv_has ls 3 [(0, .ref (ad 0)), (1, .int a1), (2, .int a2)] := hl
  refine lv_iload_n hx hb dX11_read_0 rfl (lv_at hl 1 rfl) ?_
  refine c_goi (va_runS (As := [.int a1]) (rest := []) ⟨hx, hb, hml, hown, hts⟩ (kX11_isTape (T := TC) (g := g) rfl) (va_cwS 1 hts gX11_read_X11_isTape rfl rfl rfl (by decide +kernel) ⟨Nat.le_of_ble_eq_true rfl, Nat.le_of_ble_eq_true rfl⟩) (c_preS hK hP hE hS) rfl rfl hl.1 rfl (lv_room (Nat.le_of_ble_eq_true rfl)) dX11_read_1 ⟨Nat.zero_le _, Nat.zero_le _⟩) hS (fun H locs hP hS => ?_)
  refine lv_if_eq (tgt := 18) hx hb dX11_read_4 (by decide) (fun c1 => ?_) (fun c1 => ?_)
  · have hf := c_it c1 hf
    refine lv_ldc2 hx hb hown (v := (-9223372036854775808 : Int64)) (hts _ (List.mem_of_getElem? (i := 2) rfl)) dX11_read_18 ?_
    exact c_lret hx hb hr hlk hP hS ⟨rfl, Option.some.inj hf⟩ dX11_read_21
  · have hf := c_ie c1 hf
    refine lv_aload_n hx hb dX11_read_7 rfl (lv_at hl 0 rfl) ?_
    refine c_get hx hb hts i_X11_read_X11 hown hK hP 0 tC0 rfl 16 (by decide) (hts _ (List.mem_of_getElem? (i := 1) rfl)) (fun _ h9 => h9) rfl (v := .ref (ad 10)) rfl dX11_read_8 ?_
    refine lv_iload_n hx hb dX11_read_11 rfl (lv_at hl 1 rfl) ?_
    obtain ⟨hi2, hf⟩ := c_gd hf
    refine c_iald (j := (a1).toNatClampNeg) hx hb hK hP 10 tC10 rfl (c_inV hi2) dX11_read_12 ?_
    refine lv_bipush (v := (-5 : Int32)) hx hb dX11_read_13 (by decide) ?_
    refine lv_icmp_ne (tgt := 22) hx hb dX11_read_15 (by decide) (fun c3 => ?_) (fun c3 => ?_)
    · have hf := c_ie c3 hf
      refine lv_iload_n hx hb dX11_read_22 rfl (lv_at hl 2 rfl) ?_
      refine lv_if_lt (tgt := 36) hx hb dX11_read_23 (by decide) (fun c4 => ?_) (fun c4 => ?_)
      · have hf := c_it c4 hf
        refine lv_ldc2 hx hb hown (v := (-9223372036854775808 : Int64)) (hts _ (List.mem_of_getElem? (i := 2) rfl)) dX11_read_36 ?_
        refine lv_goto (tgt := 50) hx hb dX11_read_39 (by decide) ?_
        exact c_lret hx hb hr hlk hP hS ⟨rfl, Option.some.inj hf⟩ dX11_read_50
      · have hf := c_ie c4 hf
        refine lv_iload_n hx hb dX11_read_26 rfl (lv_at hl 2 rfl) ?_
        refine lv_aload_n hx hb dX11_read_27 rfl (lv_at hl 0 rfl) ?_
        refine c_get hx hb hts i_X11_read_X11 hown hK hP 0 tC0 rfl 17 (by decide) (hts _ (List.mem_of_getElem? (i := 3) rfl)) (fun _ h9 => h9) rfl (v := .ref (ad 11)) rfl dX11_read_28 ?_
        refine lv_iload_n hx hb dX11_read_31 rfl (lv_at hl 1 rfl) ?_
        refine c_iald (j := (a1).toNatClampNeg) hx hb hK hP 11 tC11 rfl (c_inV hi2) dX11_read_32 ?_
        refine lv_icmp_lt (tgt := 42) hx hb dX11_read_33 (by decide) (fun c5 => ?_) (fun c5 => ?_)
        · have hf := c_it c5 hf
          refine lv_aload_n hx hb dX11_read_42 rfl (lv_at hl 0 rfl) ?_
          refine c_get hx hb hts i_X11_read_X11 hown hK hP 0 tC0 rfl 18 (by decide) (hts _ (List.mem_of_getElem? (i := 4) rfl)) (fun _ h9 => h9) rfl (v := .ref (ad 12)) rfl dX11_read_43 ?_
          refine lv_iload_n hx hb dX11_read_46 rfl (lv_at hl 1 rfl) ?_
          refine c_aald7 hx hb hK hP 12 tC12 (c_inV hi2) (y := (13 + (a1).toNatClampNeg)) (c_tA (c_iN hi2)) dX11_read_47 ?_
          refine lv_iload_n hx hb dX11_read_48 rfl (lv_at hl 2 rfl) ?_
          obtain ⟨hi6, hf⟩ := c_gd hf
          refine c_lald (j := (a2).toNatClampNeg) hx hb hK hP (13 + (a1).toNatClampNeg) (c_tB (c_iN hi2)) rfl (c_inV hi6) dX11_read_49 ?_
          exact c_lret hx hb hr hlk hP hS ⟨rfl, Option.some.inj hf⟩ dX11_read_50
        · have hf := c_ie c5 hf
          refine lv_ldc2 hx hb hown (v := (-9223372036854775808 : Int64)) (hts _ (List.mem_of_getElem? (i := 2) rfl)) dX11_read_36 ?_
          refine lv_goto (tgt := 50) hx hb dX11_read_39 (by decide) ?_
          exact c_lret hx hb hr hlk hP hS ⟨rfl, Option.some.inj hf⟩ dX11_read_50
    · have hf := c_it c3 hf
      refine lv_ldc2 hx hb hown (v := (-9223372036854775808 : Int64)) (hts _ (List.mem_of_getElem? (i := 2) rfl)) dX11_read_18 ?_
      exact c_lret hx hb hr hlk hP hS ⟨rfl, Option.some.inj hf⟩ dX11_read_21
theorem i_X11_shift_X11 : ∀ w ∈ u_ws RX11 TX11 19, w ∈ wsX11_shift := c_inP [12, 13, 14, 15, 16, 17, 18, 19, 20, 21, 22, 23, 24, 25, 26, 27, 28, 29, 30] (by decide +kernel)
theorem dX11_shift_0 : decode cX11_shift 0 = .ok (.iload_n 1, 1) := by decide +kernel
theorem dX11_shift_1 : decode cX11_shift 1 = .ok (.invokestatic 279, 3) := by decide +kernel
theorem dX11_shift_4 : decode cX11_shift 4 = .ok (.ifCond .eq 10, 3) := by decide +kernel
theorem dX11_shift_7 : decode cX11_shift 7 = .ok (.iload_n 3, 1) := by decide +kernel
theorem dX11_shift_8 : decode cX11_shift 8 = .ok (.invokestatic 279, 3) := by decide +kernel
theorem dX11_shift_11 : decode cX11_shift 11 = .ok (.ifCond .ne 5, 3) := by decide +kernel
theorem dX11_shift_14 : decode cX11_shift 14 = .ok (.iconst (-1), 1) := by decide +kernel
theorem dX11_shift_15 : decode cX11_shift 15 = .ok (.ireturn, 1) := by decide +kernel
theorem dX11_shift_16 : decode cX11_shift 16 = .ok (.aload_n 0, 1) := by decide +kernel
theorem dX11_shift_17 : decode cX11_shift 17 = .ok (.getfield 44, 3) := by decide +kernel
theorem dX11_shift_20 : decode cX11_shift 20 = .ok (.iload_n 1, 1) := by decide +kernel
theorem dX11_shift_21 : decode cX11_shift 21 = .ok (.iaload, 1) := by decide +kernel
theorem dX11_shift_22 : decode cX11_shift 22 = .ok (.bipush (-5), 2) := by decide +kernel
theorem dX11_shift_24 : decode cX11_shift 24 = .ok (.if_icmp .eq 14, 3) := by decide +kernel
theorem dX11_shift_27 : decode cX11_shift 27 = .ok (.aload_n 0, 1) := by decide +kernel
theorem dX11_shift_28 : decode cX11_shift 28 = .ok (.getfield 44, 3) := by decide +kernel
theorem dX11_shift_31 : decode cX11_shift 31 = .ok (.iload_n 3, 1) := by decide +kernel
theorem dX11_shift_32 : decode cX11_shift 32 = .ok (.iaload, 1) := by decide +kernel
theorem dX11_shift_33 : decode cX11_shift 33 = .ok (.bipush (-5), 2) := by decide +kernel
theorem dX11_shift_35 : decode cX11_shift 35 = .ok (.if_icmp .ne 6, 3) := by decide +kernel
theorem dX11_shift_38 : decode cX11_shift 38 = .ok (.bipush (-11), 2) := by decide +kernel
theorem dX11_shift_40 : decode cX11_shift 40 = .ok (.ireturn, 1) := by decide +kernel
theorem dX11_shift_41 : decode cX11_shift 41 = .ok (.aload_n 0, 1) := by decide +kernel
theorem dX11_shift_42 : decode cX11_shift 42 = .ok (.getfield 44, 3) := by decide +kernel
theorem dX11_shift_45 : decode cX11_shift 45 = .ok (.iload_n 1, 1) := by decide +kernel
theorem dX11_shift_46 : decode cX11_shift 46 = .ok (.iaload, 1) := by decide +kernel
theorem dX11_shift_47 : decode cX11_shift 47 = .ok (.aload_n 0, 1) := by decide +kernel
theorem dX11_shift_48 : decode cX11_shift 48 = .ok (.getfield 44, 3) := by decide +kernel
theorem dX11_shift_51 : decode cX11_shift 51 = .ok (.iload_n 3, 1) := by decide +kernel
theorem dX11_shift_52 : decode cX11_shift 52 = .ok (.iaload, 1) := by decide +kernel
theorem dX11_shift_53 : decode cX11_shift 53 = .ok (.if_icmp .eq 6, 3) := by decide +kernel
theorem dX11_shift_56 : decode cX11_shift 56 = .ok (.bipush (-12), 2) := by decide +kernel
theorem dX11_shift_58 : decode cX11_shift 58 = .ok (.ireturn, 1) := by decide +kernel
theorem dX11_shift_59 : decode cX11_shift 59 = .ok (.iload 5, 2) := by decide +kernel
theorem dX11_shift_61 : decode cX11_shift 61 = .ok (.ifCond .lt 12, 3) := by decide +kernel
theorem dX11_shift_64 : decode cX11_shift 64 = .ok (.iload_n 2, 1) := by decide +kernel
theorem dX11_shift_65 : decode cX11_shift 65 = .ok (.ifCond .lt 8, 3) := by decide +kernel
theorem dX11_shift_68 : decode cX11_shift 68 = .ok (.iload 4, 2) := by decide +kernel
theorem dX11_shift_70 : decode cX11_shift 70 = .ok (.ifCond .ge 6, 3) := by decide +kernel
theorem dX11_shift_73 : decode cX11_shift 73 = .ok (.bipush (-13), 2) := by decide +kernel
theorem dX11_shift_75 : decode cX11_shift 75 = .ok (.ireturn, 1) := by decide +kernel
theorem dX11_shift_76 : decode cX11_shift 76 = .ok (.iload 5, 2) := by decide +kernel
theorem dX11_shift_78 : decode cX11_shift 78 = .ok (.aload_n 0, 1) := by decide +kernel
theorem dX11_shift_79 : decode cX11_shift 79 = .ok (.getfield 47, 3) := by decide +kernel
theorem dX11_shift_82 : decode cX11_shift 82 = .ok (.iload_n 1, 1) := by decide +kernel
theorem dX11_shift_83 : decode cX11_shift 83 = .ok (.iaload, 1) := by decide +kernel
theorem dX11_shift_84 : decode cX11_shift 84 = .ok (.iload_n 2, 1) := by decide +kernel
theorem dX11_shift_85 : decode cX11_shift 85 = .ok (.isub, 1) := by decide +kernel
theorem dX11_shift_86 : decode cX11_shift 86 = .ok (.if_icmp .gt 17, 3) := by decide +kernel
theorem dX11_shift_89 : decode cX11_shift 89 = .ok (.iload 5, 2) := by decide +kernel
theorem dX11_shift_91 : decode cX11_shift 91 = .ok (.aload_n 0, 1) := by decide +kernel
theorem dX11_shift_92 : decode cX11_shift 92 = .ok (.getfield 47, 3) := by decide +kernel
theorem dX11_shift_95 : decode cX11_shift 95 = .ok (.iload_n 3, 1) := by decide +kernel
theorem dX11_shift_96 : decode cX11_shift 96 = .ok (.iaload, 1) := by decide +kernel
theorem dX11_shift_97 : decode cX11_shift 97 = .ok (.iload 4, 2) := by decide +kernel
theorem dX11_shift_99 : decode cX11_shift 99 = .ok (.isub, 1) := by decide +kernel
theorem dX11_shift_100 : decode cX11_shift 100 = .ok (.if_icmp .le 6, 3) := by decide +kernel
theorem dX11_shift_103 : decode cX11_shift 103 = .ok (.bipush (-13), 2) := by decide +kernel
theorem dX11_shift_105 : decode cX11_shift 105 = .ok (.ireturn, 1) := by decide +kernel
theorem dX11_shift_106 : decode cX11_shift 106 = .ok (.aload_n 0, 1) := by decide +kernel
theorem dX11_shift_107 : decode cX11_shift 107 = .ok (.getfield 52, 3) := by decide +kernel
theorem dX11_shift_110 : decode cX11_shift 110 = .ok (.iload_n 1, 1) := by decide +kernel
theorem dX11_shift_111 : decode cX11_shift 111 = .ok (.aaload, 1) := by decide +kernel
theorem dX11_shift_112 : decode cX11_shift 112 = .ok (.iload_n 2, 1) := by decide +kernel
theorem dX11_shift_113 : decode cX11_shift 113 = .ok (.aload_n 0, 1) := by decide +kernel
theorem dX11_shift_114 : decode cX11_shift 114 = .ok (.getfield 52, 3) := by decide +kernel
theorem dX11_shift_117 : decode cX11_shift 117 = .ok (.iload_n 3, 1) := by decide +kernel
theorem dX11_shift_118 : decode cX11_shift 118 = .ok (.aaload, 1) := by decide +kernel
theorem dX11_shift_119 : decode cX11_shift 119 = .ok (.iload 4, 2) := by decide +kernel
theorem dX11_shift_121 : decode cX11_shift 121 = .ok (.iload 5, 2) := by decide +kernel
theorem dX11_shift_123 : decode cX11_shift 123 = .ok (.invokestatic 317, 3) := by decide +kernel
theorem dX11_shift_126 : decode cX11_shift 126 = .ok (.iload 5, 2) := by decide +kernel
theorem dX11_shift_128 : decode cX11_shift 128 = .ok (.ireturn, 1) := by decide +kernel
set_option maxRecDepth 20000 in
theorem ggX11_shift_X11_isTape : GoodIn wsX11_shift wsX11_isTape := goodIn_r _ [11] (by decide +kernel) (by decide +kernel)
set_option maxRecDepth 20000 in
theorem gX11_shift_X11_isTape : GoodIn wsX11_shift (va_wsS RX11 279 yX11_isTape wsX11_isTape) := goodIn_app (goodIn_of _ (by decide +kernel)) ggX11_shift_X11_isTape
def fX11_shift (g : c_G) (a1 : Int32) (a2 : Int32) (a3 : Int32) (a4 : Int32) (a5 : Int32) : Option (c_G × Int32) :=
  if (fX11_isTape a1) = 0 then (some (g, (-1 : Int32))) else (if (fX11_isTape a3) = 0 then (some (g, (-1 : Int32))) else (if c_in (a1) (6) = true then if (g.1 10 (a1).toNatClampNeg) = (-5 : Int32) then (some (g, (-11 : Int32))) else (if c_in (a3) (6) = true then if (g.1 10 (a3).toNatClampNeg) = (-5 : Int32) then (some (g, (-11 : Int32))) else (if (g.1 10 (a1).toNatClampNeg) = (g.1 10 (a3).toNatClampNeg) then (if a5 < 0 then (some (g, (-13 : Int32))) else (if a2 < 0 then (some (g, (-13 : Int32))) else (if 0 ≤ a4 then (if ((g.1 11 (a1).toNatClampNeg) - a2) < a5 then (some (g, (-13 : Int32))) else (if a5 ≤ ((g.1 11 (a3).toNatClampNeg) - a4) then (if c_cp (a2) (a4) (a5) 60 60 = true then c_let (c_sq g (13 + (a3).toNatClampNeg) (va_cpy (g.2.1 (13 + (a1).toNatClampNeg)) (g.2.1 (13 + (a3).toNatClampNeg)) (a2).toNatClampNeg (a4).toNatClampNeg (a5).toNatClampNeg)) fun g14 => some (g14, a5) else none) else (some (g, (-13 : Int32))))) else (some (g, (-13 : Int32)))))) else (some (g, (-12 : Int32)))) else none) else none))
set_option maxRecDepth 100000 in
set_option maxHeartbeats 4000000 in
theorem kX11_shift {l : Launch} {D : va_G} {tc : Nat → ClassId} {ad : Nat → Nat} {A : Nat → Prop} {E : (Nat → Nat) × (Nat → Nat) × Nat} (hD : c_D A ad TC) {a1 : Int32} {a2 : Int32} {a3 : Int32} {a4 : Int32} {a5 : Int32} {g g' : c_G} {r : Int32} (hf : fX11_shift g a1 a2 a3 a4 a5 = some (g', r)) : c_Mi l yX11_shift wsX11_shift (c_rm 1) D tc ad A E TC ([.ref (ad 0), .int a1, .int a2, .int a3, .int a4, .int a5] : List Value) g g' r := by
  refine c_ofW (bytes := cX11_shift) (maxL := 6) (ret := (some .int)) (by decide) rfl (Nat.le_of_ble_eq_true rfl) ?_
  intro p e s m below meth c ls C hP hS hl
  unfold fX11_shift at hf
  obtain ⟨hx, hb, hr, hml, hts, hown, hlk, hK, hE⟩ := id C
  have hl : lv_has ls 6 [(0, .ref (ad 0)), (1, .int a1), (2, .int a2), (3, .int a3), (4, .int a4), (5, .int a5)] := hl
  refine lv_iload_n hx hb dX11_shift_0 rfl (lv_at hl 1 rfl) ?_
  refine c_goi (va_runS (As := [.int a1]) (rest := []) ⟨hx, hb, hml, hown, hts⟩ (kX11_isTape (T := TC) (g := g) rfl) (va_cwS 1 hts gX11_shift_X11_isTape rfl rfl rfl (by decide +kernel) ⟨Nat.le_of_ble_eq_true rfl, Nat.le_of_ble_eq_true rfl⟩) (c_preS hK hP hE hS) rfl rfl hl.1 rfl (lv_room (Nat.le_of_ble_eq_true rfl)) dX11_shift_1 ⟨Nat.zero_le _, Nat.zero_le _⟩) hS (fun H locs hP hS => ?_)
  refine lv_if_eq (tgt := 14) hx hb dX11_shift_4 (by decide) (fun c1 => ?_) (fun c1 => ?_)
  · have hf := c_it c1 hf
    refine lv_iconst (v := (-1 : Int32)) hx hb dX11_shift_14 (by decide) ?_
    exact c_iret hx hb hr hlk hP hS rfl (c_inj hf) dX11_shift_15
  · have hf := c_ie c1 hf
    refine lv_iload_n hx hb dX11_shift_7 rfl (lv_at hl 3 rfl) ?_
    refine c_goi (va_runS (As := [.int a3]) (rest := []) ⟨hx, hb, hml, hown, hts⟩ (kX11_isTape (T := TC) (g := g) rfl) (va_cwS 1 hts gX11_shift_X11_isTape rfl rfl rfl (by decide +kernel) ⟨Nat.le_of_ble_eq_true rfl, Nat.le_of_ble_eq_true rfl⟩) (c_preS hK hP hE hS) rfl rfl hl.1 rfl (lv_room (Nat.le_of_ble_eq_true rfl)) dX11_shift_8 ⟨Nat.zero_le _, Nat.zero_le _⟩) hS (fun H locs hP hS => ?_)
    refine lv_if_ne (tgt := 16) hx hb dX11_shift_11 (by decide) (fun c2 => ?_) (fun c2 => ?_)
    · have hf := c_ie c2 hf
      refine lv_aload_n hx hb dX11_shift_16 rfl (lv_at hl 0 rfl) ?_
      refine c_get hx hb hts i_X11_shift_X11 hown hK hP 0 tC0 rfl 16 (by decide) (hts _ (List.mem_of_getElem? (i := 1) rfl)) (fun _ h9 => h9) rfl (v := .ref (ad 10)) rfl dX11_shift_17 ?_
      refine lv_iload_n hx hb dX11_shift_20 rfl (lv_at hl 1 rfl) ?_
      obtain ⟨hi3, hf⟩ := c_gd hf
      refine c_iald (j := (a1).toNatClampNeg) hx hb hK hP 10 tC10 rfl (c_inV hi3) dX11_shift_21 ?_
      refine lv_bipush (v := (-5 : Int32)) hx hb dX11_shift_22 (by decide) ?_
      refine lv_icmp_eq (tgt := 38) hx hb dX11_shift_24 (by decide) (fun c4 => ?_) (fun c4 => ?_)
      · have hf := c_it c4 hf
        refine lv_bipush (v := (-11 : Int32)) hx hb dX11_shift_38 (by decide) ?_
        exact c_iret hx hb hr hlk hP hS rfl (c_inj hf) dX11_shift_40
      · have hf := c_ie c4 hf
        refine lv_aload_n hx hb dX11_shift_27 rfl (lv_at hl 0 rfl) ?_
        refine c_get hx hb hts i_X11_shift_X11 hown hK hP 0 tC0 rfl 16 (by decide) (hts _ (List.mem_of_getElem? (i := 1) rfl)) (fun _ h9 => h9) rfl (v := .ref (ad 10)) rfl dX11_shift_28 ?_
        refine lv_iload_n hx hb dX11_shift_31 rfl (lv_at hl 3 rfl) ?_
        obtain ⟨hi5, hf⟩ := c_gd hf
        refine c_iald (j := (a3).toNatClampNeg) hx hb hK hP 10 tC10 rfl (c_inV hi5) dX11_shift_32 ?_
        refine lv_bipush (v := (-5 : Int32)) hx hb dX11_shift_33 (by decide) ?_
        refine lv_icmp_ne (tgt := 41) hx hb dX11_shift_35 (by decide) (fun c6 => ?_) (fun c6 => ?_)
        · have hf := c_ie c6 hf
          refine lv_aload_n hx hb dX11_shift_41 rfl (lv_at hl 0 rfl) ?_
          refine c_get hx hb hts i_X11_shift_X11 hown hK hP 0 tC0 rfl 16 (by decide) (hts _ (List.mem_of_getElem? (i := 1) rfl)) (fun _ h9 => h9) rfl (v := .ref (ad 10)) rfl dX11_shift_42 ?_
          refine lv_iload_n hx hb dX11_shift_45 rfl (lv_at hl 1 rfl) ?_
          refine c_iald (j := (a1).toNatClampNeg) hx hb hK hP 10 tC10 rfl (c_inV hi3) dX11_shift_46 ?_
          refine lv_aload_n hx hb dX11_shift_47 rfl (lv_at hl 0 rfl) ?_
          refine c_get hx hb hts i_X11_shift_X11 hown hK hP 0 tC0 rfl 16 (by decide) (hts _ (List.mem_of_getElem? (i := 1) rfl)) (fun _ h9 => h9) rfl (v := .ref (ad 10)) rfl dX11_shift_48 ?_
          refine lv_iload_n hx hb dX11_shift_51 rfl (lv_at hl 3 rfl) ?_
          refine c_iald (j := (a3).toNatClampNeg) hx hb hK hP 10 tC10 rfl (c_inV hi5) dX11_shift_52 ?_
          refine lv_icmp_eq (tgt := 59) hx hb dX11_shift_53 (by decide) (fun c7 => ?_) (fun c7 => ?_)
          · have hf := c_it c7 hf
            refine lv_iload hx hb dX11_shift_59 (lv_at hl 5 rfl) ?_
            refine lv_if_lt (tgt := 73) hx hb dX11_shift_61 (by decide) (fun c8 => ?_) (fun c8 => ?_)
            · have hf := c_it c8 hf
              refine lv_bipush (v := (-13 : Int32)) hx hb dX11_shift_73 (by decide) ?_
              exact c_iret hx hb hr hlk hP hS rfl (c_inj hf) dX11_shift_75
            · have hf := c_ie c8 hf
              refine lv_iload_n hx hb dX11_shift_64 rfl (lv_at hl 2 rfl) ?_
              refine lv_if_lt (tgt := 73) hx hb dX11_shift_65 (by decide) (fun c9 => ?_) (fun c9 => ?_)
              · have hf := c_it c9 hf
                refine lv_bipush (v := (-13 : Int32)) hx hb dX11_shift_73 (by decide) ?_
                exact c_iret hx hb hr hlk hP hS rfl (c_inj hf) dX11_shift_75
              · have hf := c_ie c9 hf
                refine lv_iload hx hb dX11_shift_68 (lv_at hl 4 rfl) ?_
                refine lv_if_ge (tgt := 76) hx hb dX11_shift_70 (by decide) (fun c10 => ?_) (fun c10 => ?_)
                · have hf := c_it c10 hf
                  refine lv_iload hx hb dX11_shift_76 (lv_at hl 5 rfl) ?_
                  refine lv_aload_n hx hb dX11_shift_78 rfl (lv_at hl 0 rfl) ?_
                  refine c_get hx hb hts i_X11_shift_X11 hown hK hP 0 tC0 rfl 17 (by decide) (hts _ (List.mem_of_getElem? (i := 2) rfl)) (fun _ h9 => h9) rfl (v := .ref (ad 11)) rfl dX11_shift_79 ?_
                  refine lv_iload_n hx hb dX11_shift_82 rfl (lv_at hl 1 rfl) ?_
                  refine c_iald (j := (a1).toNatClampNeg) hx hb hK hP 11 tC11 rfl (c_inV hi3) dX11_shift_83 ?_
                  refine lv_iload_n hx hb dX11_shift_84 rfl (lv_at hl 2 rfl) ?_
                  refine lv_isub hx hb dX11_shift_85 ?_
                  refine lv_icmp_gt (tgt := 103) hx hb dX11_shift_86 (by decide) (fun c11 => ?_) (fun c11 => ?_)
                  · have hf := c_it c11 hf
                    refine lv_bipush (v := (-13 : Int32)) hx hb dX11_shift_103 (by decide) ?_
                    exact c_iret hx hb hr hlk hP hS rfl (c_inj hf) dX11_shift_105
                  · have hf := c_ie c11 hf
                    refine lv_iload hx hb dX11_shift_89 (lv_at hl 5 rfl) ?_
                    refine lv_aload_n hx hb dX11_shift_91 rfl (lv_at hl 0 rfl) ?_
                    refine c_get hx hb hts i_X11_shift_X11 hown hK hP 0 tC0 rfl 17 (by decide) (hts _ (List.mem_of_getElem? (i := 2) rfl)) (fun _ h9 => h9) rfl (v := .ref (ad 11)) rfl dX11_shift_92 ?_
                    refine lv_iload_n hx hb dX11_shift_95 rfl (lv_at hl 3 rfl) ?_
                    refine c_iald (j := (a3).toNatClampNeg) hx hb hK hP 11 tC11 rfl (c_inV hi5) dX11_shift_96 ?_
                    refine lv_iload hx hb dX11_shift_97 (lv_at hl 4 rfl) ?_
                    refine lv_isub hx hb dX11_shift_99 ?_
                    refine lv_icmp_le (tgt := 106) hx hb dX11_shift_100 (by decide) (fun c12 => ?_) (fun c12 => ?_)
                    · have hf := c_it c12 hf
                      refine lv_aload_n hx hb dX11_shift_106 rfl (lv_at hl 0 rfl) ?_
                      refine c_get hx hb hts i_X11_shift_X11 hown hK hP 0 tC0 rfl 18 (by decide) (hts _ (List.mem_of_getElem? (i := 3) rfl)) (fun _ h9 => h9) rfl (v := .ref (ad 12)) rfl dX11_shift_107 ?_
                      refine lv_iload_n hx hb dX11_shift_110 rfl (lv_at hl 1 rfl) ?_
                      refine c_aald7 hx hb hK hP 12 tC12 (c_inV hi3) (y := (13 + (a1).toNatClampNeg)) (c_tA (c_iN hi3)) dX11_shift_111 ?_
                      refine lv_iload_n hx hb dX11_shift_112 rfl (lv_at hl 2 rfl) ?_
                      refine lv_aload_n hx hb dX11_shift_113 rfl (lv_at hl 0 rfl) ?_
                      refine c_get hx hb hts i_X11_shift_X11 hown hK hP 0 tC0 rfl 18 (by decide) (hts _ (List.mem_of_getElem? (i := 3) rfl)) (fun _ h9 => h9) rfl (v := .ref (ad 12)) rfl dX11_shift_114 ?_
                      refine lv_iload_n hx hb dX11_shift_117 rfl (lv_at hl 3 rfl) ?_
                      refine c_aald7 hx hb hK hP 12 tC12 (c_inV hi5) (y := (13 + (a3).toNatClampNeg)) (c_tA (c_iN hi5)) dX11_shift_118 ?_
                      refine lv_iload hx hb dX11_shift_119 (lv_at hl 4 rfl) ?_
                      refine lv_iload hx hb dX11_shift_121 (lv_at hl 5 rfl) ?_
                      obtain ⟨hc13, hf⟩ := c_gd hf
                      obtain ⟨g14, eg14, hf⟩ := c_letE hf
                      refine c_copyl hx hb (hml.trans hl.1.symm) hown (hts _ (List.mem_of_getElem? (i := 4) rfl)) (hts _ (List.mem_of_getElem? (i := 5) rfl)) (hts _ (List.mem_of_getElem? (i := 6) rfl)) (hts _ (List.mem_of_getElem? (i := 7) rfl)) hK hP hD hS (13 + (a1).toNatClampNeg) (13 + (a3).toNatClampNeg) (c_tB (c_iN hi3)) (c_tB (c_iN hi5)) (c_cpE hc13).1 (c_cpE hc13).2.1 (c_cpE hc13).2.2.1 (c_cpE hc13).2.2.2.1 (c_cpE hc13).2.2.2.2 (Nat.le_of_ble_eq_true rfl) (Nat.le_of_ble_eq_true rfl) eg14 dX11_shift_123 (fun H locs hP hS => ?_)
                      refine lv_iload hx hb dX11_shift_126 (lv_at hl 5 rfl) ?_
                      exact c_iret hx hb hr hlk hP hS rfl (c_inj hf) dX11_shift_128
                    · have hf := c_ie c12 hf
                      refine lv_bipush (v := (-13 : Int32)) hx hb dX11_shift_103 (by decide) ?_
                      exact c_iret hx hb hr hlk hP hS rfl (c_inj hf) dX11_shift_105
                · have hf := c_ie c10 hf
                  refine lv_bipush (v := (-13 : Int32)) hx hb dX11_shift_73 (by decide) ?_
                  exact c_iret hx hb hr hlk hP hS rfl (c_inj hf) dX11_shift_75
          · have hf := c_ie c7 hf
            refine lv_bipush (v := (-12 : Int32)) hx hb dX11_shift_56 (by decide) ?_
            exact c_iret hx hb hr hlk hP hS rfl (c_inj hf) dX11_shift_58
        · have hf := c_it c6 hf
          refine lv_bipush (v := (-11 : Int32)) hx hb dX11_shift_38 (by decide) ?_
          exact c_iret hx hb hr hlk hP hS rfl (c_inj hf) dX11_shift_40
    · have hf := c_it c2 hf
      refine lv_iconst (v := (-1 : Int32)) hx hb dX11_shift_14 (by decide) ?_
      exact c_iret hx hb hr hlk hP hS rfl (c_inj hf) dX11_shift_15
