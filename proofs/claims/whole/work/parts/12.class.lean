theorem dX11_isDigit_0 : decode cX11_isDigit 0 = .ok (.iload_n 0, 1) := by decide +kernel
theorem dX11_isDigit_1 : decode cX11_isDigit 1 = .ok (.ifCond .lt 13, 3) := by decide +kernel
theorem dX11_isDigit_4 : decode cX11_isDigit 4 = .ok (.iload_n 0, 1) := by decide +kernel
theorem dX11_isDigit_5 : decode cX11_isDigit 5 = .ok (.bipush 9, 2) := by decide +kernel
theorem dX11_isDigit_7 : decode cX11_isDigit 7 = .ok (.if_icmp .gt 7, 3) := by decide +kernel
theorem dX11_isDigit_10 : decode cX11_isDigit 10 = .ok (.iconst 1, 1) := by decide +kernel
theorem dX11_isDigit_11 : decode cX11_isDigit 11 = .ok (.goto 4, 3) := by decide +kernel
theorem dX11_isDigit_14 : decode cX11_isDigit 14 = .ok (.iconst 0, 1) := by decide +kernel
theorem dX11_isDigit_15 : decode cX11_isDigit 15 = .ok (.ireturn, 1) := by decide +kernel
def fX11_isDigit (a1 : Int32) : Int32 :=
  if a1 < 0 then ((0 : Int32)) else (if (9 : Int32) < a1 then ((0 : Int32)) else ((1 : Int32)))
set_option maxRecDepth 100000 in
set_option maxHeartbeats 4000000 in
theorem kX11_isDigit {l : Launch} {D : va_G} {tc : Nat → ClassId} {ad : Nat → Nat} {A : Nat → Prop} {E : (Nat → Nat) × (Nat → Nat) × Nat} {T : List c_T} {a1 : Int32} {g : c_G} {r : Int32} (hf : fX11_isDigit a1 = r) : c_Mi l yX11_isDigit wsX11_isDigit (c_rm 0) D tc ad A E T ([.int a1] : List Value) g g r := by
  refine c_ofW (bytes := cX11_isDigit) (maxL := 1) (ret := (some .boolean)) (by decide) rfl (Nat.le_of_ble_eq_true rfl) ?_
  intro p e s m below meth c ls C hP hS hl
  unfold fX11_isDigit at hf
  obtain ⟨hx, hb, hr, hml, hts, hown, hlk, hK, hE⟩ := id C
  have hl : lv_has ls 1 [(0, .int a1)] := hl
  refine lv_iload_n hx hb dX11_isDigit_0 rfl (lv_at hl 0 rfl) ?_
  refine lv_if_lt (tgt := 14) hx hb dX11_isDigit_1 (by decide) (fun c1 => ?_) (fun c1 => ?_)
  · have hf := c_it c1 hf
    refine lv_iconst (v := (0 : Int32)) hx hb dX11_isDigit_14 (by decide) ?_
    exact c_iret hx hb hr hlk hP hS rfl ⟨rfl, hf⟩ dX11_isDigit_15
  · have hf := c_ie c1 hf
    refine lv_iload_n hx hb dX11_isDigit_4 rfl (lv_at hl 0 rfl) ?_
    refine lv_bipush (v := (9 : Int32)) hx hb dX11_isDigit_5 (by decide) ?_
    refine lv_icmp_gt (tgt := 14) hx hb dX11_isDigit_7 (by decide) (fun c2 => ?_) (fun c2 => ?_)
    · have hf := c_it c2 hf
      refine lv_iconst (v := (0 : Int32)) hx hb dX11_isDigit_14 (by decide) ?_
      exact c_iret hx hb hr hlk hP hS rfl ⟨rfl, hf⟩ dX11_isDigit_15
    · have hf := c_ie c2 hf
      refine lv_iconst (v := (1 : Int32)) hx hb dX11_isDigit_10 (by decide) ?_
      refine lv_goto (tgt := 15) hx hb dX11_isDigit_11 (by decide) ?_
      exact c_iret hx hb hr hlk hP hS rfl ⟨rfl, hf⟩ dX11_isDigit_15
theorem bX11_isDigit (a1 : Int32) : fX11_isDigit a1 = 0 ∨ fX11_isDigit a1 = 1 := by
  unfold fX11_isDigit
  first | (repeat' split) <;> first | exact Or.inl rfl | exact Or.inr rfl
theorem dX11_areWords_0 : decode cX11_areWords 0 = .ok (.iload_n 0, 1) := by decide +kernel
theorem dX11_areWords_1 : decode cX11_areWords 1 = .ok (.ifCond .lt 14, 3) := by decide +kernel
theorem dX11_areWords_4 : decode cX11_areWords 4 = .ok (.iload_n 0, 1) := by decide +kernel
theorem dX11_areWords_5 : decode cX11_areWords 5 = .ok (.sipush 4095, 3) := by decide +kernel
theorem dX11_areWords_8 : decode cX11_areWords 8 = .ok (.if_icmp .gt 7, 3) := by decide +kernel
theorem dX11_areWords_11 : decode cX11_areWords 11 = .ok (.iconst 1, 1) := by decide +kernel
theorem dX11_areWords_12 : decode cX11_areWords 12 = .ok (.goto 4, 3) := by decide +kernel
theorem dX11_areWords_15 : decode cX11_areWords 15 = .ok (.iconst 0, 1) := by decide +kernel
theorem dX11_areWords_16 : decode cX11_areWords 16 = .ok (.ireturn, 1) := by decide +kernel
def fX11_areWords (a1 : Int32) : Int32 :=
  if a1 < 0 then ((0 : Int32)) else (if (4095 : Int32) < a1 then ((0 : Int32)) else ((1 : Int32)))
set_option maxRecDepth 100000 in
set_option maxHeartbeats 4000000 in
theorem kX11_areWords {l : Launch} {D : va_G} {tc : Nat → ClassId} {ad : Nat → Nat} {A : Nat → Prop} {E : (Nat → Nat) × (Nat → Nat) × Nat} {T : List c_T} {a1 : Int32} {g : c_G} {r : Int32} (hf : fX11_areWords a1 = r) : c_Mi l yX11_areWords wsX11_areWords (c_rm 0) D tc ad A E T ([.int a1] : List Value) g g r := by
  refine c_ofW (bytes := cX11_areWords) (maxL := 1) (ret := (some .boolean)) (by decide) rfl (Nat.le_of_ble_eq_true rfl) ?_
  intro p e s m below meth c ls C hP hS hl
  unfold fX11_areWords at hf
  obtain ⟨hx, hb, hr, hml, hts, hown, hlk, hK, hE⟩ := id C
  have hl : lv_has ls 1 [(0, .int a1)] := hl
  refine lv_iload_n hx hb dX11_areWords_0 rfl (lv_at hl 0 rfl) ?_
  refine lv_if_lt (tgt := 15) hx hb dX11_areWords_1 (by decide) (fun c1 => ?_) (fun c1 => ?_)
  · have hf := c_it c1 hf
    refine lv_iconst (v := (0 : Int32)) hx hb dX11_areWords_15 (by decide) ?_
    exact c_iret hx hb hr hlk hP hS rfl ⟨rfl, hf⟩ dX11_areWords_16
  · have hf := c_ie c1 hf
    refine lv_iload_n hx hb dX11_areWords_4 rfl (lv_at hl 0 rfl) ?_
    refine lv_sipush (v := (4095 : Int32)) hx hb dX11_areWords_5 (by decide) ?_
    refine lv_icmp_gt (tgt := 15) hx hb dX11_areWords_8 (by decide) (fun c2 => ?_) (fun c2 => ?_)
    · have hf := c_it c2 hf
      refine lv_iconst (v := (0 : Int32)) hx hb dX11_areWords_15 (by decide) ?_
      exact c_iret hx hb hr hlk hP hS rfl ⟨rfl, hf⟩ dX11_areWords_16
    · have hf := c_ie c2 hf
      refine lv_iconst (v := (1 : Int32)) hx hb dX11_areWords_11 (by decide) ?_
      refine lv_goto (tgt := 16) hx hb dX11_areWords_12 (by decide) ?_
      exact c_iret hx hb hr hlk hP hS rfl ⟨rfl, hf⟩ dX11_areWords_16
theorem bX11_areWords (a1 : Int32) : fX11_areWords a1 = 0 ∨ fX11_areWords a1 = 1 := by
  unfold fX11_areWords
  first | (repeat' split) <;> first | exact Or.inl rfl | exact Or.inr rfl
theorem i_X11_child_X7 : ∀ w ∈ u_ws RX7 TX7 17, w ∈ wsX11_child := c_inP [41, 42, 43, 44, 45, 46, 47, 48, 49, 50, 51, 52, 53, 54, 55, 56, 57] (by decide +kernel)
theorem i_X11_child_X11 : ∀ w ∈ u_ws RX11 TX11 19, w ∈ wsX11_child := c_inP [22, 23, 24, 25, 26, 27, 28, 29, 30, 31, 32, 33, 34, 35, 36, 37, 38, 39, 40] (by decide +kernel)
theorem dX11_child_0 : decode cX11_child 0 = .ok (.iload_n 1, 1) := by decide +kernel
theorem dX11_child_1 : decode cX11_child 1 = .ok (.ifCond .lt 9, 3) := by decide +kernel
theorem dX11_child_4 : decode cX11_child 4 = .ok (.iload_n 1, 1) := by decide +kernel
theorem dX11_child_5 : decode cX11_child 5 = .ok (.bipush 7, 2) := by decide +kernel
theorem dX11_child_7 : decode cX11_child 7 = .ok (.if_icmp .lt 5, 3) := by decide +kernel
theorem dX11_child_10 : decode cX11_child 10 = .ok (.iconst (-1), 1) := by decide +kernel
theorem dX11_child_11 : decode cX11_child 11 = .ok (.ireturn, 1) := by decide +kernel
theorem dX11_child_12 : decode cX11_child 12 = .ok (.iload_n 2, 1) := by decide +kernel
theorem dX11_child_13 : decode cX11_child 13 = .ok (.invokestatic 102, 3) := by decide +kernel
theorem dX11_child_16 : decode cX11_child 16 = .ok (.ifCond .eq 10, 3) := by decide +kernel
theorem dX11_child_19 : decode cX11_child 19 = .ok (.iload_n 3, 1) := by decide +kernel
theorem dX11_child_20 : decode cX11_child 20 = .ok (.invokestatic 106, 3) := by decide +kernel
theorem dX11_child_23 : decode cX11_child 23 = .ok (.ifCond .ne 6, 3) := by decide +kernel
theorem dX11_child_26 : decode cX11_child 26 = .ok (.bipush (-2), 2) := by decide +kernel
theorem dX11_child_28 : decode cX11_child 28 = .ok (.ireturn, 1) := by decide +kernel
theorem dX11_child_29 : decode cX11_child 29 = .ok (.aload_n 0, 1) := by decide +kernel
theorem dX11_child_30 : decode cX11_child 30 = .ok (.getfield 86, 3) := by decide +kernel
theorem dX11_child_33 : decode cX11_child 33 = .ok (.getfield 109, 3) := by decide +kernel
theorem dX11_child_36 : decode cX11_child 36 = .ok (.bipush 6, 2) := by decide +kernel
theorem dX11_child_38 : decode cX11_child 38 = .ok (.if_icmp .lt 6, 3) := by decide +kernel
theorem dX11_child_41 : decode cX11_child 41 = .ok (.bipush (-4), 2) := by decide +kernel
theorem dX11_child_43 : decode cX11_child 43 = .ok (.ireturn, 1) := by decide +kernel
theorem dX11_child_44 : decode cX11_child 44 = .ok (.aload_n 0, 1) := by decide +kernel
theorem dX11_child_45 : decode cX11_child 45 = .ok (.getfield 86, 3) := by decide +kernel
theorem dX11_child_48 : decode cX11_child 48 = .ok (.iload_n 1, 1) := by decide +kernel
theorem dX11_child_49 : decode cX11_child 49 = .ok (.iload_n 2, 1) := by decide +kernel
theorem dX11_child_50 : decode cX11_child 50 = .ok (.iload_n 3, 1) := by decide +kernel
theorem dX11_child_51 : decode cX11_child 51 = .ok (.invokevirtual 113, 3) := by decide +kernel
theorem dX11_child_54 : decode cX11_child 54 = .ok (.ireturn, 1) := by decide +kernel
set_option maxRecDepth 20000 in
theorem ggX11_child_X11_isDigit : GoodIn wsX11_child wsX11_isDigit := goodIn_r _ [6] (by decide +kernel) (by decide +kernel)
set_option maxRecDepth 20000 in
theorem gX11_child_X11_isDigit : GoodIn wsX11_child (va_wsS RX11 102 yX11_isDigit wsX11_isDigit) := goodIn_app (goodIn_of _ (by decide +kernel)) ggX11_child_X11_isDigit
set_option maxRecDepth 20000 in
theorem ggX11_child_X11_areWords : GoodIn wsX11_child wsX11_areWords := goodIn_r _ [9] (by decide +kernel) (by decide +kernel)
set_option maxRecDepth 20000 in
theorem gX11_child_X11_areWords : GoodIn wsX11_child (va_wsS RX11 106 yX11_areWords wsX11_areWords) := goodIn_app (goodIn_of _ (by decide +kernel)) ggX11_child_X11_areWords
set_option maxRecDepth 20000 in
theorem ggX11_child_X7_addChild : GoodIn wsX11_child wsX7_addChild := goodIn_r _ [14, 15, 16, 17, 18, 19, 20, 21, 41, 42, 43, 44, 45, 46, 47, 48, 49, 50, 51, 52, 53, 54, 55, 56, 57] (by decide +kernel) (by decide +kernel)
set_option maxRecDepth 20000 in
theorem gX11_child_X7_addChild : GoodIn wsX11_child (wsV RX11 113 RX7 yX7_addChild wsX7_addChild) := goodIn_app (goodIn_of _ (by decide +kernel)) ggX11_child_X7_addChild
def fX11_child (g : c_G) (a1 : Int32) (a2 : Int32) (a3 : Int32) : Option (c_G × Int32) :=
  if a1 < 0 then (some (g, (-1 : Int32))) else (if a1 < (7 : Int32) then (if (fX11_isDigit a2) = 0 then (some (g, (-2 : Int32))) else (if (fX11_areWords a3) = 0 then (some (g, (-2 : Int32))) else (if (g.1 55 6) < (6 : Int32) then (c_b2 (fX7_addChild g 55 a1 a2 a3) fun g7 r8 => some (g7, r8)) else (some (g, (-4 : Int32)))))) else (some (g, (-1 : Int32))))
set_option maxRecDepth 100000 in
set_option maxHeartbeats 4000000 in
theorem kX11_child {l : Launch} {D : va_G} {tc : Nat → ClassId} {ad : Nat → Nat} {A : Nat → Prop} {E : (Nat → Nat) × (Nat → Nat) × Nat} (hD : c_D A ad TC) {a1 : Int32} {a2 : Int32} {a3 : Int32} {g g' : c_G} {r : Int32} (hf : fX11_child g a1 a2 a3 = some (g', r)) : c_Mi l yX11_child wsX11_child (c_rm 1) D tc ad A E TC ([.ref (ad 0), .int a1, .int a2, .int a3] : List Value) g g' r := by
  refine c_ofW (bytes := cX11_child) (maxL := 4) (ret := (some .int)) (by decide) rfl (Nat.le_of_ble_eq_true rfl) ?_
  intro p e s m below meth c ls C hP hS hl
  unfold fX11_child at hf
  obtain ⟨hx, hb, hr, hml, hts, hown, hlk, hK, hE⟩ := id C
  have hl : lv_has ls 4 [(0, .ref (ad 0)), (1, .int a1), (2, .int a2), (3, .int a3)] := hl
  refine lv_iload_n hx hb dX11_child_0 rfl (lv_at hl 1 rfl) ?_
  refine lv_if_lt (tgt := 10) hx hb dX11_child_1 (by decide) (fun c1 => ?_) (fun c1 => ?_)
  · have hf := c_it c1 hf
    refine lv_iconst (v := (-1 : Int32)) hx hb dX11_child_10 (by decide) ?_
    exact c_iret hx hb hr hlk hP hS rfl (c_inj hf) dX11_child_11
  · have hf := c_ie c1 hf
    refine lv_iload_n hx hb dX11_child_4 rfl (lv_at hl 1 rfl) ?_
    refine lv_bipush (v := (7 : Int32)) hx hb dX11_child_5 (by decide) ?_
    refine lv_icmp_lt (tgt := 12) hx hb dX11_child_7 (by decide) (fun c2 => ?_) (fun c2 => ?_)
    · have hf := c_it c2 hf
      refine lv_iload_n hx hb dX11_child_12 rfl (lv_at hl 2 rfl) ?_
      refine c_goi (va_runS (As := [.int a2]) (rest := []) ⟨hx, hb, hml, hown, hts⟩ (kX11_isDigit (T := TC) (g := g) rfl) (va_cwS 1 hts gX11_child_X11_isDigit rfl rfl rfl (by decide +kernel) ⟨Nat.le_of_ble_eq_true rfl, Nat.le_of_ble_eq_true rfl⟩) (c_preS hK hP hE hS) rfl rfl hl.1 rfl (lv_room (Nat.le_of_ble_eq_true rfl)) dX11_child_13 ⟨Nat.zero_le _, Nat.zero_le _⟩) hS (fun H locs hP hS => ?_)
      refine lv_if_eq (tgt := 26) hx hb dX11_child_16 (by decide) (fun c3 => ?_) (fun c3 => ?_)
      · have hf := c_it c3 hf
        refine lv_bipush (v := (-2 : Int32)) hx hb dX11_child_26 (by decide) ?_
        exact c_iret hx hb hr hlk hP hS rfl (c_inj hf) dX11_child_28
      · have hf := c_ie c3 hf
        refine lv_iload_n hx hb dX11_child_19 rfl (lv_at hl 3 rfl) ?_
        refine c_goi (va_runS (As := [.int a3]) (rest := []) ⟨hx, hb, hml, hown, hts⟩ (kX11_areWords (T := TC) (g := g) rfl) (va_cwS 1 hts gX11_child_X11_areWords rfl rfl rfl (by decide +kernel) ⟨Nat.le_of_ble_eq_true rfl, Nat.le_of_ble_eq_true rfl⟩) (c_preS hK hP hE hS) rfl rfl hl.1 rfl (lv_room (Nat.le_of_ble_eq_true rfl)) dX11_child_20 ⟨Nat.zero_le _, Nat.zero_le _⟩) hS (fun H locs hP hS => ?_)
        refine lv_if_ne (tgt := 29) hx hb dX11_child_23 (by decide) (fun c4 => ?_) (fun c4 => ?_)
        · have hf := c_ie c4 hf
          refine lv_aload_n hx hb dX11_child_29 rfl (lv_at hl 0 rfl) ?_
          refine c_get hx hb hts i_X11_child_X11 hown hK hP 0 tC0 rfl 5 (by decide) (hts _ (List.mem_of_getElem? (i := 1) rfl)) (fun _ h9 => h9) rfl (v := .ref (ad 55)) rfl dX11_child_30 ?_
          refine c_get hx hb hts i_X11_child_X7 hown hK hP 55 tC55 rfl 6 (by decide) (hts _ (List.mem_of_getElem? (i := 2) rfl)) (fun _ h9 => h9) rfl (v := .int (g.1 55 6)) rfl dX11_child_33 ?_
          refine lv_bipush (v := (6 : Int32)) hx hb dX11_child_36 (by decide) ?_
          refine lv_icmp_lt (tgt := 44) hx hb dX11_child_38 (by decide) (fun c5 => ?_) (fun c5 => ?_)
          · have hf := c_it c5 hf
            refine lv_aload_n hx hb dX11_child_44 rfl (lv_at hl 0 rfl) ?_
            refine c_get hx hb hts i_X11_child_X11 hown hK hP 0 tC0 rfl 5 (by decide) (hts _ (List.mem_of_getElem? (i := 1) rfl)) (fun _ h9 => h9) rfl (v := .ref (ad 55)) rfl dX11_child_45 ?_
            refine lv_iload_n hx hb dX11_child_48 rfl (lv_at hl 1 rfl) ?_
            refine lv_iload_n hx hb dX11_child_49 rfl (lv_at hl 2 rfl) ?_
            refine lv_iload_n hx hb dX11_child_50 rfl (lv_at hl 3 rfl) ?_
            obtain ⟨g7, r8, hc6, hf⟩ := c_b2E hf
            refine c_goi (va_runV (As := [.int a1, .int a2, .int a3]) (rest := []) ⟨hx, hb, hml, hown, hts⟩ (kX7_addChild hD hc6) (cwV 3 hts gX11_child_X7_addChild rfl rfl rfl (by decide +kernel) ⟨Nat.le_of_ble_eq_true rfl, Nat.le_of_ble_eq_true rfl⟩) (c_preV hK hP hE hS tC55 rfl) rfl rfl hl.1 rfl (lv_room (Nat.le_of_ble_eq_true rfl)) dX11_child_51 ⟨Nat.zero_le _, Nat.zero_le _⟩) hS (fun H locs hP hS => ?_)
            exact c_iret hx hb hr hlk hP hS rfl (c_inj hf) dX11_child_54
          · have hf := c_ie c5 hf
            refine lv_bipush (v := (-4 : Int32)) hx hb dX11_child_41 (by decide) ?_
            exact c_iret hx hb hr hlk hP hS rfl (c_inj hf) dX11_child_43
        · have hf := c_it c4 hf
          refine lv_bipush (v := (-2 : Int32)) hx hb dX11_child_26 (by decide) ?_
          exact c_iret hx hb hr hlk hP hS rfl (c_inj hf) dX11_child_28
    · have hf := c_ie c2 hf
      refine lv_iconst (v := (-1 : Int32)) hx hb dX11_child_10 (by decide) ?_
      exact c_iret hx hb hr hlk hP hS rfl (c_inj hf) dX11_child_11
theorem i_X11_isChild_X7 : ∀ w ∈ u_ws RX7 TX7 17, w ∈ wsX11_isChild := c_inP [22, 23, 24, 25, 26, 27, 28, 29, 30, 31, 32, 33, 34, 35, 36, 37, 38] (by decide +kernel)
theorem i_X11_isChild_X11 : ∀ w ∈ u_ws RX11 TX11 19, w ∈ wsX11_isChild := c_inP [3, 4, 5, 6, 7, 8, 9, 10, 11, 12, 13, 14, 15, 16, 17, 18, 19, 20, 21] (by decide +kernel)
theorem dX11_isChild_0 : decode cX11_isChild 0 = .ok (.iload_n 1, 1) := by decide +kernel
theorem dX11_isChild_1 : decode cX11_isChild 1 = .ok (.ifCond .lt 18, 3) := by decide +kernel
theorem dX11_isChild_4 : decode cX11_isChild 4 = .ok (.iload_n 1, 1) := by decide +kernel
theorem dX11_isChild_5 : decode cX11_isChild 5 = .ok (.aload_n 0, 1) := by decide +kernel
theorem dX11_isChild_6 : decode cX11_isChild 6 = .ok (.getfield 86, 3) := by decide +kernel
theorem dX11_isChild_9 : decode cX11_isChild 9 = .ok (.getfield 109, 3) := by decide +kernel
theorem dX11_isChild_12 : decode cX11_isChild 12 = .ok (.if_icmp .ge 7, 3) := by decide +kernel
theorem dX11_isChild_15 : decode cX11_isChild 15 = .ok (.iconst 1, 1) := by decide +kernel
theorem dX11_isChild_16 : decode cX11_isChild 16 = .ok (.goto 4, 3) := by decide +kernel
theorem dX11_isChild_19 : decode cX11_isChild 19 = .ok (.iconst 0, 1) := by decide +kernel
theorem dX11_isChild_20 : decode cX11_isChild 20 = .ok (.ireturn, 1) := by decide +kernel
def fX11_isChild (g : c_G) (a1 : Int32) : Option (Int32) :=
  if a1 < 0 then (some (0 : Int32)) else (if (g.1 55 6) ≤ a1 then (some (0 : Int32)) else (some (1 : Int32)))
set_option maxRecDepth 100000 in
set_option maxHeartbeats 4000000 in
theorem kX11_isChild {l : Launch} {D : va_G} {tc : Nat → ClassId} {ad : Nat → Nat} {A : Nat → Prop} {E : (Nat → Nat) × (Nat → Nat) × Nat} (hD : c_D A ad TC) {a1 : Int32} {g : c_G} {r : Int32} (hf : fX11_isChild g a1 = some r) : c_Mi l yX11_isChild wsX11_isChild (c_rm 0) D tc ad A E TC ([.ref (ad 0), .int a1] : List Value) g g r := by
  refine c_ofW (bytes := cX11_isChild) (maxL := 2) (ret := (some .boolean)) (by decide) rfl (Nat.le_of_ble_eq_true rfl) ?_
  intro p e s m below meth c ls C hP hS hl
  unfold fX11_isChild at hf
  obtain ⟨hx, hb, hr, hml, hts, hown, hlk, hK, hE⟩ := id C
  have hl : lv_has ls 2 [(0, .ref (ad 0)), (1, .int a1)] := hl
  refine lv_iload_n hx hb dX11_isChild_0 rfl (lv_at hl 1 rfl) ?_
  refine lv_if_lt (tgt := 19) hx hb dX11_isChild_1 (by decide) (fun c1 => ?_) (fun c1 => ?_)
  · have hf := c_it c1 hf
    refine lv_iconst (v := (0 : Int32)) hx hb dX11_isChild_19 (by decide) ?_
    exact c_iret hx hb hr hlk hP hS rfl ⟨rfl, Option.some.inj hf⟩ dX11_isChild_20
  · have hf := c_ie c1 hf
    refine lv_iload_n hx hb dX11_isChild_4 rfl (lv_at hl 1 rfl) ?_
    refine lv_aload_n hx hb dX11_isChild_5 rfl (lv_at hl 0 rfl) ?_
    refine c_get hx hb hts i_X11_isChild_X11 hown hK hP 0 tC0 rfl 5 (by decide) (hts _ (List.mem_of_getElem? (i := 1) rfl)) (fun _ h9 => h9) rfl (v := .ref (ad 55)) rfl dX11_isChild_6 ?_
    refine c_get hx hb hts i_X11_isChild_X7 hown hK hP 55 tC55 rfl 6 (by decide) (hts _ (List.mem_of_getElem? (i := 2) rfl)) (fun _ h9 => h9) rfl (v := .int (g.1 55 6)) rfl dX11_isChild_9 ?_
    refine lv_icmp_ge (tgt := 19) hx hb dX11_isChild_12 (by decide) (fun c2 => ?_) (fun c2 => ?_)
    · have hf := c_it c2 hf
      refine lv_iconst (v := (0 : Int32)) hx hb dX11_isChild_19 (by decide) ?_
      exact c_iret hx hb hr hlk hP hS rfl ⟨rfl, Option.some.inj hf⟩ dX11_isChild_20
    · have hf := c_ie c2 hf
      refine lv_iconst (v := (1 : Int32)) hx hb dX11_isChild_15 (by decide) ?_
      refine lv_goto (tgt := 20) hx hb dX11_isChild_16 (by decide) ?_
      exact c_iret hx hb hr hlk hP hS rfl ⟨rfl, Option.some.inj hf⟩ dX11_isChild_20
theorem i_X11_weigh_X7 : ∀ w ∈ u_ws RX7 TX7 17, w ∈ wsX11_weigh := c_inP [81, 82, 83, 84, 85, 86, 87, 88, 89, 90, 91, 92, 93, 94, 95, 96, 97] (by decide +kernel)
theorem i_X11_weigh_X11 : ∀ w ∈ u_ws RX11 TX11 19, w ∈ wsX11_weigh := c_inP [62, 63, 64, 65, 66, 67, 68, 69, 70, 71, 72, 73, 74, 75, 76, 77, 78, 79, 80] (by decide +kernel)
theorem dX11_weigh_0 : decode cX11_weigh 0 = .ok (.aload_n 0, 1) := by decide +kernel
theorem dX11_weigh_1 : decode cX11_weigh 1 = .ok (.getfield 76, 3) := by decide +kernel
theorem dX11_weigh_4 : decode cX11_weigh 4 = .ok (.aload_n 1, 1) := by decide +kernel
theorem dX11_weigh_5 : decode cX11_weigh 5 = .ok (.getfield 120, 3) := by decide +kernel
theorem dX11_weigh_8 : decode cX11_weigh 8 = .ok (.iload_n 2, 1) := by decide +kernel
theorem dX11_weigh_9 : decode cX11_weigh 9 = .ok (.iaload, 1) := by decide +kernel
theorem dX11_weigh_10 : decode cX11_weigh 10 = .ok (.aaload, 1) := by decide +kernel
theorem dX11_weigh_11 : decode cX11_weigh 11 = .ok (.astore 5, 2) := by decide +kernel
theorem dX11_weigh_13 : decode cX11_weigh 13 = .ok (.aload_n 0, 1) := by decide +kernel
theorem dX11_weigh_14 : decode cX11_weigh 14 = .ok (.getfield 21, 3) := by decide +kernel
theorem dX11_weigh_17 : decode cX11_weigh 17 = .ok (.iconst 0, 1) := by decide +kernel
theorem dX11_weigh_18 : decode cX11_weigh 18 = .ok (.iload_n 2, 1) := by decide +kernel
theorem dX11_weigh_19 : decode cX11_weigh 19 = .ok (.iastore, 1) := by decide +kernel
theorem dX11_weigh_20 : decode cX11_weigh 20 = .ok (.aload_n 0, 1) := by decide +kernel
theorem dX11_weigh_21 : decode cX11_weigh 21 = .ok (.getfield 21, 3) := by decide +kernel
theorem dX11_weigh_24 : decode cX11_weigh 24 = .ok (.iconst 1, 1) := by decide +kernel
theorem dX11_weigh_25 : decode cX11_weigh 25 = .ok (.aload_n 1, 1) := by decide +kernel
theorem dX11_weigh_26 : decode cX11_weigh 26 = .ok (.getfield 120, 3) := by decide +kernel
theorem dX11_weigh_29 : decode cX11_weigh 29 = .ok (.iload_n 2, 1) := by decide +kernel
theorem dX11_weigh_30 : decode cX11_weigh 30 = .ok (.iaload, 1) := by decide +kernel
theorem dX11_weigh_31 : decode cX11_weigh 31 = .ok (.iastore, 1) := by decide +kernel
theorem dX11_weigh_32 : decode cX11_weigh 32 = .ok (.aload_n 0, 1) := by decide +kernel
theorem dX11_weigh_33 : decode cX11_weigh 33 = .ok (.getfield 21, 3) := by decide +kernel
theorem dX11_weigh_36 : decode cX11_weigh 36 = .ok (.iconst 2, 1) := by decide +kernel
theorem dX11_weigh_37 : decode cX11_weigh 37 = .ok (.iload_n 3, 1) := by decide +kernel
theorem dX11_weigh_38 : decode cX11_weigh 38 = .ok (.iastore, 1) := by decide +kernel
theorem dX11_weigh_39 : decode cX11_weigh 39 = .ok (.aload_n 0, 1) := by decide +kernel
theorem dX11_weigh_40 : decode cX11_weigh 40 = .ok (.getfield 21, 3) := by decide +kernel
theorem dX11_weigh_43 : decode cX11_weigh 43 = .ok (.iconst 4, 1) := by decide +kernel
theorem dX11_weigh_44 : decode cX11_weigh 44 = .ok (.aload_n 1, 1) := by decide +kernel
theorem dX11_weigh_45 : decode cX11_weigh 45 = .ok (.getfield 146, 3) := by decide +kernel
theorem dX11_weigh_48 : decode cX11_weigh 48 = .ok (.iload 4, 2) := by decide +kernel
theorem dX11_weigh_50 : decode cX11_weigh 50 = .ok (.iaload, 1) := by decide +kernel
theorem dX11_weigh_51 : decode cX11_weigh 51 = .ok (.iastore, 1) := by decide +kernel
theorem dX11_weigh_52 : decode cX11_weigh 52 = .ok (.aload_n 0, 1) := by decide +kernel
theorem dX11_weigh_53 : decode cX11_weigh 53 = .ok (.getfield 21, 3) := by decide +kernel
theorem dX11_weigh_56 : decode cX11_weigh 56 = .ok (.iconst 5, 1) := by decide +kernel
theorem dX11_weigh_57 : decode cX11_weigh 57 = .ok (.aload_n 1, 1) := by decide +kernel
theorem dX11_weigh_58 : decode cX11_weigh 58 = .ok (.getfield 129, 3) := by decide +kernel
theorem dX11_weigh_61 : decode cX11_weigh 61 = .ok (.iload_n 2, 1) := by decide +kernel
theorem dX11_weigh_62 : decode cX11_weigh 62 = .ok (.iaload, 1) := by decide +kernel
theorem dX11_weigh_63 : decode cX11_weigh 63 = .ok (.bipush 10, 2) := by decide +kernel
theorem dX11_weigh_65 : decode cX11_weigh 65 = .ok (.irem, 1) := by decide +kernel
theorem dX11_weigh_66 : decode cX11_weigh 66 = .ok (.iastore, 1) := by decide +kernel
theorem dX11_weigh_67 : decode cX11_weigh 67 = .ok (.aload_n 0, 1) := by decide +kernel
theorem dX11_weigh_68 : decode cX11_weigh 68 = .ok (.getfield 21, 3) := by decide +kernel
theorem dX11_weigh_71 : decode cX11_weigh 71 = .ok (.bipush 6, 2) := by decide +kernel
theorem dX11_weigh_73 : decode cX11_weigh 73 = .ok (.aload_n 1, 1) := by decide +kernel
theorem dX11_weigh_74 : decode cX11_weigh 74 = .ok (.getfield 129, 3) := by decide +kernel
theorem dX11_weigh_77 : decode cX11_weigh 77 = .ok (.iload_n 2, 1) := by decide +kernel
theorem dX11_weigh_78 : decode cX11_weigh 78 = .ok (.iaload, 1) := by decide +kernel
theorem dX11_weigh_79 : decode cX11_weigh 79 = .ok (.iastore, 1) := by decide +kernel
theorem dX11_weigh_80 : decode cX11_weigh 80 = .ok (.iconst 0, 1) := by decide +kernel
theorem dX11_weigh_81 : decode cX11_weigh 81 = .ok (.istore 6, 2) := by decide +kernel
theorem dX11_weigh_83 : decode cX11_weigh 83 = .ok (.iload 6, 2) := by decide +kernel
theorem dX11_weigh_85 : decode cX11_weigh 85 = .ok (.bipush 12, 2) := by decide +kernel
theorem dX11_weigh_87 : decode cX11_weigh 87 = .ok (.if_icmp .ge 72, 3) := by decide +kernel
theorem dX11_weigh_90 : decode cX11_weigh 90 = .ok (.aload_n 0, 1) := by decide +kernel
theorem dX11_weigh_91 : decode cX11_weigh 91 = .ok (.getfield 21, 3) := by decide +kernel
theorem dX11_weigh_94 : decode cX11_weigh 94 = .ok (.iconst 3, 1) := by decide +kernel
theorem dX11_weigh_95 : decode cX11_weigh 95 = .ok (.iload 6, 2) := by decide +kernel
theorem dX11_weigh_97 : decode cX11_weigh 97 = .ok (.iastore, 1) := by decide +kernel
theorem dX11_weigh_98 : decode cX11_weigh 98 = .ok (.aload_n 0, 1) := by decide +kernel
theorem dX11_weigh_99 : decode cX11_weigh 99 = .ok (.getfield 21, 3) := by decide +kernel
theorem dX11_weigh_102 : decode cX11_weigh 102 = .ok (.bipush 7, 2) := by decide +kernel
theorem dX11_weigh_104 : decode cX11_weigh 104 = .ok (.aload_n 1, 1) := by decide +kernel
theorem dX11_weigh_105 : decode cX11_weigh 105 = .ok (.getfield 180, 3) := by decide +kernel
theorem dX11_weigh_108 : decode cX11_weigh 108 = .ok (.iload_n 2, 1) := by decide +kernel
theorem dX11_weigh_109 : decode cX11_weigh 109 = .ok (.iconst 4, 1) := by decide +kernel
theorem dX11_weigh_110 : decode cX11_weigh 110 = .ok (.imul, 1) := by decide +kernel
theorem dX11_weigh_111 : decode cX11_weigh 111 = .ok (.iload 6, 2) := by decide +kernel
theorem dX11_weigh_113 : decode cX11_weigh 113 = .ok (.iconst 4, 1) := by decide +kernel
theorem dX11_weigh_114 : decode cX11_weigh 114 = .ok (.irem, 1) := by decide +kernel
theorem dX11_weigh_115 : decode cX11_weigh 115 = .ok (.iadd, 1) := by decide +kernel
theorem dX11_weigh_116 : decode cX11_weigh 116 = .ok (.iaload, 1) := by decide +kernel
theorem dX11_weigh_117 : decode cX11_weigh 117 = .ok (.iastore, 1) := by decide +kernel
theorem dX11_weigh_118 : decode cX11_weigh 118 = .ok (.aload_n 0, 1) := by decide +kernel
theorem dX11_weigh_119 : decode cX11_weigh 119 = .ok (.getfield 25, 3) := by decide +kernel
theorem dX11_weigh_122 : decode cX11_weigh 122 = .ok (.iload 6, 2) := by decide +kernel
theorem dX11_weigh_124 : decode cX11_weigh 124 = .ok (.aload 5, 2) := by decide +kernel
theorem dX11_weigh_126 : decode cX11_weigh 126 = .ok (.aload_n 1, 1) := by decide +kernel
theorem dX11_weigh_127 : decode cX11_weigh 127 = .ok (.getfield 146, 3) := by decide +kernel
theorem dX11_weigh_130 : decode cX11_weigh 130 = .ok (.iload 4, 2) := by decide +kernel
theorem dX11_weigh_132 : decode cX11_weigh 132 = .ok (.iaload, 1) := by decide +kernel
theorem dX11_weigh_133 : decode cX11_weigh 133 = .ok (.aload_n 1, 1) := by decide +kernel
theorem dX11_weigh_134 : decode cX11_weigh 134 = .ok (.getfield 193, 3) := by decide +kernel
theorem dX11_weigh_137 : decode cX11_weigh 137 = .ok (.aload_n 0, 1) := by decide +kernel
theorem dX11_weigh_138 : decode cX11_weigh 138 = .ok (.getfield 21, 3) := by decide +kernel
theorem dX11_weigh_141 : decode cX11_weigh 141 = .ok (.invokevirtual 322, 3) := by decide +kernel
theorem dX11_weigh_144 : decode cX11_weigh 144 = .ok (.iadd, 1) := by decide +kernel
theorem dX11_weigh_145 : decode cX11_weigh 145 = .ok (.aload_n 0, 1) := by decide +kernel
theorem dX11_weigh_146 : decode cX11_weigh 146 = .ok (.getfield 21, 3) := by decide +kernel
theorem dX11_weigh_149 : decode cX11_weigh 149 = .ok (.invokevirtual 326, 3) := by decide +kernel
theorem dX11_weigh_152 : decode cX11_weigh 152 = .ok (.iastore, 1) := by decide +kernel
theorem dX11_weigh_153 : decode cX11_weigh 153 = .ok (.iinc 6 1, 3) := by decide +kernel
theorem dX11_weigh_156 : decode cX11_weigh 156 = .ok (.goto (-73), 3) := by decide +kernel
theorem dX11_weigh_159 : decode cX11_weigh 159 = .ok (.return_, 1) := by decide +kernel
set_option maxRecDepth 20000 in
theorem ggX11_weigh_X10_weight : GoodIn wsX11_weigh wsX10_weight := goodIn_r _ [13, 14, 15, 16, 17, 18, 19, 12, 20, 98, 99, 100, 101, 102, 103, 104, 105] (by decide +kernel) (by decide +kernel)
set_option maxRecDepth 20000 in
theorem gX11_weigh_X10_weight : GoodIn wsX11_weigh (wsV RX11 322 RX10 yX10_weight wsX10_weight) := goodIn_app (goodIn_of _ (by decide +kernel)) ggX11_weigh_X10_weight
set_option maxRecDepth 20000 in
theorem ggX11_weigh_X1_fit : GoodIn wsX11_weigh wsX1_fit := goodIn_r _ [27] (by decide +kernel) (by decide +kernel)
set_option maxRecDepth 20000 in
theorem gX11_weigh_X1_fit_u326X1 : GoodIn wsX11_weigh (va_wsO RX11 326 RX1 "NamingElders$Child" ⟨"NamingElders$Child", "fit", "(I[I)I"⟩ yX1_fit wsX1_fit) := goodIn_app (goodIn_of _ (by decide +kernel)) ggX11_weigh_X1_fit
set_option maxRecDepth 20000 in
theorem ggX11_weigh_X2_fit : GoodIn wsX11_weigh wsX2_fit := goodIn_r _ [28] (by decide +kernel) (by decide +kernel)
set_option maxRecDepth 20000 in
theorem gX11_weigh_X2_fit : GoodIn wsX11_weigh (wsV RX11 326 RX2 yX2_fit wsX2_fit) := goodIn_app (goodIn_of _ (by decide +kernel)) ggX11_weigh_X2_fit
set_option maxRecDepth 20000 in
theorem ggX11_weigh_X3_fit : GoodIn wsX11_weigh wsX3_fit := goodIn_r _ [36, 37, 38, 39, 25, 26, 27] (by decide +kernel) (by decide +kernel)
set_option maxRecDepth 20000 in
theorem gX11_weigh_X3_fit_u326X3 : GoodIn wsX11_weigh (va_wsO RX11 326 RX3 "NamingElders$Child" ⟨"NamingElders$Child", "fit", "(I[I)I"⟩ yX3_fit wsX3_fit) := goodIn_app (goodIn_of _ (by decide +kernel)) ggX11_weigh_X3_fit
set_option maxRecDepth 20000 in
theorem ggX11_weigh_X4_fit : GoodIn wsX11_weigh wsX4_fit := goodIn_r _ [43, 44, 45, 46, 47, 48, 49] (by decide +kernel) (by decide +kernel)
set_option maxRecDepth 20000 in
theorem gX11_weigh_X4_fit_u326X4 : GoodIn wsX11_weigh (va_wsO RX11 326 RX4 "NamingElders$Child" ⟨"NamingElders$Child", "fit", "(I[I)I"⟩ yX4_fit wsX4_fit) := goodIn_app (goodIn_of _ (by decide +kernel)) ggX11_weigh_X4_fit
set_option maxRecDepth 20000 in
theorem ggX11_weigh_X6_fit : GoodIn wsX11_weigh wsX6_fit := goodIn_r _ [53] (by decide +kernel) (by decide +kernel)
set_option maxRecDepth 20000 in
theorem gX11_weigh_X6_fit_u326X6 : GoodIn wsX11_weigh (va_wsO RX11 326 RX6 "NamingElders$Child" ⟨"NamingElders$Child", "fit", "(I[I)I"⟩ yX6_fit wsX6_fit) := goodIn_app (goodIn_of _ (by decide +kernel)) ggX11_weigh_X6_fit
set_option maxRecDepth 20000 in
theorem ggX11_weigh_X8_fit : GoodIn wsX11_weigh wsX8_fit := goodIn_r _ [57, 58, 59, 60, 51, 52, 53] (by decide +kernel) (by decide +kernel)
set_option maxRecDepth 20000 in
theorem gX11_weigh_X8_fit_u326X8 : GoodIn wsX11_weigh (va_wsO RX11 326 RX8 "NamingElders$Child" ⟨"NamingElders$Child", "fit", "(I[I)I"⟩ yX8_fit wsX8_fit) := goodIn_app (goodIn_of _ (by decide +kernel)) ggX11_weigh_X8_fit
set_option maxRecDepth 20000 in
theorem ggX11_weigh_X9_fit : GoodIn wsX11_weigh wsX9_fit := goodIn_r _ [49] (by decide +kernel) (by decide +kernel)
set_option maxRecDepth 20000 in
theorem gX11_weigh_X9_fit_u326X9 : GoodIn wsX11_weigh (va_wsO RX11 326 RX9 "NamingElders$Child" ⟨"NamingElders$Child", "fit", "(I[I)I"⟩ yX9_fit wsX9_fit) := goodIn_app (goodIn_of _ (by decide +kernel)) ggX11_weigh_X9_fit
def fX11_weigh_83  (a1 : Nat) (a2 : Int32) (a3 : Int32) (a4 : Int32) : Nat → Int32 → Int32 → Nat → Int32 → c_G → Option (c_G)
  | 0, _, _, _, _, _ => none
  | n + 1, x2, x4, x5, x6, g => if (12 : Int32) ≤ x6 then (some g) else (c_let (c_si g 3 3 x6) fun g83002 => if c_in (((x2 * (4 : Int32)) + (x6 - x6 / (4 : Int32) * (4 : Int32)))) (24) = true then c_let (c_si g83002 3 7 (g83002.1 (a1 + 10) (((x2 * (4 : Int32)) + (x6 - x6 / (4 : Int32) * (4 : Int32)))).toNatClampNeg)) fun g83004 => if c_in (x4) (6) = true then (fX10_weight g83004 ((g83004.2.2 a1))).bind fun r83006 => if c_isV ((g83004.2.2 a1)) = true then (v_fit g83004 x5 (((g83004.1 (a1 + 1) (x4).toNatClampNeg) + r83006))).bind fun r83009 => if c_in (x6) (12) = true then c_let (c_si g83004 4 (x6).toNatClampNeg r83009) fun g83012 => c_let (x6 + (1 : Int32)) fun v83013 => (fX11_weigh_83 a1 a2 a3 a4 n) x2 x4 x5 v83013 g83012 else none else none else none else none)
set_option maxRecDepth 100000 in
set_option maxHeartbeats 4000000 in
theorem jX11_weigh_83 {p : Program} {l : Launch} {e : Env} {s : State} {m : MethodId} {below : List Frame} {meth : Method} {c : Code} {D : va_G} {tc : Nat → ClassId} {ad : Nat → Nat} {A : Nat → Prop} {E : (Nat → Nat) × (Nat → Nat) × Nat} {a1 : Nat} {a2 : Int32} {a3 : Int32} {a4 : Int32} {g' : c_G} (C : c_C p s m meth c D tc A E RX11 wsX11_weigh cX11_weigh 7 none ([.ref (ad 0), .ref (ad a1), .int a2, .int a3, .int a4] : List Value).toArray) (hD : c_D A ad TC) (hq_a1 : c_isS a1 = true)  : ∀ (n : Nat) (x2 : Int32) (x4 : Int32) (x5 : Nat) (x6 : Int32) (g : c_G), fX11_weigh_83 a1 a2 a3 a4 n x2 x4 x5 x6 g = some g' → ∀ (H : Heap) (locs : List Loc), va_P D vwCl (c_ws tc ad TC g) H → va_S A s.heap H locs → ∀ ls : Array Slot, lv_has ls 7 [(0, .ref (ad 0)), (1, .ref (ad a1)), (2, .int x2), (4, .int x4), (5, .ref (ad x5)), (6, .int x6)] → W p l e (c_rm 2) s m ([.ref (ad 0), .ref (ad a1), .int a2, .int a3, .int a4] : List Value).toArray below meth c H locs 0 0 (MQ below (va_Qv (fun (_ : Unit) => True) (fun _ t => va_P D vwCl (c_ws tc ad TC g') t.heap) A) ([.ref (ad 0), .ref (ad a1), .int a2, .int a3, .int a4] : List Value).toArray s 0 0 A) (F0 m 83 ls []) := by
  obtain ⟨hx, hb, hr, hml, hts, hown, hlk, hK, hE⟩ := id C
  obtain ⟨fa1_0, fa1_1, fa1_2, fa1_3, fa1_4, fa1_5, fa1_6, fa1_7, fa1_8, fa1_9, fa1_10, fa1_11, fa1_12, fa1_13⟩ := c_isSE hq_a1
  intro n
  induction n with
  | zero =>
    intro x2 x4 x5 x6 g hf
    cases hf
  | succ n ih =>
    intro x2 x4 x5 x6 g hf H locs hP hS ls hl
    unfold fX11_weigh_83 at hf
    refine lv_iload hx hb dX11_weigh_83 (lv_at hl 5 rfl) ?_
    refine lv_bipush (v := (12 : Int32)) hx hb dX11_weigh_85 (by decide) ?_
    refine lv_icmp_ge (tgt := 159) hx hb dX11_weigh_87 (by decide) (fun c83001 => ?_) (fun c83001 => ?_)
    · have hf := c_it c83001 hf
      exact c_vret hx hb hr hlk hP hS (Option.some.inj hf) dX11_weigh_159
    · have hf := c_ie c83001 hf
      refine lv_aload_n hx hb dX11_weigh_90 rfl (lv_at hl 0 rfl) ?_
      refine c_get hx hb hts i_X11_weigh_X11 hown hK hP 0 tC0 rfl 9 (by decide) (hts _ (List.mem_of_getElem? (i := 3) rfl)) (fun _ h9 => h9) rfl (v := .ref (ad 3)) rfl dX11_weigh_91 ?_
      refine lv_iconst (v := (3 : Int32)) hx hb dX11_weigh_94 (by decide) ?_
      refine lv_iload hx hb dX11_weigh_95 (lv_at hl 5 rfl) ?_
      obtain ⟨g83002, eg83002, hf⟩ := c_letE hf
      refine c_iast (j := 3) hx hb hK hP hD hS 3 tC3 (by decide) (c_inV (by decide)) eg83002 dX11_weigh_97 (fun H locs hP hS => ?_)
      refine lv_aload_n hx hb dX11_weigh_98 rfl (lv_at hl 0 rfl) ?_
      refine c_get hx hb hts i_X11_weigh_X11 hown hK hP 0 tC0 rfl 9 (by decide) (hts _ (List.mem_of_getElem? (i := 3) rfl)) (fun _ h9 => h9) rfl (v := .ref (ad 3)) rfl dX11_weigh_99 ?_
      refine lv_bipush (v := (7 : Int32)) hx hb dX11_weigh_102 (by decide) ?_
      refine lv_aload_n hx hb dX11_weigh_104 rfl (lv_at hl 1 rfl) ?_
      refine c_get hx hb hts i_X11_weigh_X7 hown hK hP a1 fa1_0 rfl 12 (by decide) (hts _ (List.mem_of_getElem? (i := 6) rfl)) (fun _ h9 => h9) rfl (v := .ref (ad (a1 + 10))) rfl dX11_weigh_105 ?_
      refine lv_iload_n hx hb dX11_weigh_108 rfl (lv_at hl 2 rfl) ?_
      refine lv_iconst (v := (4 : Int32)) hx hb dX11_weigh_109 (by decide) ?_
      refine lv_imul hx hb dX11_weigh_110 ?_
      refine lv_iload hx hb dX11_weigh_111 (lv_at hl 5 rfl) ?_
      refine lv_iconst (v := (4 : Int32)) hx hb dX11_weigh_113 (by decide) ?_
      refine lv_irem hx hb dX11_weigh_114 (by decide) ?_
      refine lv_iadd hx hb dX11_weigh_115 ?_
      obtain ⟨hi83003, hf⟩ := c_gd hf
      refine c_iald (j := (((x2 * (4 : Int32)) + (x6 - x6 / (4 : Int32) * (4 : Int32)))).toNatClampNeg) hx hb hK hP (a1 + 10) fa1_10 rfl (c_inV hi83003) dX11_weigh_116 ?_
      obtain ⟨g83004, eg83004, hf⟩ := c_letE hf
      refine c_iast (j := 7) hx hb hK hP hD hS 3 tC3 (by decide) (c_inV (by decide)) eg83004 dX11_weigh_117 (fun H locs hP hS => ?_)
      refine lv_aload_n hx hb dX11_weigh_118 rfl (lv_at hl 0 rfl) ?_
      refine c_get hx hb hts i_X11_weigh_X11 hown hK hP 0 tC0 rfl 10 (by decide) (hts _ (List.mem_of_getElem? (i := 7) rfl)) (fun _ h9 => h9) rfl (v := .ref (ad 4)) rfl dX11_weigh_119 ?_
      refine lv_iload hx hb dX11_weigh_122 (lv_at hl 5 rfl) ?_
      refine lv_aload hx hb dX11_weigh_124 (lv_at hl 4 rfl) ?_
      refine lv_aload_n hx hb dX11_weigh_126 rfl (lv_at hl 1 rfl) ?_
      refine c_get hx hb hts i_X11_weigh_X7 hown hK hP a1 fa1_0 rfl 0 (by decide) (hts _ (List.mem_of_getElem? (i := 4) rfl)) (fun _ h9 => h9) rfl (v := .ref (ad (a1 + 1))) rfl dX11_weigh_127 ?_
      refine lv_iload hx hb dX11_weigh_130 (lv_at hl 3 rfl) ?_
      obtain ⟨hi83005, hf⟩ := c_gd hf
      refine c_iald (j := (x4).toNatClampNeg) hx hb hK hP (a1 + 1) fa1_1 rfl (c_inV hi83005) dX11_weigh_132 ?_
      refine lv_aload_n hx hb dX11_weigh_133 rfl (lv_at hl 1 rfl) ?_
      refine c_get hx hb hts i_X11_weigh_X7 hown hK hP a1 fa1_0 rfl 16 (by decide) (hts _ (List.mem_of_getElem? (i := 8) rfl)) (fun _ h9 => h9) rfl (v := .ref (ad (g83004.2.2 a1))) rfl dX11_weigh_134 ?_
      refine lv_aload_n hx hb dX11_weigh_137 rfl (lv_at hl 0 rfl) ?_
      refine c_get hx hb hts i_X11_weigh_X11 hown hK hP 0 tC0 rfl 9 (by decide) (hts _ (List.mem_of_getElem? (i := 3) rfl)) (fun _ h9 => h9) rfl (v := .ref (ad 3)) rfl dX11_weigh_138 ?_
      obtain ⟨r83006, hc83007, hf⟩ := c_bd hf
      obtain ⟨hq83008, hf⟩ := c_gd hf
      have hq83008T := c_isVE hq83008
      refine c_goi (va_runV (As := [.ref (ad 3)]) (rest := [.int (g83004.1 (a1 + 1) (x4).toNatClampNeg), .ref (ad x5), .int x6, .ref (ad 4)]) ⟨hx, hb, hml, hown, hts⟩ (kX10_weight hD hc83007) (cwV 1 hts gX11_weigh_X10_weight rfl rfl rfl (by decide +kernel) ⟨Nat.le_of_ble_eq_true rfl, Nat.le_of_ble_eq_true rfl⟩) (c_preV hK hP hE hS hq83008T.1 rfl) rfl rfl hl.1 rfl (lv_room (Nat.le_of_ble_eq_true rfl)) dX11_weigh_141 ⟨Nat.zero_le _, Nat.zero_le _⟩) hS (fun H locs hP hS => ?_)
      refine lv_iadd hx hb dX11_weigh_144 ?_
      refine lv_aload_n hx hb dX11_weigh_145 rfl (lv_at hl 0 rfl) ?_
      refine c_get hx hb hts i_X11_weigh_X11 hown hK hP 0 tC0 rfl 9 (by decide) (hts _ (List.mem_of_getElem? (i := 3) rfl)) (fun _ h9 => h9) rfl (v := .ref (ad 3)) rfl dX11_weigh_146 ?_
      obtain ⟨r83009, hc83010, hf⟩ := c_bd hf
      have hk83014 : ∀ (H : Heap) (locs : List Loc), va_P D vwCl (c_ws tc ad TC g83004) H → va_S A s.heap H locs → W p l e (c_rm 2) s m ([.ref (ad 0), .ref (ad a1), .int a2, .int a3, .int a4] : List Value).toArray below meth c H locs 0 0 (MQ below (va_Qv (fun (_ : Unit) => True) (fun _ t => va_P D vwCl (c_ws tc ad TC g') t.heap) A) ([.ref (ad 0), .ref (ad a1), .int a2, .int a3, .int a4] : List Value).toArray s 0 0 A) (F0 m 152 ls [.int r83009, .int x6, .ref (ad 4)]) := by
        intro H locs hP hS
        obtain ⟨hi83011, hf⟩ := c_gd hf
        obtain ⟨g83012, eg83012, hf⟩ := c_letE hf
        refine c_iast (j := (x6).toNatClampNeg) hx hb hK hP hD hS 4 tC4 rfl (c_inV hi83011) eg83012 dX11_weigh_152 (fun H locs hP hS => ?_)
        obtain ⟨v83013, ev83013, hf⟩ := c_letE hf
        refine lv_iinc (v := v83013) (lv' := [(6, .int v83013), (0, .ref (ad 0)), (1, .ref (ad a1)), (2, .int x2), (4, .int x4), (5, .ref (ad x5))]) hx hb dX11_weigh_153 hl (k := 5) rfl (by rw [ev83013]; rfl) (by decide) rfl (fun ls hl => ?_)
        refine lv_goto (tgt := 83) hx hb dX11_weigh_156 (by decide) ?_
        exact ih x2 x4 x5 v83013 g83012 hf _ _ hP hS _ (lv_sub hl [1, 2, 3, 4, 5, 0] rfl)
      unfold v_fit at hc83010
      by_cases q83015 : x5 = 20
      · have hc83010 := c_it q83015 hc83010
        rw [q83015]
        exact c_goi (va_runV (As := [.int ((g83004.1 (a1 + 1) (x4).toNatClampNeg) + r83006), .ref (ad 3)]) (rest := [.int x6, .ref (ad 4)]) ⟨hx, hb, hml, hown, hts⟩ (kX2_fit (T := TC) (g := g83004) (Option.some.inj hc83010)) (cwV 2 hts gX11_weigh_X2_fit rfl rfl rfl (by decide +kernel) ⟨Nat.le_of_ble_eq_true rfl, Nat.le_of_ble_eq_true rfl⟩) (c_preV hK hP hE hS tC20 rfl) rfl rfl hl.1 rfl (lv_room (Nat.le_of_ble_eq_true rfl)) dX11_weigh_149 ⟨Nat.zero_le _, Nat.zero_le _⟩) hS hk83014
      have hc83010 := c_ie q83015 hc83010
      by_cases q83016 : x5 = 21
      · have hc83010 := c_it q83016 hc83010
        rw [q83016]
        exact c_goi (va_runU (As := [.int ((g83004.1 (a1 + 1) (x4).toNatClampNeg) + r83006), .ref (ad 3)]) (rest := [.int x6, .ref (ad 4)]) ⟨hx, hb, hml, hown, hts⟩ (kX1_fit hD hc83010) (va_cwO 2 hts gX11_weigh_X1_fit_u326X1 rfl rfl rfl (List.mem_of_getElem? (i := 28) rfl) (by decide +kernel) ⟨Nat.le_of_ble_eq_true rfl, Nat.le_of_ble_eq_true rfl⟩) (c_preV hK hP hE hS tC21 rfl) rfl rfl hl.1 rfl (lv_room (Nat.le_of_ble_eq_true rfl)) dX11_weigh_149 ⟨Nat.zero_le _, Nat.zero_le _⟩) hS hk83014
      have hc83010 := c_ie q83016 hc83010
      by_cases q83017 : x5 = 22
      · have hc83010 := c_it q83017 hc83010
        rw [q83017]
        exact c_goi (va_runU (As := [.int ((g83004.1 (a1 + 1) (x4).toNatClampNeg) + r83006), .ref (ad 3)]) (rest := [.int x6, .ref (ad 4)]) ⟨hx, hb, hml, hown, hts⟩ (kX9_fit hD hc83010) (va_cwO 2 hts gX11_weigh_X9_fit_u326X9 rfl rfl rfl (List.mem_of_getElem? (i := 28) rfl) (by decide +kernel) ⟨Nat.le_of_ble_eq_true rfl, Nat.le_of_ble_eq_true rfl⟩) (c_preV hK hP hE hS tC22 rfl) rfl rfl hl.1 rfl (lv_room (Nat.le_of_ble_eq_true rfl)) dX11_weigh_149 ⟨Nat.zero_le _, Nat.zero_le _⟩) hS hk83014
      have hc83010 := c_ie q83017 hc83010
      by_cases q83018 : x5 = 23
      · have hc83010 := c_it q83018 hc83010
        rw [q83018]
        exact c_goi (va_runU (As := [.int ((g83004.1 (a1 + 1) (x4).toNatClampNeg) + r83006), .ref (ad 3)]) (rest := [.int x6, .ref (ad 4)]) ⟨hx, hb, hml, hown, hts⟩ (kX6_fit hD hc83010) (va_cwO 2 hts gX11_weigh_X6_fit_u326X6 rfl rfl rfl (List.mem_of_getElem? (i := 28) rfl) (by decide +kernel) ⟨Nat.le_of_ble_eq_true rfl, Nat.le_of_ble_eq_true rfl⟩) (c_preV hK hP hE hS tC23 rfl) rfl rfl hl.1 rfl (lv_room (Nat.le_of_ble_eq_true rfl)) dX11_weigh_149 ⟨Nat.zero_le _, Nat.zero_le _⟩) hS hk83014
      have hc83010 := c_ie q83018 hc83010
      by_cases q83019 : x5 = 24
      · have hc83010 := c_it q83019 hc83010
        rw [q83019]
        exact c_goi (va_runU (As := [.int ((g83004.1 (a1 + 1) (x4).toNatClampNeg) + r83006), .ref (ad 3)]) (rest := [.int x6, .ref (ad 4)]) ⟨hx, hb, hml, hown, hts⟩ (kX3_fit hD hc83010) (va_cwO 2 hts gX11_weigh_X3_fit_u326X3 rfl rfl rfl (List.mem_of_getElem? (i := 28) rfl) (by decide +kernel) ⟨Nat.le_of_ble_eq_true rfl, Nat.le_of_ble_eq_true rfl⟩) (c_preV hK hP hE hS tC24 rfl) rfl rfl hl.1 rfl (lv_room (Nat.le_of_ble_eq_true rfl)) dX11_weigh_149 ⟨Nat.zero_le _, Nat.zero_le _⟩) hS hk83014
      have hc83010 := c_ie q83019 hc83010
      by_cases q83020 : x5 = 25
      · have hc83010 := c_it q83020 hc83010
        rw [q83020]
        exact c_goi (va_runU (As := [.int ((g83004.1 (a1 + 1) (x4).toNatClampNeg) + r83006), .ref (ad 3)]) (rest := [.int x6, .ref (ad 4)]) ⟨hx, hb, hml, hown, hts⟩ (kX4_fit hD hc83010) (va_cwO 2 hts gX11_weigh_X4_fit_u326X4 rfl rfl rfl (List.mem_of_getElem? (i := 28) rfl) (by decide +kernel) ⟨Nat.le_of_ble_eq_true rfl, Nat.le_of_ble_eq_true rfl⟩) (c_preV hK hP hE hS tC25 rfl) rfl rfl hl.1 rfl (lv_room (Nat.le_of_ble_eq_true rfl)) dX11_weigh_149 ⟨Nat.zero_le _, Nat.zero_le _⟩) hS hk83014
      have hc83010 := c_ie q83020 hc83010
      by_cases q83021 : x5 = 26
      · have hc83010 := c_it q83021 hc83010
        rw [q83021]
        exact c_goi (va_runU (As := [.int ((g83004.1 (a1 + 1) (x4).toNatClampNeg) + r83006), .ref (ad 3)]) (rest := [.int x6, .ref (ad 4)]) ⟨hx, hb, hml, hown, hts⟩ (kX8_fit hD hc83010) (va_cwO 2 hts gX11_weigh_X8_fit_u326X8 rfl rfl rfl (List.mem_of_getElem? (i := 28) rfl) (by decide +kernel) ⟨Nat.le_of_ble_eq_true rfl, Nat.le_of_ble_eq_true rfl⟩) (c_preV hK hP hE hS tC26 rfl) rfl rfl hl.1 rfl (lv_room (Nat.le_of_ble_eq_true rfl)) dX11_weigh_149 ⟨Nat.zero_le _, Nat.zero_le _⟩) hS hk83014
      have hc83010 := c_ie q83021 hc83010
      cases hc83010
def fX11_weigh (g : c_G) (a1 : Nat) (a2 : Int32) (a3 : Int32) (a4 : Int32) : Option (c_G) :=
  if c_isS a1 = true then (if c_in (a2) (6) = true then if c_in ((g.1 (a1 + 5) (a2).toNatClampNeg)) (7) = true then c_let (c_si g 3 0 a2) fun g3 => c_let (c_si g3 3 1 (g3.1 (a1 + 5) (a2).toNatClampNeg)) fun g4 => c_let (c_si g4 3 2 a3) fun g5 => if c_in (a4) (6) = true then c_let (c_si g5 3 4 (g5.1 (a1 + 1) (a4).toNatClampNeg)) fun g7 => c_let (((g7.1 (a1 + 8) (a2).toNatClampNeg) - (g7.1 (a1 + 8) (a2).toNatClampNeg) / (10 : Int32) * (10 : Int32))) fun v8 => c_let (c_si g7 3 5 v8) fun g9 => c_let (c_si g9 3 6 (g9.1 (a1 + 8) (a2).toNatClampNeg)) fun g10 => fX11_weigh_83 a1 a2 a3 a4 c_F a2 a4 ((20 + ((g.1 (a1 + 5) (a2).toNatClampNeg)).toNatClampNeg)) ((0 : Int32)) g10 else none else none else none) else none
set_option maxRecDepth 100000 in
set_option maxHeartbeats 4000000 in
theorem kX11_weigh {l : Launch} {D : va_G} {tc : Nat → ClassId} {ad : Nat → Nat} {A : Nat → Prop} {E : (Nat → Nat) × (Nat → Nat) × Nat} (hD : c_D A ad TC) {a1 : Nat} {a2 : Int32} {a3 : Int32} {a4 : Int32} {g g' : c_G} (hf : fX11_weigh g a1 a2 a3 a4 = some g') : c_Mv l yX11_weigh wsX11_weigh (c_rm 2) D tc ad A E TC ([.ref (ad 0), .ref (ad a1), .int a2, .int a3, .int a4] : List Value) g g' := by
  refine c_ofW (bytes := cX11_weigh) (maxL := 7) (ret := none) (by decide) rfl (Nat.le_of_ble_eq_true rfl) ?_
  intro p e s m below meth c ls C hP hS hl
  unfold fX11_weigh at hf
  obtain ⟨hq_a1, hf⟩ := c_gd hf
  obtain ⟨hx, hb, hr, hml, hts, hown, hlk, hK, hE⟩ := id C
  obtain ⟨fa1_0, fa1_1, fa1_2, fa1_3, fa1_4, fa1_5, fa1_6, fa1_7, fa1_8, fa1_9, fa1_10, fa1_11, fa1_12, fa1_13⟩ := c_isSE hq_a1
  have hl : lv_has ls 7 [(0, .ref (ad 0)), (1, .ref (ad a1)), (2, .int a2), (3, .int a3), (4, .int a4)] := hl
  refine lv_aload_n hx hb dX11_weigh_0 rfl (lv_at hl 0 rfl) ?_
  refine c_get hx hb hts i_X11_weigh_X11 hown hK hP 0 tC0 rfl 0 (by decide) (hts _ (List.mem_of_getElem? (i := 1) rfl)) (fun _ h9 => h9) rfl (v := .ref (ad 19)) rfl dX11_weigh_1 ?_
  refine lv_aload_n hx hb dX11_weigh_4 rfl (lv_at hl 1 rfl) ?_
  refine c_get hx hb hts i_X11_weigh_X7 hown hK hP a1 fa1_0 rfl 7 (by decide) (hts _ (List.mem_of_getElem? (i := 2) rfl)) (fun _ h9 => h9) rfl (v := .ref (ad (a1 + 5))) rfl dX11_weigh_5 ?_
  refine lv_iload_n hx hb dX11_weigh_8 rfl (lv_at hl 2 rfl) ?_
  obtain ⟨hi1, hf⟩ := c_gd hf
  refine c_iald (j := (a2).toNatClampNeg) hx hb hK hP (a1 + 5) fa1_5 rfl (c_inV hi1) dX11_weigh_9 ?_
  obtain ⟨hi2, hf⟩ := c_gd hf
  refine c_aald5 hx hb hK hP 19 tC19 (c_inV hi2) (y := (20 + ((g.1 (a1 + 5) (a2).toNatClampNeg)).toNatClampNeg)) (c_kA (c_iN hi2)) dX11_weigh_10 ?_
  refine lv_astore (lv' := [(5, .ref (ad (20 + ((g.1 (a1 + 5) (a2).toNatClampNeg)).toNatClampNeg))), (0, .ref (ad 0)), (1, .ref (ad a1)), (2, .int a2), (3, .int a3), (4, .int a4)]) hx hb dX11_weigh_11 hl (by decide) rfl (fun ls hl => ?_)
  refine lv_aload_n hx hb dX11_weigh_13 rfl (lv_at hl 1 rfl) ?_
  refine c_get hx hb hts i_X11_weigh_X11 hown hK hP 0 tC0 rfl 9 (by decide) (hts _ (List.mem_of_getElem? (i := 3) rfl)) (fun _ h9 => h9) rfl (v := .ref (ad 3)) rfl dX11_weigh_14 ?_
  refine lv_iconst (v := (0 : Int32)) hx hb dX11_weigh_17 (by decide) ?_
  refine lv_iload_n hx hb dX11_weigh_18 rfl (lv_at hl 3 rfl) ?_
  obtain ⟨g3, eg3, hf⟩ := c_letE hf
  refine c_iast (j := 0) hx hb hK hP hD hS 3 tC3 (by decide) (c_inV (by decide)) eg3 dX11_weigh_19 (fun H locs hP hS => ?_)
  refine lv_aload_n hx hb dX11_weigh_20 rfl (lv_at hl 1 rfl) ?_
  refine c_get hx hb hts i_X11_weigh_X11 hown hK hP 0 tC0 rfl 9 (by decide) (hts _ (List.mem_of_getElem? (i := 3) rfl)) (fun _ h9 => h9) rfl (v := .ref (ad 3)) rfl dX11_weigh_21 ?_
  refine lv_iconst (v := (1 : Int32)) hx hb dX11_weigh_24 (by decide) ?_
  refine lv_aload_n hx hb dX11_weigh_25 rfl (lv_at hl 2 rfl) ?_
  refine c_get hx hb hts i_X11_weigh_X7 hown hK hP a1 fa1_0 rfl 7 (by decide) (hts _ (List.mem_of_getElem? (i := 2) rfl)) (fun _ h9 => h9) rfl (v := .ref (ad (a1 + 5))) rfl dX11_weigh_26 ?_
  refine lv_iload_n hx hb dX11_weigh_29 rfl (lv_at hl 3 rfl) ?_
  refine c_iald (j := (a2).toNatClampNeg) hx hb hK hP (a1 + 5) fa1_5 rfl (c_inV hi1) dX11_weigh_30 ?_
  obtain ⟨g4, eg4, hf⟩ := c_letE hf
  refine c_iast (j := 1) hx hb hK hP hD hS 3 tC3 (by decide) (c_inV (by decide)) eg4 dX11_weigh_31 (fun H locs hP hS => ?_)
  refine lv_aload_n hx hb dX11_weigh_32 rfl (lv_at hl 1 rfl) ?_
  refine c_get hx hb hts i_X11_weigh_X11 hown hK hP 0 tC0 rfl 9 (by decide) (hts _ (List.mem_of_getElem? (i := 3) rfl)) (fun _ h9 => h9) rfl (v := .ref (ad 3)) rfl dX11_weigh_33 ?_
  refine lv_iconst (v := (2 : Int32)) hx hb dX11_weigh_36 (by decide) ?_
  refine lv_iload_n hx hb dX11_weigh_37 rfl (lv_at hl 4 rfl) ?_
  obtain ⟨g5, eg5, hf⟩ := c_letE hf
  refine c_iast (j := 2) hx hb hK hP hD hS 3 tC3 (by decide) (c_inV (by decide)) eg5 dX11_weigh_38 (fun H locs hP hS => ?_)
  refine lv_aload_n hx hb dX11_weigh_39 rfl (lv_at hl 1 rfl) ?_
  refine c_get hx hb hts i_X11_weigh_X11 hown hK hP 0 tC0 rfl 9 (by decide) (hts _ (List.mem_of_getElem? (i := 3) rfl)) (fun _ h9 => h9) rfl (v := .ref (ad 3)) rfl dX11_weigh_40 ?_
  refine lv_iconst (v := (4 : Int32)) hx hb dX11_weigh_43 (by decide) ?_
  refine lv_aload_n hx hb dX11_weigh_44 rfl (lv_at hl 2 rfl) ?_
  refine c_get hx hb hts i_X11_weigh_X7 hown hK hP a1 fa1_0 rfl 0 (by decide) (hts _ (List.mem_of_getElem? (i := 4) rfl)) (fun _ h9 => h9) rfl (v := .ref (ad (a1 + 1))) rfl dX11_weigh_45 ?_
  refine lv_iload hx hb dX11_weigh_48 (lv_at hl 5 rfl) ?_
  obtain ⟨hi6, hf⟩ := c_gd hf
  refine c_iald (j := (a4).toNatClampNeg) hx hb hK hP (a1 + 1) fa1_1 rfl (c_inV hi6) dX11_weigh_50 ?_
  obtain ⟨g7, eg7, hf⟩ := c_letE hf
  refine c_iast (j := 4) hx hb hK hP hD hS 3 tC3 (by decide) (c_inV (by decide)) eg7 dX11_weigh_51 (fun H locs hP hS => ?_)
  refine lv_aload_n hx hb dX11_weigh_52 rfl (lv_at hl 1 rfl) ?_
  refine c_get hx hb hts i_X11_weigh_X11 hown hK hP 0 tC0 rfl 9 (by decide) (hts _ (List.mem_of_getElem? (i := 3) rfl)) (fun _ h9 => h9) rfl (v := .ref (ad 3)) rfl dX11_weigh_53 ?_
  refine lv_iconst (v := (5 : Int32)) hx hb dX11_weigh_56 (by decide) ?_
  refine lv_aload_n hx hb dX11_weigh_57 rfl (lv_at hl 2 rfl) ?_
  refine c_get hx hb hts i_X11_weigh_X7 hown hK hP a1 fa1_0 rfl 10 (by decide) (hts _ (List.mem_of_getElem? (i := 5) rfl)) (fun _ h9 => h9) rfl (v := .ref (ad (a1 + 8))) rfl dX11_weigh_58 ?_
  refine lv_iload_n hx hb dX11_weigh_61 rfl (lv_at hl 3 rfl) ?_
  refine c_iald (j := (a2).toNatClampNeg) hx hb hK hP (a1 + 8) fa1_8 rfl (c_inV hi1) dX11_weigh_62 ?_
  refine lv_bipush (v := (10 : Int32)) hx hb dX11_weigh_63 (by decide) ?_
  refine lv_irem hx hb dX11_weigh_65 (by decide) ?_
  obtain ⟨v8, ev8, hf⟩ := c_letE hf
  refine c_topi ev8 ?_
  obtain ⟨g9, eg9, hf⟩ := c_letE hf
  refine c_iast (j := 5) hx hb hK hP hD hS 3 tC3 (by decide) (c_inV (by decide)) eg9 dX11_weigh_66 (fun H locs hP hS => ?_)
  refine lv_aload_n hx hb dX11_weigh_67 rfl (lv_at hl 1 rfl) ?_
  refine c_get hx hb hts i_X11_weigh_X11 hown hK hP 0 tC0 rfl 9 (by decide) (hts _ (List.mem_of_getElem? (i := 3) rfl)) (fun _ h9 => h9) rfl (v := .ref (ad 3)) rfl dX11_weigh_68 ?_
  refine lv_bipush (v := (6 : Int32)) hx hb dX11_weigh_71 (by decide) ?_
  refine lv_aload_n hx hb dX11_weigh_73 rfl (lv_at hl 2 rfl) ?_
  refine c_get hx hb hts i_X11_weigh_X7 hown hK hP a1 fa1_0 rfl 10 (by decide) (hts _ (List.mem_of_getElem? (i := 5) rfl)) (fun _ h9 => h9) rfl (v := .ref (ad (a1 + 8))) rfl dX11_weigh_74 ?_
  refine lv_iload_n hx hb dX11_weigh_77 rfl (lv_at hl 3 rfl) ?_
  refine c_iald (j := (a2).toNatClampNeg) hx hb hK hP (a1 + 8) fa1_8 rfl (c_inV hi1) dX11_weigh_78 ?_
  obtain ⟨g10, eg10, hf⟩ := c_letE hf
  refine c_iast (j := 6) hx hb hK hP hD hS 3 tC3 (by decide) (c_inV (by decide)) eg10 dX11_weigh_79 (fun H locs hP hS => ?_)
  refine lv_iconst (v := (0 : Int32)) hx hb dX11_weigh_80 (by decide) ?_
  refine lv_istore (lv' := [(6, .int (0 : Int32)), (5, .ref (ad (20 + ((g.1 (a1 + 5) (a2).toNatClampNeg)).toNatClampNeg))), (0, .ref (ad 0)), (1, .ref (ad a1)), (2, .int a2), (3, .int a3), (4, .int a4)]) hx hb dX11_weigh_81 hl (by decide) rfl (fun ls hl => ?_)
  exact jX11_weigh_83 C hD hq_a1 c_F a2 a4 ((20 + ((g.1 (a1 + 5) (a2).toNatClampNeg)).toNatClampNeg)) ((0 : Int32)) g10 hf _ _ hP hS _ (lv_sub hl [2, 3, 4, 6, 1, 0] rfl)
theorem i_X11_wordsOpenTo_X7 : ∀ w ∈ u_ws RX7 TX7 17, w ∈ wsX11_wordsOpenTo := c_inP [100, 101, 102, 103, 104, 105, 106, 107, 108, 109, 110, 111, 112, 113, 114, 115, 116] (by decide +kernel)
theorem i_X11_wordsOpenTo_X11 : ∀ w ∈ u_ws RX11 TX11 19, w ∈ wsX11_wordsOpenTo := c_inP [81, 82, 83, 84, 85, 86, 87, 88, 89, 90, 91, 92, 93, 94, 95, 96, 97, 98, 99] (by decide +kernel)
theorem dX11_wordsOpenTo_0 : decode cX11_wordsOpenTo 0 = .ok (.aload_n 0, 1) := by decide +kernel
theorem dX11_wordsOpenTo_1 : decode cX11_wordsOpenTo 1 = .ok (.getfield 86, 3) := by decide +kernel
theorem dX11_wordsOpenTo_4 : decode cX11_wordsOpenTo 4 = .ok (.iload_n 2, 1) := by decide +kernel
theorem dX11_wordsOpenTo_5 : decode cX11_wordsOpenTo 5 = .ok (.invokevirtual 329, 3) := by decide +kernel
theorem dX11_wordsOpenTo_8 : decode cX11_wordsOpenTo 8 = .ok (.ifCond .ne 5, 3) := by decide +kernel
theorem dX11_wordsOpenTo_11 : decode cX11_wordsOpenTo 11 = .ok (.iconst 0, 1) := by decide +kernel
theorem dX11_wordsOpenTo_12 : decode cX11_wordsOpenTo 12 = .ok (.ireturn, 1) := by decide +kernel
theorem dX11_wordsOpenTo_13 : decode cX11_wordsOpenTo 13 = .ok (.aload_n 0, 1) := by decide +kernel
theorem dX11_wordsOpenTo_14 : decode cX11_wordsOpenTo 14 = .ok (.aload_n 0, 1) := by decide +kernel
theorem dX11_wordsOpenTo_15 : decode cX11_wordsOpenTo 15 = .ok (.getfield 86, 3) := by decide +kernel
theorem dX11_wordsOpenTo_18 : decode cX11_wordsOpenTo 18 = .ok (.iload_n 1, 1) := by decide +kernel
theorem dX11_wordsOpenTo_19 : decode cX11_wordsOpenTo 19 = .ok (.aload_n 0, 1) := by decide +kernel
theorem dX11_wordsOpenTo_20 : decode cX11_wordsOpenTo 20 = .ok (.getfield 86, 3) := by decide +kernel
theorem dX11_wordsOpenTo_23 : decode cX11_wordsOpenTo 23 = .ok (.getfield 123, 3) := by decide +kernel
theorem dX11_wordsOpenTo_26 : decode cX11_wordsOpenTo 26 = .ok (.iload_n 1, 1) := by decide +kernel
theorem dX11_wordsOpenTo_27 : decode cX11_wordsOpenTo 27 = .ok (.iaload, 1) := by decide +kernel
theorem dX11_wordsOpenTo_28 : decode cX11_wordsOpenTo 28 = .ok (.iload_n 2, 1) := by decide +kernel
theorem dX11_wordsOpenTo_29 : decode cX11_wordsOpenTo 29 = .ok (.invokevirtual 165, 3) := by decide +kernel
theorem dX11_wordsOpenTo_32 : decode cX11_wordsOpenTo 32 = .ok (.iconst 0, 1) := by decide +kernel
theorem dX11_wordsOpenTo_33 : decode cX11_wordsOpenTo 33 = .ok (.istore_n 3, 1) := by decide +kernel
theorem dX11_wordsOpenTo_34 : decode cX11_wordsOpenTo 34 = .ok (.iconst 0, 1) := by decide +kernel
theorem dX11_wordsOpenTo_35 : decode cX11_wordsOpenTo 35 = .ok (.istore 4, 2) := by decide +kernel
theorem dX11_wordsOpenTo_37 : decode cX11_wordsOpenTo 37 = .ok (.iload 4, 2) := by decide +kernel
theorem dX11_wordsOpenTo_39 : decode cX11_wordsOpenTo 39 = .ok (.bipush 12, 2) := by decide +kernel
theorem dX11_wordsOpenTo_41 : decode cX11_wordsOpenTo 41 = .ok (.if_icmp .ge 26, 3) := by decide +kernel
theorem dX11_wordsOpenTo_44 : decode cX11_wordsOpenTo 44 = .ok (.aload_n 0, 1) := by decide +kernel
theorem dX11_wordsOpenTo_45 : decode cX11_wordsOpenTo 45 = .ok (.getfield 25, 3) := by decide +kernel
theorem dX11_wordsOpenTo_48 : decode cX11_wordsOpenTo 48 = .ok (.iload 4, 2) := by decide +kernel
theorem dX11_wordsOpenTo_50 : decode cX11_wordsOpenTo 50 = .ok (.iaload, 1) := by decide +kernel
theorem dX11_wordsOpenTo_51 : decode cX11_wordsOpenTo 51 = .ok (.ifCond .le 10, 3) := by decide +kernel
theorem dX11_wordsOpenTo_54 : decode cX11_wordsOpenTo 54 = .ok (.iload_n 3, 1) := by decide +kernel
theorem dX11_wordsOpenTo_55 : decode cX11_wordsOpenTo 55 = .ok (.iconst 1, 1) := by decide +kernel
theorem dX11_wordsOpenTo_56 : decode cX11_wordsOpenTo 56 = .ok (.iload 4, 2) := by decide +kernel
theorem dX11_wordsOpenTo_58 : decode cX11_wordsOpenTo 58 = .ok (.ishl, 1) := by decide +kernel
theorem dX11_wordsOpenTo_59 : decode cX11_wordsOpenTo 59 = .ok (.ior, 1) := by decide +kernel
theorem dX11_wordsOpenTo_60 : decode cX11_wordsOpenTo 60 = .ok (.istore_n 3, 1) := by decide +kernel
theorem dX11_wordsOpenTo_61 : decode cX11_wordsOpenTo 61 = .ok (.iinc 4 1, 3) := by decide +kernel
theorem dX11_wordsOpenTo_64 : decode cX11_wordsOpenTo 64 = .ok (.goto (-27), 3) := by decide +kernel
theorem dX11_wordsOpenTo_67 : decode cX11_wordsOpenTo 67 = .ok (.iload_n 3, 1) := by decide +kernel
theorem dX11_wordsOpenTo_68 : decode cX11_wordsOpenTo 68 = .ok (.aload_n 0, 1) := by decide +kernel
theorem dX11_wordsOpenTo_69 : decode cX11_wordsOpenTo 69 = .ok (.getfield 86, 3) := by decide +kernel
theorem dX11_wordsOpenTo_72 : decode cX11_wordsOpenTo 72 = .ok (.invokevirtual 203, 3) := by decide +kernel
theorem dX11_wordsOpenTo_75 : decode cX11_wordsOpenTo 75 = .ok (.iconst (-1), 1) := by decide +kernel
theorem dX11_wordsOpenTo_76 : decode cX11_wordsOpenTo 76 = .ok (.ixor, 1) := by decide +kernel
theorem dX11_wordsOpenTo_77 : decode cX11_wordsOpenTo 77 = .ok (.iand, 1) := by decide +kernel
theorem dX11_wordsOpenTo_78 : decode cX11_wordsOpenTo 78 = .ok (.ireturn, 1) := by decide +kernel
set_option maxRecDepth 20000 in
theorem ggX11_wordsOpenTo_X7_listens : GoodIn wsX11_wordsOpenTo wsX7_listens := goodIn_r _ [8, 9, 10, 100, 101, 102, 103, 104, 105, 106, 107, 108, 109, 110, 111, 112, 113, 114, 115, 116] (by decide +kernel) (by decide +kernel)
set_option maxRecDepth 20000 in
theorem gX11_wordsOpenTo_X7_listens : GoodIn wsX11_wordsOpenTo (wsV RX11 329 RX7 yX7_listens wsX7_listens) := goodIn_app (goodIn_of _ (by decide +kernel)) ggX11_wordsOpenTo_X7_listens
set_option maxRecDepth 20000 in
theorem ggX11_wordsOpenTo_X11_weigh : GoodIn wsX11_wordsOpenTo wsX11_weigh := goodIn_r _ [15, 16, 17, 18, 19, 20, 21, 3, 22, 23, 24, 25, 26, 27, 28, 29, 30, 31, 32, 33, 34, 35, 36, 37, 38, 39, 40, 41, 42, 43, 44, 45, 46, 47, 48, 49, 50, 51, 52, 53, 54, 55, 56, 57, 58, 59, 60, 61, 62, 63, 64, 65, 66, 67, 68, 69, 70, 71, 72, 73, 74, 75, 81, 82, 83, 84, 85, 86, 87, 88, 89, 90, 91, 92, 93, 94, 95, 96, 97, 98, 99, 100, 101, 102, 103, 104, 105, 106, 107, 108, 109, 110, 111, 112, 113, 114, 115, 116, 117, 118, 119, 120, 121, 122, 123, 124] (by decide +kernel) (by decide +kernel)
set_option maxRecDepth 20000 in
theorem gX11_wordsOpenTo_X11_weigh : GoodIn wsX11_wordsOpenTo (wsV RX11 165 RX11 yX11_weigh wsX11_weigh) := goodIn_app (goodIn_of _ (by decide +kernel)) ggX11_wordsOpenTo_X11_weigh
set_option maxRecDepth 20000 in
theorem ggX11_wordsOpenTo_X7_used : GoodIn wsX11_wordsOpenTo wsX7_used := goodIn_r _ [79, 80, 9, 100, 101, 102, 103, 104, 105, 106, 107, 108, 109, 110, 111, 112, 113, 114, 115, 116] (by decide +kernel) (by decide +kernel)
set_option maxRecDepth 20000 in
theorem gX11_wordsOpenTo_X7_used : GoodIn wsX11_wordsOpenTo (wsV RX11 203 RX7 yX7_used wsX7_used) := goodIn_app (goodIn_of _ (by decide +kernel)) ggX11_wordsOpenTo_X7_used
def fX11_wordsOpenTo_61 (rec37 : Int32 → Int32 → c_G → Option (c_G × Int32)) (a1 : Int32) (a2 : Int32) (x3 : Int32) (x4 : Int32) (g : c_G) : Option (c_G × Int32) :=
  c_let (x4 + (1 : Int32)) fun v61001 => rec37 x3 v61001 g
set_option maxRecDepth 100000 in
set_option maxHeartbeats 4000000 in
theorem jX11_wordsOpenTo_61 {p : Program} {l : Launch} {e : Env} {s : State} {m : MethodId} {below : List Frame} {meth : Method} {c : Code} {D : va_G} {tc : Nat → ClassId} {ad : Nat → Nat} {A : Nat → Prop} {E : (Nat → Nat) × (Nat → Nat) × Nat} {a1 : Int32} {a2 : Int32} {g' : c_G} {r : Int32} (C : c_C p s m meth c D tc A E RX11 wsX11_wordsOpenTo cX11_wordsOpenTo 5 (some .int) ([.ref (ad 0), .int a1, .int a2] : List Value).toArray) (hD : c_D A ad TC) {rec37 : Int32 → Int32 → c_G → Option (c_G × Int32)} (hrec37 : ∀ (x3 : Int32) (x4 : Int32) (g : c_G), rec37 x3 x4 g = some (g', r) → ∀ (H : Heap) (locs : List Loc), va_P D vwCl (c_ws tc ad TC g) H → va_S A s.heap H locs → ∀ ls : Array Slot, lv_has ls 5 [(0, .ref (ad 0)), (3, .int x3), (4, .int x4)] → W p l e (c_rm 3) s m ([.ref (ad 0), .int a1, .int a2] : List Value).toArray below meth c H locs 0 0 (MQ below (va_Qi (fun (x : Int32) (_ : Unit) => x = r) (fun _ t => va_P D vwCl (c_ws tc ad TC g') t.heap) A) ([.ref (ad 0), .int a1, .int a2] : List Value).toArray s 0 0 A) (F0 m 37 ls [])) : ∀ (x3 : Int32) (x4 : Int32) (g : c_G), fX11_wordsOpenTo_61 rec37 a1 a2 x3 x4 g = some (g', r) → ∀ (H : Heap) (locs : List Loc), va_P D vwCl (c_ws tc ad TC g) H → va_S A s.heap H locs → ∀ ls : Array Slot, lv_has ls 5 [(0, .ref (ad 0)), (3, .int x3), (4, .int x4)] → W p l e (c_rm 3) s m ([.ref (ad 0), .int a1, .int a2] : List Value).toArray below meth c H locs 0 0 (MQ below (va_Qi (fun (x : Int32) (_ : Unit) => x = r) (fun _ t => va_P D vwCl (c_ws tc ad TC g') t.heap) A) ([.ref (ad 0), .int a1, .int a2] : List Value).toArray s 0 0 A) (F0 m 61 ls []) := by
  obtain ⟨hx, hb, hr, hml, hts, hown, hlk, hK, hE⟩ := id C
  intro x3 x4 g hf H locs hP hS ls hl
  unfold fX11_wordsOpenTo_61 at hf
  obtain ⟨v61001, ev61001, hf⟩ := c_letE hf
  refine lv_iinc (v := v61001) (lv' := [(4, .int v61001), (0, .ref (ad 0)), (3, .int x3)]) hx hb dX11_wordsOpenTo_61 hl (k := 2) rfl (by rw [ev61001]; rfl) (by decide) rfl (fun ls hl => ?_)
  refine lv_goto (tgt := 37) hx hb dX11_wordsOpenTo_64 (by decide) ?_
  exact hrec37 x3 v61001 g hf _ _ hP hS _ (lv_sub hl [1, 2, 0] rfl)
def fX11_wordsOpenTo_37  (a1 : Int32) (a2 : Int32) : Nat → Int32 → Int32 → c_G → Option (c_G × Int32)
  | 0, _, _, _ => none
  | n + 1, x3, x4, g => if (12 : Int32) ≤ x4 then ((fX7_used g 55).bind fun r37002 => some (g, (x3 &&& (r37002 ^^^ (-1 : Int32))))) else (if c_in (x4) (12) = true then if (g.1 4 (x4).toNatClampNeg) ≤ 0 then (fX11_wordsOpenTo_61 (fX11_wordsOpenTo_37 a1 a2 n) a1 a2 x3 x4 g) else (c_let ((x3 ||| ((1 : Int32) <<< (x4 &&& 31)))) fun v37006 => fX11_wordsOpenTo_61 (fX11_wordsOpenTo_37 a1 a2 n) a1 a2 v37006 x4 g) else none)
set_option maxRecDepth 100000 in
set_option maxHeartbeats 4000000 in
theorem jX11_wordsOpenTo_37 {p : Program} {l : Launch} {e : Env} {s : State} {m : MethodId} {below : List Frame} {meth : Method} {c : Code} {D : va_G} {tc : Nat → ClassId} {ad : Nat → Nat} {A : Nat → Prop} {E : (Nat → Nat) × (Nat → Nat) × Nat} {a1 : Int32} {a2 : Int32} {g' : c_G} {r : Int32} (C : c_C p s m meth c D tc A E RX11 wsX11_wordsOpenTo cX11_wordsOpenTo 5 (some .int) ([.ref (ad 0), .int a1, .int a2] : List Value).toArray) (hD : c_D A ad TC)  : ∀ (n : Nat) (x3 : Int32) (x4 : Int32) (g : c_G), fX11_wordsOpenTo_37 a1 a2 n x3 x4 g = some (g', r) → ∀ (H : Heap) (locs : List Loc), va_P D vwCl (c_ws tc ad TC g) H → va_S A s.heap H locs → ∀ ls : Array Slot, lv_has ls 5 [(0, .ref (ad 0)), (3, .int x3), (4, .int x4)] → W p l e (c_rm 3) s m ([.ref (ad 0), .int a1, .int a2] : List Value).toArray below meth c H locs 0 0 (MQ below (va_Qi (fun (x : Int32) (_ : Unit) => x = r) (fun _ t => va_P D vwCl (c_ws tc ad TC g') t.heap) A) ([.ref (ad 0), .int a1, .int a2] : List Value).toArray s 0 0 A) (F0 m 37 ls []) := by
  obtain ⟨hx, hb, hr, hml, hts, hown, hlk, hK, hE⟩ := id C
  intro n
  induction n with
  | zero =>
    intro x3 x4 g hf
    cases hf
  | succ n ih =>
    intro x3 x4 g hf H locs hP hS ls hl
    unfold fX11_wordsOpenTo_37 at hf
    refine lv_iload hx hb dX11_wordsOpenTo_37 (lv_at hl 2 rfl) ?_
    refine lv_bipush (v := (12 : Int32)) hx hb dX11_wordsOpenTo_39 (by decide) ?_
    refine lv_icmp_ge (tgt := 67) hx hb dX11_wordsOpenTo_41 (by decide) (fun c37001 => ?_) (fun c37001 => ?_)
    · have hf := c_it c37001 hf
      refine lv_iload_n hx hb dX11_wordsOpenTo_67 rfl (lv_at hl 1 rfl) ?_
      refine lv_aload_n hx hb dX11_wordsOpenTo_68 rfl (lv_at hl 0 rfl) ?_
      refine c_get hx hb hts i_X11_wordsOpenTo_X11 hown hK hP 0 tC0 rfl 5 (by decide) (hts _ (List.mem_of_getElem? (i := 1) rfl)) (fun _ h9 => h9) rfl (v := .ref (ad 55)) rfl dX11_wordsOpenTo_69 ?_
      obtain ⟨r37002, hc37003, hf⟩ := c_bd hf
      refine c_goi (va_runV (As := []) (rest := [.int x3]) ⟨hx, hb, hml, hown, hts⟩ (kX7_used hD hc37003) (cwV 0 hts gX11_wordsOpenTo_X7_used rfl rfl rfl (by decide +kernel) ⟨Nat.le_of_ble_eq_true rfl, Nat.le_of_ble_eq_true rfl⟩) (c_preV hK hP hE hS tC55 rfl) rfl rfl hl.1 rfl (lv_room (Nat.le_of_ble_eq_true rfl)) dX11_wordsOpenTo_72 ⟨Nat.zero_le _, Nat.zero_le _⟩) hS (fun H locs hP hS => ?_)
      refine lv_iconst (v := (-1 : Int32)) hx hb dX11_wordsOpenTo_75 (by decide) ?_
      refine lv_ixor hx hb dX11_wordsOpenTo_76 ?_
      refine lv_iand hx hb dX11_wordsOpenTo_77 ?_
      exact c_iret hx hb hr hlk hP hS rfl (c_inj hf) dX11_wordsOpenTo_78
    · have hf := c_ie c37001 hf
      refine lv_aload_n hx hb dX11_wordsOpenTo_44 rfl (lv_at hl 0 rfl) ?_
      refine c_get hx hb hts i_X11_wordsOpenTo_X11 hown hK hP 0 tC0 rfl 10 (by decide) (hts _ (List.mem_of_getElem? (i := 3) rfl)) (fun _ h9 => h9) rfl (v := .ref (ad 4)) rfl dX11_wordsOpenTo_45 ?_
      refine lv_iload hx hb dX11_wordsOpenTo_48 (lv_at hl 2 rfl) ?_
      obtain ⟨hi37004, hf⟩ := c_gd hf
      refine c_iald (j := (x4).toNatClampNeg) hx hb hK hP 4 tC4 rfl (c_inV hi37004) dX11_wordsOpenTo_50 ?_
      refine lv_if_le (tgt := 61) hx hb dX11_wordsOpenTo_51 (by decide) (fun c37005 => ?_) (fun c37005 => ?_)
      · have hf := c_it c37005 hf
        exact jX11_wordsOpenTo_61 C hD ih x3 x4 g hf _ _ hP hS _ (lv_sub hl [0, 1, 2] rfl)
      · have hf := c_ie c37005 hf
        refine lv_iload_n hx hb dX11_wordsOpenTo_54 rfl (lv_at hl 1 rfl) ?_
        refine lv_iconst (v := (1 : Int32)) hx hb dX11_wordsOpenTo_55 (by decide) ?_
        refine lv_iload hx hb dX11_wordsOpenTo_56 (lv_at hl 2 rfl) ?_
        refine lv_ishl hx hb dX11_wordsOpenTo_58 ?_
        refine lv_ior hx hb dX11_wordsOpenTo_59 ?_
        obtain ⟨v37006, ev37006, hf⟩ := c_letE hf
        refine c_topi ev37006 ?_
        refine lv_istore_n (lv' := [(3, .int v37006), (0, .ref (ad 0)), (4, .int x4)]) hx hb dX11_wordsOpenTo_60 rfl hl (by decide) rfl (fun ls hl => ?_)
        exact jX11_wordsOpenTo_61 C hD ih v37006 x4 g hf _ _ hP hS _ (lv_sub hl [1, 0, 2] rfl)
def fX11_wordsOpenTo (g : c_G) (a1 : Int32) (a2 : Int32) : Option (c_G × Int32) :=
  (fX7_listens g 55 a2).bind fun r1 => if r1 = 0 then (some (g, (0 : Int32))) else (if c_in (a1) (6) = true then (fX11_weigh g 55 a1 ((g.1 61 (a1).toNatClampNeg)) a2).bind fun g6 => fX11_wordsOpenTo_37 a1 a2 c_F ((0 : Int32)) ((0 : Int32)) g6 else none)
set_option maxRecDepth 100000 in
set_option maxHeartbeats 4000000 in
theorem kX11_wordsOpenTo {l : Launch} {D : va_G} {tc : Nat → ClassId} {ad : Nat → Nat} {A : Nat → Prop} {E : (Nat → Nat) × (Nat → Nat) × Nat} (hD : c_D A ad TC) {a1 : Int32} {a2 : Int32} {g g' : c_G} {r : Int32} (hf : fX11_wordsOpenTo g a1 a2 = some (g', r)) : c_Mi l yX11_wordsOpenTo wsX11_wordsOpenTo (c_rm 3) D tc ad A E TC ([.ref (ad 0), .int a1, .int a2] : List Value) g g' r := by
  refine c_ofW (bytes := cX11_wordsOpenTo) (maxL := 5) (ret := (some .int)) (by decide) rfl (Nat.le_of_ble_eq_true rfl) ?_
  intro p e s m below meth c ls C hP hS hl
  unfold fX11_wordsOpenTo at hf
  obtain ⟨hx, hb, hr, hml, hts, hown, hlk, hK, hE⟩ := id C
  have hl : lv_has ls 5 [(0, .ref (ad 0)), (1, .int a1), (2, .int a2)] := hl
  refine lv_aload_n hx hb dX11_wordsOpenTo_0 rfl (lv_at hl 0 rfl) ?_
  refine c_get hx hb hts i_X11_wordsOpenTo_X11 hown hK hP 0 tC0 rfl 5 (by decide) (hts _ (List.mem_of_getElem? (i := 1) rfl)) (fun _ h9 => h9) rfl (v := .ref (ad 55)) rfl dX11_wordsOpenTo_1 ?_
  refine lv_iload_n hx hb dX11_wordsOpenTo_4 rfl (lv_at hl 2 rfl) ?_
  obtain ⟨r1, hc2, hf⟩ := c_bd hf
  refine c_goi (va_runV (As := [.int a2]) (rest := []) ⟨hx, hb, hml, hown, hts⟩ (kX7_listens hD hc2) (cwV 1 hts gX11_wordsOpenTo_X7_listens rfl rfl rfl (by decide +kernel) ⟨Nat.le_of_ble_eq_true rfl, Nat.le_of_ble_eq_true rfl⟩) (c_preV hK hP hE hS tC55 rfl) rfl rfl hl.1 rfl (lv_room (Nat.le_of_ble_eq_true rfl)) dX11_wordsOpenTo_5 ⟨Nat.zero_le _, Nat.zero_le _⟩) hS (fun H locs hP hS => ?_)
  refine lv_if_ne (tgt := 13) hx hb dX11_wordsOpenTo_8 (by decide) (fun c3 => ?_) (fun c3 => ?_)
  · have hf := c_ie c3 hf
    refine lv_aload_n hx hb dX11_wordsOpenTo_13 rfl (lv_at hl 0 rfl) ?_
    refine lv_aload_n hx hb dX11_wordsOpenTo_14 rfl (lv_at hl 0 rfl) ?_
    refine c_get hx hb hts i_X11_wordsOpenTo_X11 hown hK hP 0 tC0 rfl 5 (by decide) (hts _ (List.mem_of_getElem? (i := 1) rfl)) (fun _ h9 => h9) rfl (v := .ref (ad 55)) rfl dX11_wordsOpenTo_15 ?_
    refine lv_iload_n hx hb dX11_wordsOpenTo_18 rfl (lv_at hl 1 rfl) ?_
    refine lv_aload_n hx hb dX11_wordsOpenTo_19 rfl (lv_at hl 0 rfl) ?_
    refine c_get hx hb hts i_X11_wordsOpenTo_X11 hown hK hP 0 tC0 rfl 5 (by decide) (hts _ (List.mem_of_getElem? (i := 1) rfl)) (fun _ h9 => h9) rfl (v := .ref (ad 55)) rfl dX11_wordsOpenTo_20 ?_
    refine c_get hx hb hts i_X11_wordsOpenTo_X7 hown hK hP 55 tC55 rfl 8 (by decide) (hts _ (List.mem_of_getElem? (i := 2) rfl)) (fun _ h9 => h9) rfl (v := .ref (ad 61)) rfl dX11_wordsOpenTo_23 ?_
    refine lv_iload_n hx hb dX11_wordsOpenTo_26 rfl (lv_at hl 1 rfl) ?_
    obtain ⟨hi4, hf⟩ := c_gd hf
    refine c_iald (j := (a1).toNatClampNeg) hx hb hK hP 61 tC61 rfl (c_inV hi4) dX11_wordsOpenTo_27 ?_
    refine lv_iload_n hx hb dX11_wordsOpenTo_28 rfl (lv_at hl 2 rfl) ?_
    obtain ⟨g6, hc5, hf⟩ := c_bd hf
    refine c_gov (va_runV (As := [.ref (ad 55), .int a1, .int (g.1 61 (a1).toNatClampNeg), .int a2]) (rest := []) ⟨hx, hb, hml, hown, hts⟩ (kX11_weigh hD hc5) (cwV 4 hts gX11_wordsOpenTo_X11_weigh rfl rfl rfl (by decide +kernel) ⟨Nat.le_of_ble_eq_true rfl, Nat.le_of_ble_eq_true rfl⟩) (c_preV hK hP hE hS tC0 rfl) rfl rfl hl.1 rfl (lv_room (Nat.le_of_ble_eq_true rfl)) dX11_wordsOpenTo_29 ⟨Nat.zero_le _, Nat.zero_le _⟩) hS (fun H locs hP hS => ?_)
    refine lv_iconst (v := (0 : Int32)) hx hb dX11_wordsOpenTo_32 (by decide) ?_
    refine lv_istore_n (lv' := [(3, .int (0 : Int32)), (0, .ref (ad 0)), (1, .int a1), (2, .int a2)]) hx hb dX11_wordsOpenTo_33 rfl hl (by decide) rfl (fun ls hl => ?_)
    refine lv_iconst (v := (0 : Int32)) hx hb dX11_wordsOpenTo_34 (by decide) ?_
    refine lv_istore (lv' := [(4, .int (0 : Int32)), (3, .int (0 : Int32)), (0, .ref (ad 0)), (1, .int a1), (2, .int a2)]) hx hb dX11_wordsOpenTo_35 hl (by decide) rfl (fun ls hl => ?_)
    exact jX11_wordsOpenTo_37 C hD c_F ((0 : Int32)) ((0 : Int32)) g6 hf _ _ hP hS _ (lv_sub hl [2, 1, 0] rfl)
  · have hf := c_it c3 hf
    refine lv_iconst (v := (0 : Int32)) hx hb dX11_wordsOpenTo_11 (by decide) ?_
    exact c_iret hx hb hr hlk hP hS rfl (c_inj hf) dX11_wordsOpenTo_12
theorem i_X11_aheadOf_X11 : ∀ w ∈ u_ws RX11 TX11 19, w ∈ wsX11_aheadOf := c_inP [2, 3, 4, 5, 6, 7, 8, 9, 10, 11, 12, 13, 14, 15, 16, 17, 18, 19, 20] (by decide +kernel)
theorem dX11_aheadOf_0 : decode cX11_aheadOf 0 = .ok (.iconst 0, 1) := by decide +kernel
theorem dX11_aheadOf_1 : decode cX11_aheadOf 1 = .ok (.istore_n 3, 1) := by decide +kernel
theorem dX11_aheadOf_2 : decode cX11_aheadOf 2 = .ok (.iconst 0, 1) := by decide +kernel
theorem dX11_aheadOf_3 : decode cX11_aheadOf 3 = .ok (.istore 4, 2) := by decide +kernel
theorem dX11_aheadOf_5 : decode cX11_aheadOf 5 = .ok (.iload 4, 2) := by decide +kernel
theorem dX11_aheadOf_7 : decode cX11_aheadOf 7 = .ok (.bipush 12, 2) := by decide +kernel
theorem dX11_aheadOf_9 : decode cX11_aheadOf 9 = .ok (.if_icmp .ge 54, 3) := by decide +kernel
theorem dX11_aheadOf_12 : decode cX11_aheadOf 12 = .ok (.aload_n 0, 1) := by decide +kernel
theorem dX11_aheadOf_13 : decode cX11_aheadOf 13 = .ok (.getfield 25, 3) := by decide +kernel
theorem dX11_aheadOf_16 : decode cX11_aheadOf 16 = .ok (.iload 4, 2) := by decide +kernel
theorem dX11_aheadOf_18 : decode cX11_aheadOf 18 = .ok (.iaload, 1) := by decide +kernel
theorem dX11_aheadOf_19 : decode cX11_aheadOf 19 = .ok (.aload_n 0, 1) := by decide +kernel
theorem dX11_aheadOf_20 : decode cX11_aheadOf 20 = .ok (.getfield 25, 3) := by decide +kernel
theorem dX11_aheadOf_23 : decode cX11_aheadOf 23 = .ok (.iload_n 1, 1) := by decide +kernel
theorem dX11_aheadOf_24 : decode cX11_aheadOf 24 = .ok (.iaload, 1) := by decide +kernel
theorem dX11_aheadOf_25 : decode cX11_aheadOf 25 = .ok (.if_icmp .gt 25, 3) := by decide +kernel
theorem dX11_aheadOf_28 : decode cX11_aheadOf 28 = .ok (.aload_n 0, 1) := by decide +kernel
theorem dX11_aheadOf_29 : decode cX11_aheadOf 29 = .ok (.getfield 25, 3) := by decide +kernel
theorem dX11_aheadOf_32 : decode cX11_aheadOf 32 = .ok (.iload 4, 2) := by decide +kernel
theorem dX11_aheadOf_34 : decode cX11_aheadOf 34 = .ok (.iaload, 1) := by decide +kernel
theorem dX11_aheadOf_35 : decode cX11_aheadOf 35 = .ok (.aload_n 0, 1) := by decide +kernel
theorem dX11_aheadOf_36 : decode cX11_aheadOf 36 = .ok (.getfield 25, 3) := by decide +kernel
theorem dX11_aheadOf_39 : decode cX11_aheadOf 39 = .ok (.iload_n 1, 1) := by decide +kernel
theorem dX11_aheadOf_40 : decode cX11_aheadOf 40 = .ok (.iaload, 1) := by decide +kernel
theorem dX11_aheadOf_41 : decode cX11_aheadOf 41 = .ok (.if_icmp .ne 16, 3) := by decide +kernel
theorem dX11_aheadOf_44 : decode cX11_aheadOf 44 = .ok (.iload 4, 2) := by decide +kernel
theorem dX11_aheadOf_46 : decode cX11_aheadOf 46 = .ok (.iload_n 1, 1) := by decide +kernel
theorem dX11_aheadOf_47 : decode cX11_aheadOf 47 = .ok (.if_icmp .ge 10, 3) := by decide +kernel
theorem dX11_aheadOf_50 : decode cX11_aheadOf 50 = .ok (.iload_n 3, 1) := by decide +kernel
theorem dX11_aheadOf_51 : decode cX11_aheadOf 51 = .ok (.iconst 1, 1) := by decide +kernel
theorem dX11_aheadOf_52 : decode cX11_aheadOf 52 = .ok (.iload 4, 2) := by decide +kernel
theorem dX11_aheadOf_54 : decode cX11_aheadOf 54 = .ok (.ishl, 1) := by decide +kernel
theorem dX11_aheadOf_55 : decode cX11_aheadOf 55 = .ok (.ior, 1) := by decide +kernel
theorem dX11_aheadOf_56 : decode cX11_aheadOf 56 = .ok (.istore_n 3, 1) := by decide +kernel
theorem dX11_aheadOf_57 : decode cX11_aheadOf 57 = .ok (.iinc 4 1, 3) := by decide +kernel
theorem dX11_aheadOf_60 : decode cX11_aheadOf 60 = .ok (.goto (-55), 3) := by decide +kernel
theorem dX11_aheadOf_63 : decode cX11_aheadOf 63 = .ok (.iload_n 3, 1) := by decide +kernel
theorem dX11_aheadOf_64 : decode cX11_aheadOf 64 = .ok (.iload_n 2, 1) := by decide +kernel
theorem dX11_aheadOf_65 : decode cX11_aheadOf 65 = .ok (.iand, 1) := by decide +kernel
theorem dX11_aheadOf_66 : decode cX11_aheadOf 66 = .ok (.ireturn, 1) := by decide +kernel
def fX11_aheadOf_57 (rec5 : Int32 → Int32 → Int32 → Int32 → c_G → Option (Int32)) (a1 : Int32) (a2 : Int32) (x1 : Int32) (x2 : Int32) (x3 : Int32) (x4 : Int32) (g : c_G) : Option (Int32) :=
  c_let (x4 + (1 : Int32)) fun v57001 => rec5 x1 x2 x3 v57001 g
set_option maxRecDepth 100000 in
set_option maxHeartbeats 4000000 in
theorem jX11_aheadOf_57 {p : Program} {l : Launch} {e : Env} {s : State} {m : MethodId} {below : List Frame} {meth : Method} {c : Code} {D : va_G} {tc : Nat → ClassId} {ad : Nat → Nat} {A : Nat → Prop} {E : (Nat → Nat) × (Nat → Nat) × Nat} {a1 : Int32} {a2 : Int32} {r : Int32} (C : c_C p s m meth c D tc A E RX11 wsX11_aheadOf cX11_aheadOf 5 (some .int) ([.ref (ad 0), .int a1, .int a2] : List Value).toArray) (hD : c_D A ad TC) {rec5 : Int32 → Int32 → Int32 → Int32 → c_G → Option (Int32)} (hrec5 : ∀ (x1 : Int32) (x2 : Int32) (x3 : Int32) (x4 : Int32) (g : c_G), rec5 x1 x2 x3 x4 g = some r → ∀ (H : Heap) (locs : List Loc), va_P D vwCl (c_ws tc ad TC g) H → va_S A s.heap H locs → ∀ ls : Array Slot, lv_has ls 5 [(0, .ref (ad 0)), (1, .int x1), (2, .int x2), (3, .int x3), (4, .int x4)] → W p l e (c_rm 0) s m ([.ref (ad 0), .int a1, .int a2] : List Value).toArray below meth c H locs 0 0 (MQ below (va_Qi (fun (x : Int32) (_ : Unit) => x = r) (fun _ t => va_P D vwCl (c_ws tc ad TC g) t.heap) A) ([.ref (ad 0), .int a1, .int a2] : List Value).toArray s 0 0 A) (F0 m 5 ls [])) : ∀ (x1 : Int32) (x2 : Int32) (x3 : Int32) (x4 : Int32) (g : c_G), fX11_aheadOf_57 rec5 a1 a2 x1 x2 x3 x4 g = some r → ∀ (H : Heap) (locs : List Loc), va_P D vwCl (c_ws tc ad TC g) H → va_S A s.heap H locs → ∀ ls : Array Slot, lv_has ls 5 [(0, .ref (ad 0)), (1, .int x1), (2, .int x2), (3, .int x3), (4, .int x4)] → W p l e (c_rm 0) s m ([.ref (ad 0), .int a1, .int a2] : List Value).toArray below meth c H locs 0 0 (MQ below (va_Qi (fun (x : Int32) (_ : Unit) => x = r) (fun _ t => va_P D vwCl (c_ws tc ad TC g) t.heap) A) ([.ref (ad 0), .int a1, .int a2] : List Value).toArray s 0 0 A) (F0 m 57 ls []) := by
  obtain ⟨hx, hb, hr, hml, hts, hown, hlk, hK, hE⟩ := id C
  intro x1 x2 x3 x4 g hf H locs hP hS ls hl
  unfold fX11_aheadOf_57 at hf
  obtain ⟨v57001, ev57001, hf⟩ := c_letE hf
  refine lv_iinc (v := v57001) (lv' := [(4, .int v57001), (0, .ref (ad 0)), (1, .int x1), (2, .int x2), (3, .int x3)]) hx hb dX11_aheadOf_57 hl (k := 4) rfl (by rw [ev57001]; rfl) (by decide) rfl (fun ls hl => ?_)
  refine lv_goto (tgt := 5) hx hb dX11_aheadOf_60 (by decide) ?_
  exact hrec5 x1 x2 x3 v57001 g hf _ _ hP hS _ (lv_sub hl [1, 2, 3, 4, 0] rfl)
def fX11_aheadOf_50 (rec5 : Int32 → Int32 → Int32 → Int32 → c_G → Option (Int32)) (a1 : Int32) (a2 : Int32) (x1 : Int32) (x2 : Int32) (x3 : Int32) (x4 : Int32) (g : c_G) : Option (Int32) :=
  c_let ((x3 ||| ((1 : Int32) <<< (x4 &&& 31)))) fun v50001 => fX11_aheadOf_57 rec5 a1 a2 x1 x2 v50001 x4 g
set_option maxRecDepth 100000 in
set_option maxHeartbeats 4000000 in
theorem jX11_aheadOf_50 {p : Program} {l : Launch} {e : Env} {s : State} {m : MethodId} {below : List Frame} {meth : Method} {c : Code} {D : va_G} {tc : Nat → ClassId} {ad : Nat → Nat} {A : Nat → Prop} {E : (Nat → Nat) × (Nat → Nat) × Nat} {a1 : Int32} {a2 : Int32} {r : Int32} (C : c_C p s m meth c D tc A E RX11 wsX11_aheadOf cX11_aheadOf 5 (some .int) ([.ref (ad 0), .int a1, .int a2] : List Value).toArray) (hD : c_D A ad TC) {rec5 : Int32 → Int32 → Int32 → Int32 → c_G → Option (Int32)} (hrec5 : ∀ (x1 : Int32) (x2 : Int32) (x3 : Int32) (x4 : Int32) (g : c_G), rec5 x1 x2 x3 x4 g = some r → ∀ (H : Heap) (locs : List Loc), va_P D vwCl (c_ws tc ad TC g) H → va_S A s.heap H locs → ∀ ls : Array Slot, lv_has ls 5 [(0, .ref (ad 0)), (1, .int x1), (2, .int x2), (3, .int x3), (4, .int x4)] → W p l e (c_rm 0) s m ([.ref (ad 0), .int a1, .int a2] : List Value).toArray below meth c H locs 0 0 (MQ below (va_Qi (fun (x : Int32) (_ : Unit) => x = r) (fun _ t => va_P D vwCl (c_ws tc ad TC g) t.heap) A) ([.ref (ad 0), .int a1, .int a2] : List Value).toArray s 0 0 A) (F0 m 5 ls [])) : ∀ (x1 : Int32) (x2 : Int32) (x3 : Int32) (x4 : Int32) (g : c_G), fX11_aheadOf_50 rec5 a1 a2 x1 x2 x3 x4 g = some r → ∀ (H : Heap) (locs : List Loc), va_P D vwCl (c_ws tc ad TC g) H → va_S A s.heap H locs → ∀ ls : Array Slot, lv_has ls 5 [(0, .ref (ad 0)), (1, .int x1), (2, .int x2), (3, .int x3), (4, .int x4)] → W p l e (c_rm 0) s m ([.ref (ad 0), .int a1, .int a2] : List Value).toArray below meth c H locs 0 0 (MQ below (va_Qi (fun (x : Int32) (_ : Unit) => x = r) (fun _ t => va_P D vwCl (c_ws tc ad TC g) t.heap) A) ([.ref (ad 0), .int a1, .int a2] : List Value).toArray s 0 0 A) (F0 m 50 ls []) := by
  obtain ⟨hx, hb, hr, hml, hts, hown, hlk, hK, hE⟩ := id C
  intro x1 x2 x3 x4 g hf H locs hP hS ls hl
  unfold fX11_aheadOf_50 at hf
  refine lv_iload_n hx hb dX11_aheadOf_50 rfl (lv_at hl 3 rfl) ?_
  refine lv_iconst (v := (1 : Int32)) hx hb dX11_aheadOf_51 (by decide) ?_
  refine lv_iload hx hb dX11_aheadOf_52 (lv_at hl 4 rfl) ?_
  refine lv_ishl hx hb dX11_aheadOf_54 ?_
  refine lv_ior hx hb dX11_aheadOf_55 ?_
  obtain ⟨v50001, ev50001, hf⟩ := c_letE hf
  refine c_topi ev50001 ?_
  refine lv_istore_n (lv' := [(3, .int v50001), (0, .ref (ad 0)), (1, .int x1), (2, .int x2), (4, .int x4)]) hx hb dX11_aheadOf_56 rfl hl (by decide) rfl (fun ls hl => ?_)
  exact jX11_aheadOf_57 C hD hrec5 x1 x2 v50001 x4 g hf _ _ hP hS _ (lv_sub hl [1, 2, 3, 0, 4] rfl)
def fX11_aheadOf_5  (a1 : Int32) (a2 : Int32) : Nat → Int32 → Int32 → Int32 → Int32 → c_G → Option (Int32)
  | 0, _, _, _, _, _ => none
  | n + 1, x1, x2, x3, x4, g => if (12 : Int32) ≤ x4 then (some (x3 &&& x2)) else (if c_in (x4) (12) = true then if c_in (x1) (12) = true then if (g.1 4 (x1).toNatClampNeg) < (g.1 4 (x4).toNatClampNeg) then (fX11_aheadOf_50 (fX11_aheadOf_5 a1 a2 n) a1 a2 x1 x2 x3 x4 g) else (if (g.1 4 (x4).toNatClampNeg) = (g.1 4 (x1).toNatClampNeg) then (if x1 ≤ x4 then (fX11_aheadOf_57 (fX11_aheadOf_5 a1 a2 n) a1 a2 x1 x2 x3 x4 g) else (fX11_aheadOf_50 (fX11_aheadOf_5 a1 a2 n) a1 a2 x1 x2 x3 x4 g)) else (fX11_aheadOf_57 (fX11_aheadOf_5 a1 a2 n) a1 a2 x1 x2 x3 x4 g)) else none else none)
set_option maxRecDepth 100000 in
set_option maxHeartbeats 4000000 in
theorem jX11_aheadOf_5 {p : Program} {l : Launch} {e : Env} {s : State} {m : MethodId} {below : List Frame} {meth : Method} {c : Code} {D : va_G} {tc : Nat → ClassId} {ad : Nat → Nat} {A : Nat → Prop} {E : (Nat → Nat) × (Nat → Nat) × Nat} {a1 : Int32} {a2 : Int32} {r : Int32} (C : c_C p s m meth c D tc A E RX11 wsX11_aheadOf cX11_aheadOf 5 (some .int) ([.ref (ad 0), .int a1, .int a2] : List Value).toArray) (hD : c_D A ad TC)  : ∀ (n : Nat) (x1 : Int32) (x2 : Int32) (x3 : Int32) (x4 : Int32) (g : c_G), fX11_aheadOf_5 a1 a2 n x1 x2 x3 x4 g = some r → ∀ (H : Heap) (locs : List Loc), va_P D vwCl (c_ws tc ad TC g) H → va_S A s.heap H locs → ∀ ls : Array Slot, lv_has ls 5 [(0, .ref (ad 0)), (1, .int x1), (2, .int x2), (3, .int x3), (4, .int x4)] → W p l e (c_rm 0) s m ([.ref (ad 0), .int a1, .int a2] : List Value).toArray below meth c H locs 0 0 (MQ below (va_Qi (fun (x : Int32) (_ : Unit) => x = r) (fun _ t => va_P D vwCl (c_ws tc ad TC g) t.heap) A) ([.ref (ad 0), .int a1, .int a2] : List Value).toArray s 0 0 A) (F0 m 5 ls []) := by
  obtain ⟨hx, hb, hr, hml, hts, hown, hlk, hK, hE⟩ := id C
  intro n
  induction n with
  | zero =>
    intro x1 x2 x3 x4 g hf
    cases hf
  | succ n ih =>
    intro x1 x2 x3 x4 g hf H locs hP hS ls hl
    unfold fX11_aheadOf_5 at hf
    refine lv_iload hx hb dX11_aheadOf_5 (lv_at hl 4 rfl) ?_
    refine lv_bipush (v := (12 : Int32)) hx hb dX11_aheadOf_7 (by decide) ?_
    refine lv_icmp_ge (tgt := 63) hx hb dX11_aheadOf_9 (by decide) (fun c5001 => ?_) (fun c5001 => ?_)
    · have hf := c_it c5001 hf
      refine lv_iload_n hx hb dX11_aheadOf_63 rfl (lv_at hl 3 rfl) ?_
      refine lv_iload_n hx hb dX11_aheadOf_64 rfl (lv_at hl 2 rfl) ?_
      refine lv_iand hx hb dX11_aheadOf_65 ?_
      exact c_iret hx hb hr hlk hP hS rfl ⟨rfl, Option.some.inj hf⟩ dX11_aheadOf_66
    · have hf := c_ie c5001 hf
      refine lv_aload_n hx hb dX11_aheadOf_12 rfl (lv_at hl 0 rfl) ?_
      refine c_get hx hb hts i_X11_aheadOf_X11 hown hK hP 0 tC0 rfl 10 (by decide) (hts _ (List.mem_of_getElem? (i := 1) rfl)) (fun _ h9 => h9) rfl (v := .ref (ad 4)) rfl dX11_aheadOf_13 ?_
      refine lv_iload hx hb dX11_aheadOf_16 (lv_at hl 4 rfl) ?_
      obtain ⟨hi5002, hf⟩ := c_gd hf
      refine c_iald (j := (x4).toNatClampNeg) hx hb hK hP 4 tC4 rfl (c_inV hi5002) dX11_aheadOf_18 ?_
      refine lv_aload_n hx hb dX11_aheadOf_19 rfl (lv_at hl 0 rfl) ?_
      refine c_get hx hb hts i_X11_aheadOf_X11 hown hK hP 0 tC0 rfl 10 (by decide) (hts _ (List.mem_of_getElem? (i := 1) rfl)) (fun _ h9 => h9) rfl (v := .ref (ad 4)) rfl dX11_aheadOf_20 ?_
      refine lv_iload_n hx hb dX11_aheadOf_23 rfl (lv_at hl 1 rfl) ?_
      obtain ⟨hi5003, hf⟩ := c_gd hf
      refine c_iald (j := (x1).toNatClampNeg) hx hb hK hP 4 tC4 rfl (c_inV hi5003) dX11_aheadOf_24 ?_
      refine lv_icmp_gt (tgt := 50) hx hb dX11_aheadOf_25 (by decide) (fun c5004 => ?_) (fun c5004 => ?_)
      · have hf := c_it c5004 hf
        exact jX11_aheadOf_50 C hD ih x1 x2 x3 x4 g hf _ _ hP hS _ (lv_sub hl [0, 1, 2, 3, 4] rfl)
      · have hf := c_ie c5004 hf
        refine lv_aload_n hx hb dX11_aheadOf_28 rfl (lv_at hl 0 rfl) ?_
        refine c_get hx hb hts i_X11_aheadOf_X11 hown hK hP 0 tC0 rfl 10 (by decide) (hts _ (List.mem_of_getElem? (i := 1) rfl)) (fun _ h9 => h9) rfl (v := .ref (ad 4)) rfl dX11_aheadOf_29 ?_
        refine lv_iload hx hb dX11_aheadOf_32 (lv_at hl 4 rfl) ?_
        refine c_iald (j := (x4).toNatClampNeg) hx hb hK hP 4 tC4 rfl (c_inV hi5002) dX11_aheadOf_34 ?_
        refine lv_aload_n hx hb dX11_aheadOf_35 rfl (lv_at hl 0 rfl) ?_
        refine c_get hx hb hts i_X11_aheadOf_X11 hown hK hP 0 tC0 rfl 10 (by decide) (hts _ (List.mem_of_getElem? (i := 1) rfl)) (fun _ h9 => h9) rfl (v := .ref (ad 4)) rfl dX11_aheadOf_36 ?_
        refine lv_iload_n hx hb dX11_aheadOf_39 rfl (lv_at hl 1 rfl) ?_
        refine c_iald (j := (x1).toNatClampNeg) hx hb hK hP 4 tC4 rfl (c_inV hi5003) dX11_aheadOf_40 ?_
        refine lv_icmp_ne (tgt := 57) hx hb dX11_aheadOf_41 (by decide) (fun c5005 => ?_) (fun c5005 => ?_)
        · have hf := c_ie c5005 hf
          exact jX11_aheadOf_57 C hD ih x1 x2 x3 x4 g hf _ _ hP hS _ (lv_sub hl [0, 1, 2, 3, 4] rfl)
        · have hf := c_it c5005 hf
          refine lv_iload hx hb dX11_aheadOf_44 (lv_at hl 4 rfl) ?_
          refine lv_iload_n hx hb dX11_aheadOf_46 rfl (lv_at hl 1 rfl) ?_
          refine lv_icmp_ge (tgt := 57) hx hb dX11_aheadOf_47 (by decide) (fun c5006 => ?_) (fun c5006 => ?_)
          · have hf := c_it c5006 hf
            exact jX11_aheadOf_57 C hD ih x1 x2 x3 x4 g hf _ _ hP hS _ (lv_sub hl [0, 1, 2, 3, 4] rfl)
          · have hf := c_ie c5006 hf
            exact jX11_aheadOf_50 C hD ih x1 x2 x3 x4 g hf _ _ hP hS _ (lv_sub hl [0, 1, 2, 3, 4] rfl)
def fX11_aheadOf (g : c_G) (a1 : Int32) (a2 : Int32) : Option (Int32) :=
  fX11_aheadOf_5 a1 a2 c_F a1 a2 ((0 : Int32)) ((0 : Int32)) g
set_option maxRecDepth 100000 in
set_option maxHeartbeats 4000000 in
theorem kX11_aheadOf {l : Launch} {D : va_G} {tc : Nat → ClassId} {ad : Nat → Nat} {A : Nat → Prop} {E : (Nat → Nat) × (Nat → Nat) × Nat} (hD : c_D A ad TC) {a1 : Int32} {a2 : Int32} {g : c_G} {r : Int32} (hf : fX11_aheadOf g a1 a2 = some r) : c_Mi l yX11_aheadOf wsX11_aheadOf (c_rm 0) D tc ad A E TC ([.ref (ad 0), .int a1, .int a2] : List Value) g g r := by
  refine c_ofW (bytes := cX11_aheadOf) (maxL := 5) (ret := (some .int)) (by decide) rfl (Nat.le_of_ble_eq_true rfl) ?_
  intro p e s m below meth c ls C hP hS hl
  unfold fX11_aheadOf at hf
  obtain ⟨hx, hb, hr, hml, hts, hown, hlk, hK, hE⟩ := id C
  have hl : lv_has ls 5 [(0, .ref (ad 0)), (1, .int a1), (2, .int a2)] := hl
  refine lv_iconst (v := (0 : Int32)) hx hb dX11_aheadOf_0 (by decide) ?_
  refine lv_istore_n (lv' := [(3, .int (0 : Int32)), (0, .ref (ad 0)), (1, .int a1), (2, .int a2)]) hx hb dX11_aheadOf_1 rfl hl (by decide) rfl (fun ls hl => ?_)
  refine lv_iconst (v := (0 : Int32)) hx hb dX11_aheadOf_2 (by decide) ?_
  refine lv_istore (lv' := [(4, .int (0 : Int32)), (3, .int (0 : Int32)), (0, .ref (ad 0)), (1, .int a1), (2, .int a2)]) hx hb dX11_aheadOf_3 hl (by decide) rfl (fun ls hl => ?_)
  exact jX11_aheadOf_5 C hD c_F a1 a2 ((0 : Int32)) ((0 : Int32)) g hf _ _ hP hS _ (lv_sub hl [2, 3, 4, 1, 0] rfl)
theorem i_X11_knew_X5 : ∀ w ∈ u_ws RX5 TX5 4, w ∈ wsX11_knew := c_inP [137, 138, 139, 140] (by decide +kernel)
theorem i_X11_knew_X7 : ∀ w ∈ u_ws RX7 TX7 17, w ∈ wsX11_knew := c_inP [120, 121, 122, 123, 124, 125, 126, 127, 128, 129, 130, 131, 132, 133, 134, 135, 136] (by decide +kernel)
theorem i_X11_knew_X11 : ∀ w ∈ u_ws RX11 TX11 19, w ∈ wsX11_knew := c_inP [101, 102, 103, 104, 105, 106, 107, 108, 109, 110, 111, 112, 113, 114, 115, 116, 117, 118, 119] (by decide +kernel)
theorem dX11_knew_0 : decode cX11_knew 0 = .ok (.iconst 0, 1) := by decide +kernel
theorem dX11_knew_1 : decode cX11_knew 1 = .ok (.istore_n 3, 1) := by decide +kernel
theorem dX11_knew_2 : decode cX11_knew 2 = .ok (.iconst 0, 1) := by decide +kernel
theorem dX11_knew_3 : decode cX11_knew 3 = .ok (.istore 4, 2) := by decide +kernel
theorem dX11_knew_5 : decode cX11_knew 5 = .ok (.iconst 0, 1) := by decide +kernel
theorem dX11_knew_6 : decode cX11_knew 6 = .ok (.istore 5, 2) := by decide +kernel
theorem dX11_knew_8 : decode cX11_knew 8 = .ok (.iload 5, 2) := by decide +kernel
theorem dX11_knew_10 : decode cX11_knew 10 = .ok (.aload_n 0, 1) := by decide +kernel
theorem dX11_knew_11 : decode cX11_knew 11 = .ok (.getfield 86, 3) := by decide +kernel
theorem dX11_knew_14 : decode cX11_knew 14 = .ok (.getfield 232, 3) := by decide +kernel
theorem dX11_knew_17 : decode cX11_knew 17 = .ok (.getfield 266, 3) := by decide +kernel
theorem dX11_knew_20 : decode cX11_knew 20 = .ok (.if_icmp .ge 119, 3) := by decide +kernel
theorem dX11_knew_23 : decode cX11_knew 23 = .ok (.aload_n 0, 1) := by decide +kernel
theorem dX11_knew_24 : decode cX11_knew 24 = .ok (.getfield 86, 3) := by decide +kernel
theorem dX11_knew_27 : decode cX11_knew 27 = .ok (.getfield 232, 3) := by decide +kernel
theorem dX11_knew_30 : decode cX11_knew 30 = .ok (.getfield 272, 3) := by decide +kernel
theorem dX11_knew_33 : decode cX11_knew 33 = .ok (.iload 5, 2) := by decide +kernel
theorem dX11_knew_35 : decode cX11_knew 35 = .ok (.iaload, 1) := by decide +kernel
theorem dX11_knew_36 : decode cX11_knew 36 = .ok (.iload_n 1, 1) := by decide +kernel
theorem dX11_knew_37 : decode cX11_knew 37 = .ok (.if_icmp .eq 6, 3) := by decide +kernel
theorem dX11_knew_40 : decode cX11_knew 40 = .ok (.goto 93, 3) := by decide +kernel
theorem dX11_knew_43 : decode cX11_knew 43 = .ok (.aload_n 0, 1) := by decide +kernel
theorem dX11_knew_44 : decode cX11_knew 44 = .ok (.getfield 86, 3) := by decide +kernel
theorem dX11_knew_47 : decode cX11_knew 47 = .ok (.getfield 232, 3) := by decide +kernel
theorem dX11_knew_50 : decode cX11_knew 50 = .ok (.getfield 347, 3) := by decide +kernel
theorem dX11_knew_53 : decode cX11_knew 53 = .ok (.iload 5, 2) := by decide +kernel
theorem dX11_knew_55 : decode cX11_knew 55 = .ok (.iaload, 1) := by decide +kernel
theorem dX11_knew_56 : decode cX11_knew 56 = .ok (.istore 6, 2) := by decide +kernel
theorem dX11_knew_58 : decode cX11_knew 58 = .ok (.aload_n 0, 1) := by decide +kernel
theorem dX11_knew_59 : decode cX11_knew 59 = .ok (.iload_n 1, 1) := by decide +kernel
theorem dX11_knew_60 : decode cX11_knew 60 = .ok (.aload_n 0, 1) := by decide +kernel
theorem dX11_knew_61 : decode cX11_knew 61 = .ok (.getfield 86, 3) := by decide +kernel
theorem dX11_knew_64 : decode cX11_knew 64 = .ok (.getfield 232, 3) := by decide +kernel
theorem dX11_knew_67 : decode cX11_knew 67 = .ok (.getfield 269, 3) := by decide +kernel
theorem dX11_knew_70 : decode cX11_knew 70 = .ok (.iload 5, 2) := by decide +kernel
theorem dX11_knew_72 : decode cX11_knew 72 = .ok (.iaload, 1) := by decide +kernel
theorem dX11_knew_73 : decode cX11_knew 73 = .ok (.invokevirtual 350, 3) := by decide +kernel
theorem dX11_knew_76 : decode cX11_knew 76 = .ok (.istore 7, 2) := by decide +kernel
theorem dX11_knew_78 : decode cX11_knew 78 = .ok (.iload 6, 2) := by decide +kernel
theorem dX11_knew_80 : decode cX11_knew 80 = .ok (.bipush (-5), 2) := by decide +kernel
theorem dX11_knew_82 : decode cX11_knew 82 = .ok (.if_icmp .ne 13, 3) := by decide +kernel
theorem dX11_knew_85 : decode cX11_knew 85 = .ok (.iload 4, 2) := by decide +kernel
theorem dX11_knew_87 : decode cX11_knew 87 = .ok (.iload 7, 2) := by decide +kernel
theorem dX11_knew_89 : decode cX11_knew 89 = .ok (.ior, 1) := by decide +kernel
theorem dX11_knew_90 : decode cX11_knew 90 = .ok (.istore 4, 2) := by decide +kernel
theorem dX11_knew_92 : decode cX11_knew 92 = .ok (.goto 41, 3) := by decide +kernel
theorem dX11_knew_95 : decode cX11_knew 95 = .ok (.iload_n 3, 1) := by decide +kernel
theorem dX11_knew_96 : decode cX11_knew 96 = .ok (.iconst 1, 1) := by decide +kernel
theorem dX11_knew_97 : decode cX11_knew 97 = .ok (.iload 6, 2) := by decide +kernel
theorem dX11_knew_99 : decode cX11_knew 99 = .ok (.ishl, 1) := by decide +kernel
theorem dX11_knew_100 : decode cX11_knew 100 = .ok (.ior, 1) := by decide +kernel
theorem dX11_knew_101 : decode cX11_knew 101 = .ok (.istore_n 3, 1) := by decide +kernel
theorem dX11_knew_102 : decode cX11_knew 102 = .ok (.iload 4, 2) := by decide +kernel
theorem dX11_knew_104 : decode cX11_knew 104 = .ok (.iload 7, 2) := by decide +kernel
theorem dX11_knew_106 : decode cX11_knew 106 = .ok (.iload 6, 2) := by decide +kernel
theorem dX11_knew_108 : decode cX11_knew 108 = .ok (.ishr, 1) := by decide +kernel
theorem dX11_knew_109 : decode cX11_knew 109 = .ok (.iconst 1, 1) := by decide +kernel
theorem dX11_knew_110 : decode cX11_knew 110 = .ok (.iand, 1) := by decide +kernel
theorem dX11_knew_111 : decode cX11_knew 111 = .ok (.iconst 1, 1) := by decide +kernel
theorem dX11_knew_112 : decode cX11_knew 112 = .ok (.if_icmp .ne 14, 3) := by decide +kernel
theorem dX11_knew_115 : decode cX11_knew 115 = .ok (.aload_n 0, 1) := by decide +kernel
theorem dX11_knew_116 : decode cX11_knew 116 = .ok (.iload 6, 2) := by decide +kernel
theorem dX11_knew_118 : decode cX11_knew 118 = .ok (.iload 7, 2) := by decide +kernel
theorem dX11_knew_120 : decode cX11_knew 120 = .ok (.invokevirtual 353, 3) := by decide +kernel
theorem dX11_knew_123 : decode cX11_knew 123 = .ok (.goto 7, 3) := by decide +kernel
theorem dX11_knew_126 : decode cX11_knew 126 = .ok (.iconst 1, 1) := by decide +kernel
theorem dX11_knew_127 : decode cX11_knew 127 = .ok (.iload 6, 2) := by decide +kernel
theorem dX11_knew_129 : decode cX11_knew 129 = .ok (.ishl, 1) := by decide +kernel
theorem dX11_knew_130 : decode cX11_knew 130 = .ok (.ior, 1) := by decide +kernel
theorem dX11_knew_131 : decode cX11_knew 131 = .ok (.istore 4, 2) := by decide +kernel
theorem dX11_knew_133 : decode cX11_knew 133 = .ok (.iinc 5 1, 3) := by decide +kernel
theorem dX11_knew_136 : decode cX11_knew 136 = .ok (.goto (-128), 3) := by decide +kernel
theorem dX11_knew_139 : decode cX11_knew 139 = .ok (.iload_n 3, 1) := by decide +kernel
theorem dX11_knew_140 : decode cX11_knew 140 = .ok (.iload 4, 2) := by decide +kernel
theorem dX11_knew_142 : decode cX11_knew 142 = .ok (.iand, 1) := by decide +kernel
theorem dX11_knew_143 : decode cX11_knew 143 = .ok (.ifCond .eq 14, 3) := by decide +kernel
theorem dX11_knew_146 : decode cX11_knew 146 = .ok (.iload_n 2, 1) := by decide +kernel
theorem dX11_knew_147 : decode cX11_knew 147 = .ok (.ifCond .eq 8, 3) := by decide +kernel
theorem dX11_knew_150 : decode cX11_knew 150 = .ok (.bipush (-5), 2) := by decide +kernel
theorem dX11_knew_152 : decode cX11_knew 152 = .ok (.goto 4, 3) := by decide +kernel
theorem dX11_knew_155 : decode cX11_knew 155 = .ok (.iconst 0, 1) := by decide +kernel
theorem dX11_knew_156 : decode cX11_knew 156 = .ok (.ireturn, 1) := by decide +kernel
theorem dX11_knew_157 : decode cX11_knew 157 = .ok (.iload_n 2, 1) := by decide +kernel
theorem dX11_knew_158 : decode cX11_knew 158 = .ok (.ifCond .eq 7, 3) := by decide +kernel
theorem dX11_knew_161 : decode cX11_knew 161 = .ok (.iload_n 3, 1) := by decide +kernel
theorem dX11_knew_162 : decode cX11_knew 162 = .ok (.goto 15, 3) := by decide +kernel
theorem dX11_knew_165 : decode cX11_knew 165 = .ok (.iconst 1, 1) := by decide +kernel
theorem dX11_knew_166 : decode cX11_knew 166 = .ok (.bipush 12, 2) := by decide +kernel
theorem dX11_knew_168 : decode cX11_knew 168 = .ok (.iload_n 3, 1) := by decide +kernel
theorem dX11_knew_169 : decode cX11_knew 169 = .ok (.iload 4, 2) := by decide +kernel
theorem dX11_knew_171 : decode cX11_knew 171 = .ok (.ior, 1) := by decide +kernel
theorem dX11_knew_172 : decode cX11_knew 172 = .ok (.invokestatic 255, 3) := by decide +kernel
theorem dX11_knew_175 : decode cX11_knew 175 = .ok (.isub, 1) := by decide +kernel
theorem dX11_knew_176 : decode cX11_knew 176 = .ok (.ishl, 1) := by decide +kernel
theorem dX11_knew_177 : decode cX11_knew 177 = .ok (.ireturn, 1) := by decide +kernel
set_option maxRecDepth 20000 in
theorem ggX11_knew_X11_wordsOpenTo : GoodIn wsX11_knew wsX11_wordsOpenTo := goodIn_r _ [11, 1, 12, 13, 14, 15, 16, 17, 18, 19, 20, 21, 22, 23, 10, 24, 25, 26, 27, 28, 29, 30, 31, 32, 33, 34, 35, 36, 37, 38, 39, 40, 41, 42, 43, 44, 45, 46, 47, 48, 49, 50, 51, 52, 53, 54, 55, 56, 57, 58, 59, 60, 61, 62, 63, 64, 65, 66, 67, 68, 69, 70, 71, 72, 73, 74, 75, 76, 77, 78, 79, 80, 81, 82, 83, 84, 85, 86, 87, 88, 89, 101, 102, 103, 104, 105, 106, 107, 108, 109, 110, 111, 112, 113, 114, 115, 116, 117, 118, 119, 120, 121, 122, 123, 124, 125, 126, 127, 128, 129, 130, 131, 132, 133, 134, 135, 136, 141, 142, 143, 144, 145, 146, 147, 148] (by decide +kernel) (by decide +kernel)
set_option maxRecDepth 20000 in
theorem gX11_knew_X11_wordsOpenTo : GoodIn wsX11_knew (wsV RX11 350 RX11 yX11_wordsOpenTo wsX11_wordsOpenTo) := goodIn_app (goodIn_of _ (by decide +kernel)) ggX11_knew_X11_wordsOpenTo
set_option maxRecDepth 20000 in
theorem ggX11_knew_X11_aheadOf : GoodIn wsX11_knew wsX11_aheadOf := goodIn_r _ [93, 13, 101, 102, 103, 104, 105, 106, 107, 108, 109, 110, 111, 112, 113, 114, 115, 116, 117, 118, 119] (by decide +kernel) (by decide +kernel)
set_option maxRecDepth 20000 in
theorem gX11_knew_X11_aheadOf : GoodIn wsX11_knew (wsV RX11 353 RX11 yX11_aheadOf wsX11_aheadOf) := goodIn_app (goodIn_of _ (by decide +kernel)) ggX11_knew_X11_aheadOf
set_option maxRecDepth 20000 in
theorem ggX11_knew_J6_bitCount_0f7a4 : GoodIn wsX11_knew wsJ6_bitCount_0f7a4 := goodIn_r _ [97, 98, 99, 100] (by decide +kernel) (by decide +kernel)
set_option maxRecDepth 20000 in
theorem gX11_knew_J6_bitCount_0f7a4 : GoodIn wsX11_knew (va_wsS RX11 255 yJ6_bitCount_0f7a4 wsJ6_bitCount_0f7a4) := goodIn_app (goodIn_of _ (by decide +kernel)) ggX11_knew_J6_bitCount_0f7a4
def fX11_knew_133 (rec8 : Int32 → Int32 → Int32 → Int32 → Int32 → c_G → Option (c_G × Int32)) (a1 : Int32) (a2 : Int32) (x1 : Int32) (x2 : Int32) (x3 : Int32) (x4 : Int32) (x5 : Int32) (g : c_G) : Option (c_G × Int32) :=
  c_let (x5 + (1 : Int32)) fun v133001 => rec8 x1 x2 x3 x4 v133001 g
set_option maxRecDepth 100000 in
set_option maxHeartbeats 4000000 in
theorem jX11_knew_133 {p : Program} {l : Launch} {e : Env} {s : State} {m : MethodId} {below : List Frame} {meth : Method} {c : Code} {D : va_G} {tc : Nat → ClassId} {ad : Nat → Nat} {A : Nat → Prop} {E : (Nat → Nat) × (Nat → Nat) × Nat} {a1 : Int32} {a2 : Int32} {g' : c_G} {r : Int32} (C : c_C p s m meth c D tc A E RX11 wsX11_knew cX11_knew 8 (some .int) ([.ref (ad 0), .int a1, .int a2] : List Value).toArray) (hD : c_D A ad TC) {rec8 : Int32 → Int32 → Int32 → Int32 → Int32 → c_G → Option (c_G × Int32)} (hrec8 : ∀ (x1 : Int32) (x2 : Int32) (x3 : Int32) (x4 : Int32) (x5 : Int32) (g : c_G), rec8 x1 x2 x3 x4 x5 g = some (g', r) → ∀ (H : Heap) (locs : List Loc), va_P D vwCl (c_ws tc ad TC g) H → va_S A s.heap H locs → ∀ ls : Array Slot, lv_has ls 8 [(0, .ref (ad 0)), (1, .int x1), (2, .int x2), (3, .int x3), (4, .int x4), (5, .int x5)] → W p l e (c_rm 4) s m ([.ref (ad 0), .int a1, .int a2] : List Value).toArray below meth c H locs 0 0 (MQ below (va_Qi (fun (x : Int32) (_ : Unit) => x = r) (fun _ t => va_P D vwCl (c_ws tc ad TC g') t.heap) A) ([.ref (ad 0), .int a1, .int a2] : List Value).toArray s 0 0 A) (F0 m 8 ls [])) : ∀ (x1 : Int32) (x2 : Int32) (x3 : Int32) (x4 : Int32) (x5 : Int32) (g : c_G), fX11_knew_133 rec8 a1 a2 x1 x2 x3 x4 x5 g = some (g', r) → ∀ (H : Heap) (locs : List Loc), va_P D vwCl (c_ws tc ad TC g) H → va_S A s.heap H locs → ∀ ls : Array Slot, lv_has ls 8 [(0, .ref (ad 0)), (1, .int x1), (2, .int x2), (3, .int x3), (4, .int x4), (5, .int x5)] → W p l e (c_rm 4) s m ([.ref (ad 0), .int a1, .int a2] : List Value).toArray below meth c H locs 0 0 (MQ below (va_Qi (fun (x : Int32) (_ : Unit) => x = r) (fun _ t => va_P D vwCl (c_ws tc ad TC g') t.heap) A) ([.ref (ad 0), .int a1, .int a2] : List Value).toArray s 0 0 A) (F0 m 133 ls []) := by
  obtain ⟨hx, hb, hr, hml, hts, hown, hlk, hK, hE⟩ := id C
  intro x1 x2 x3 x4 x5 g hf H locs hP hS ls hl
  unfold fX11_knew_133 at hf
  obtain ⟨v133001, ev133001, hf⟩ := c_letE hf
  refine lv_iinc (v := v133001) (lv' := [(5, .int v133001), (0, .ref (ad 0)), (1, .int x1), (2, .int x2), (3, .int x3), (4, .int x4)]) hx hb dX11_knew_133 hl (k := 5) rfl (by rw [ev133001]; rfl) (by decide) rfl (fun ls hl => ?_)
  refine lv_goto (tgt := 8) hx hb dX11_knew_136 (by decide) ?_
  exact hrec8 x1 x2 x3 x4 v133001 g hf _ _ hP hS _ (lv_sub hl [1, 2, 3, 4, 5, 0] rfl)
def fX11_knew_130 (rec8 : Int32 → Int32 → Int32 → Int32 → Int32 → c_G → Option (c_G × Int32)) (a1 : Int32) (a2 : Int32) (x1 : Int32) (x2 : Int32) (x3 : Int32) (x5 : Int32) (y0 : Int32) (y1 : Int32) (g : c_G) : Option (c_G × Int32) :=
  c_let ((y0 ||| y1)) fun v130001 => fX11_knew_133 rec8 a1 a2 x1 x2 x3 v130001 x5 g
set_option maxRecDepth 100000 in
set_option maxHeartbeats 4000000 in
theorem jX11_knew_130 {p : Program} {l : Launch} {e : Env} {s : State} {m : MethodId} {below : List Frame} {meth : Method} {c : Code} {D : va_G} {tc : Nat → ClassId} {ad : Nat → Nat} {A : Nat → Prop} {E : (Nat → Nat) × (Nat → Nat) × Nat} {a1 : Int32} {a2 : Int32} {g' : c_G} {r : Int32} (C : c_C p s m meth c D tc A E RX11 wsX11_knew cX11_knew 8 (some .int) ([.ref (ad 0), .int a1, .int a2] : List Value).toArray) (hD : c_D A ad TC) {rec8 : Int32 → Int32 → Int32 → Int32 → Int32 → c_G → Option (c_G × Int32)} (hrec8 : ∀ (x1 : Int32) (x2 : Int32) (x3 : Int32) (x4 : Int32) (x5 : Int32) (g : c_G), rec8 x1 x2 x3 x4 x5 g = some (g', r) → ∀ (H : Heap) (locs : List Loc), va_P D vwCl (c_ws tc ad TC g) H → va_S A s.heap H locs → ∀ ls : Array Slot, lv_has ls 8 [(0, .ref (ad 0)), (1, .int x1), (2, .int x2), (3, .int x3), (4, .int x4), (5, .int x5)] → W p l e (c_rm 4) s m ([.ref (ad 0), .int a1, .int a2] : List Value).toArray below meth c H locs 0 0 (MQ below (va_Qi (fun (x : Int32) (_ : Unit) => x = r) (fun _ t => va_P D vwCl (c_ws tc ad TC g') t.heap) A) ([.ref (ad 0), .int a1, .int a2] : List Value).toArray s 0 0 A) (F0 m 8 ls [])) : ∀ (x1 : Int32) (x2 : Int32) (x3 : Int32) (x5 : Int32) (y0 : Int32) (y1 : Int32) (g : c_G), fX11_knew_130 rec8 a1 a2 x1 x2 x3 x5 y0 y1 g = some (g', r) → ∀ (H : Heap) (locs : List Loc), va_P D vwCl (c_ws tc ad TC g) H → va_S A s.heap H locs → ∀ ls : Array Slot, lv_has ls 8 [(0, .ref (ad 0)), (1, .int x1), (2, .int x2), (3, .int x3), (5, .int x5)] → W p l e (c_rm 4) s m ([.ref (ad 0), .int a1, .int a2] : List Value).toArray below meth c H locs 0 0 (MQ below (va_Qi (fun (x : Int32) (_ : Unit) => x = r) (fun _ t => va_P D vwCl (c_ws tc ad TC g') t.heap) A) ([.ref (ad 0), .int a1, .int a2] : List Value).toArray s 0 0 A) (F0 m 130 ls [.int y1, .int y0]) := by
  obtain ⟨hx, hb, hr, hml, hts, hown, hlk, hK, hE⟩ := id C
  intro x1 x2 x3 x5 y0 y1 g hf H locs hP hS ls hl
  unfold fX11_knew_130 at hf
  refine lv_ior hx hb dX11_knew_130 ?_
  obtain ⟨v130001, ev130001, hf⟩ := c_letE hf
  refine c_topi ev130001 ?_
  refine lv_istore (lv' := [(4, .int v130001), (0, .ref (ad 0)), (1, .int x1), (2, .int x2), (3, .int x3), (5, .int x5)]) hx hb dX11_knew_131 hl (by decide) rfl (fun ls hl => ?_)
  exact jX11_knew_133 C hD hrec8 x1 x2 x3 v130001 x5 g hf _ _ hP hS _ (lv_sub hl [1, 2, 3, 4, 0, 5] rfl)
def fX11_knew_8  (a1 : Int32) (a2 : Int32) : Nat → Int32 → Int32 → Int32 → Int32 → Int32 → c_G → Option (c_G × Int32)
  | 0, _, _, _, _, _, _ => none
  | n + 1, x1, x2, x3, x4, x5, g => if (g.1 66 3) ≤ x5 then (if (x3 &&& x4) = 0 then (if x2 = 0 then (some (g, ((1 : Int32) <<< (((12 : Int32) - (fJ6_bitCount_0f7a4 ((x3 ||| x4)))) &&& 31)))) else (some (g, x3))) else (if x2 = 0 then (some (g, (0 : Int32))) else (some (g, (-5 : Int32))))) else (if c_in (x5) (5) = true then if (g.1 67 (x5).toNatClampNeg) = x1 then (c_b2 (fX11_wordsOpenTo g x1 ((g.1 68 (x5).toNatClampNeg))) fun g8008 r8009 => if (g.1 69 (x5).toNatClampNeg) = (-5 : Int32) then (c_let ((x4 ||| r8009)) fun v8015 => fX11_knew_133 (fX11_knew_8 a1 a2 n) a1 a2 x1 x2 x3 v8015 x5 g8008) else (c_let ((x3 ||| ((1 : Int32) <<< ((g.1 69 (x5).toNatClampNeg) &&& 31)))) fun v8011 => if ((r8009 >>> ((g.1 69 (x5).toNatClampNeg) &&& 31)) &&& (1 : Int32)) = (1 : Int32) then ((fX11_aheadOf g8008 ((g.1 69 (x5).toNatClampNeg)) r8009).bind fun r8013 => fX11_knew_130 (fX11_knew_8 a1 a2 n) a1 a2 x1 x2 v8011 x5 x4 r8013 g8008) else (fX11_knew_130 (fX11_knew_8 a1 a2 n) a1 a2 x1 x2 v8011 x5 x4 (((1 : Int32) <<< ((g.1 69 (x5).toNatClampNeg) &&& 31))) g8008))) else (fX11_knew_133 (fX11_knew_8 a1 a2 n) a1 a2 x1 x2 x3 x4 x5 g) else none)
set_option maxRecDepth 100000 in
set_option maxHeartbeats 4000000 in
theorem jX11_knew_8 {p : Program} {l : Launch} {e : Env} {s : State} {m : MethodId} {below : List Frame} {meth : Method} {c : Code} {D : va_G} {tc : Nat → ClassId} {ad : Nat → Nat} {A : Nat → Prop} {E : (Nat → Nat) × (Nat → Nat) × Nat} {a1 : Int32} {a2 : Int32} {g' : c_G} {r : Int32} (C : c_C p s m meth c D tc A E RX11 wsX11_knew cX11_knew 8 (some .int) ([.ref (ad 0), .int a1, .int a2] : List Value).toArray) (hD : c_D A ad TC)  : ∀ (n : Nat) (x1 : Int32) (x2 : Int32) (x3 : Int32) (x4 : Int32) (x5 : Int32) (g : c_G), fX11_knew_8 a1 a2 n x1 x2 x3 x4 x5 g = some (g', r) → ∀ (H : Heap) (locs : List Loc), va_P D vwCl (c_ws tc ad TC g) H → va_S A s.heap H locs → ∀ ls : Array Slot, lv_has ls 8 [(0, .ref (ad 0)), (1, .int x1), (2, .int x2), (3, .int x3), (4, .int x4), (5, .int x5)] → W p l e (c_rm 4) s m ([.ref (ad 0), .int a1, .int a2] : List Value).toArray below meth c H locs 0 0 (MQ below (va_Qi (fun (x : Int32) (_ : Unit) => x = r) (fun _ t => va_P D vwCl (c_ws tc ad TC g') t.heap) A) ([.ref (ad 0), .int a1, .int a2] : List Value).toArray s 0 0 A) (F0 m 8 ls []) := by
  obtain ⟨hx, hb, hr, hml, hts, hown, hlk, hK, hE⟩ := id C
  intro n
  induction n with
  | zero =>
    intro x1 x2 x3 x4 x5 g hf
    cases hf
  | succ n ih =>
    intro x1 x2 x3 x4 x5 g hf H locs hP hS ls hl
    unfold fX11_knew_8 at hf
    refine lv_iload hx hb dX11_knew_8 (lv_at hl 5 rfl) ?_
    refine lv_aload_n hx hb dX11_knew_10 rfl (lv_at hl 0 rfl) ?_
    refine c_get hx hb hts i_X11_knew_X11 hown hK hP 0 tC0 rfl 5 (by decide) (hts _ (List.mem_of_getElem? (i := 1) rfl)) (fun _ h9 => h9) rfl (v := .ref (ad 55)) rfl dX11_knew_11 ?_
    refine c_get hx hb hts i_X11_knew_X7 hown hK hP 55 tC55 rfl 13 (by decide) (hts _ (List.mem_of_getElem? (i := 2) rfl)) (fun _ h9 => h9) rfl (v := .ref (ad 66)) rfl dX11_knew_14 ?_
    refine c_get hx hb hts i_X11_knew_X5 hown hK hP 66 tC66 rfl 3 (by decide) (hts _ (List.mem_of_getElem? (i := 3) rfl)) (fun _ h9 => h9) rfl (v := .int (g.1 66 3)) rfl dX11_knew_17 ?_
    refine lv_icmp_ge (tgt := 139) hx hb dX11_knew_20 (by decide) (fun c8001 => ?_) (fun c8001 => ?_)
    · have hf := c_it c8001 hf
      refine lv_iload_n hx hb dX11_knew_139 rfl (lv_at hl 3 rfl) ?_
      refine lv_iload hx hb dX11_knew_140 (lv_at hl 4 rfl) ?_
      refine lv_iand hx hb dX11_knew_142 ?_
      refine lv_if_eq (tgt := 157) hx hb dX11_knew_143 (by decide) (fun c8002 => ?_) (fun c8002 => ?_)
      · have hf := c_it c8002 hf
        refine lv_iload_n hx hb dX11_knew_157 rfl (lv_at hl 2 rfl) ?_
        refine lv_if_eq (tgt := 165) hx hb dX11_knew_158 (by decide) (fun c8003 => ?_) (fun c8003 => ?_)
        · have hf := c_it c8003 hf
          refine lv_iconst (v := (1 : Int32)) hx hb dX11_knew_165 (by decide) ?_
          refine lv_bipush (v := (12 : Int32)) hx hb dX11_knew_166 (by decide) ?_
          refine lv_iload_n hx hb dX11_knew_168 rfl (lv_at hl 3 rfl) ?_
          refine lv_iload hx hb dX11_knew_169 (lv_at hl 4 rfl) ?_
          refine lv_ior hx hb dX11_knew_171 ?_
          refine c_goi (va_runS (As := [.int (x3 ||| x4)]) (rest := [.int (12 : Int32), .int (1 : Int32)]) ⟨hx, hb, hml, hown, hts⟩ (kJ6_bitCount_0f7a4 (T := TC) (g := g) rfl) (va_cwS 1 hts gX11_knew_J6_bitCount_0f7a4 rfl rfl rfl (by decide +kernel) ⟨Nat.le_of_ble_eq_true rfl, Nat.le_of_ble_eq_true rfl⟩) (c_preS hK hP hE hS) rfl rfl hl.1 rfl (lv_room (Nat.le_of_ble_eq_true rfl)) dX11_knew_172 ⟨Nat.zero_le _, Nat.zero_le _⟩) hS (fun H locs hP hS => ?_)
          refine lv_isub hx hb dX11_knew_175 ?_
          refine lv_ishl hx hb dX11_knew_176 ?_
          exact c_iret hx hb hr hlk hP hS rfl (c_inj hf) dX11_knew_177
        · have hf := c_ie c8003 hf
          refine lv_iload_n hx hb dX11_knew_161 rfl (lv_at hl 3 rfl) ?_
          refine lv_goto (tgt := 177) hx hb dX11_knew_162 (by decide) ?_
          exact c_iret hx hb hr hlk hP hS rfl (c_inj hf) dX11_knew_177
      · have hf := c_ie c8002 hf
        refine lv_iload_n hx hb dX11_knew_146 rfl (lv_at hl 2 rfl) ?_
        refine lv_if_eq (tgt := 155) hx hb dX11_knew_147 (by decide) (fun c8004 => ?_) (fun c8004 => ?_)
        · have hf := c_it c8004 hf
          refine lv_iconst (v := (0 : Int32)) hx hb dX11_knew_155 (by decide) ?_
          exact c_iret hx hb hr hlk hP hS rfl (c_inj hf) dX11_knew_156
        · have hf := c_ie c8004 hf
          refine lv_bipush (v := (-5 : Int32)) hx hb dX11_knew_150 (by decide) ?_
          refine lv_goto (tgt := 156) hx hb dX11_knew_152 (by decide) ?_
          exact c_iret hx hb hr hlk hP hS rfl (c_inj hf) dX11_knew_156
    · have hf := c_ie c8001 hf
      refine lv_aload_n hx hb dX11_knew_23 rfl (lv_at hl 0 rfl) ?_
      refine c_get hx hb hts i_X11_knew_X11 hown hK hP 0 tC0 rfl 5 (by decide) (hts _ (List.mem_of_getElem? (i := 1) rfl)) (fun _ h9 => h9) rfl (v := .ref (ad 55)) rfl dX11_knew_24 ?_
      refine c_get hx hb hts i_X11_knew_X7 hown hK hP 55 tC55 rfl 13 (by decide) (hts _ (List.mem_of_getElem? (i := 2) rfl)) (fun _ h9 => h9) rfl (v := .ref (ad 66)) rfl dX11_knew_27 ?_
      refine c_get hx hb hts i_X11_knew_X5 hown hK hP 66 tC66 rfl 0 (by decide) (hts _ (List.mem_of_getElem? (i := 4) rfl)) (fun _ h9 => h9) rfl (v := .ref (ad 67)) rfl dX11_knew_30 ?_
      refine lv_iload hx hb dX11_knew_33 (lv_at hl 5 rfl) ?_
      obtain ⟨hi8005, hf⟩ := c_gd hf
      refine c_iald (j := (x5).toNatClampNeg) hx hb hK hP 67 tC67 rfl (c_inV hi8005) dX11_knew_35 ?_
      refine lv_iload_n hx hb dX11_knew_36 rfl (lv_at hl 1 rfl) ?_
      refine lv_icmp_eq (tgt := 43) hx hb dX11_knew_37 (by decide) (fun c8006 => ?_) (fun c8006 => ?_)
      · have hf := c_it c8006 hf
        refine lv_aload_n hx hb dX11_knew_43 rfl (lv_at hl 0 rfl) ?_
        refine c_get hx hb hts i_X11_knew_X11 hown hK hP 0 tC0 rfl 5 (by decide) (hts _ (List.mem_of_getElem? (i := 1) rfl)) (fun _ h9 => h9) rfl (v := .ref (ad 55)) rfl dX11_knew_44 ?_
        refine c_get hx hb hts i_X11_knew_X7 hown hK hP 55 tC55 rfl 13 (by decide) (hts _ (List.mem_of_getElem? (i := 2) rfl)) (fun _ h9 => h9) rfl (v := .ref (ad 66)) rfl dX11_knew_47 ?_
        refine c_get hx hb hts i_X11_knew_X5 hown hK hP 66 tC66 rfl 2 (by decide) (hts _ (List.mem_of_getElem? (i := 5) rfl)) (fun _ h9 => h9) rfl (v := .ref (ad 69)) rfl dX11_knew_50 ?_
        refine lv_iload hx hb dX11_knew_53 (lv_at hl 5 rfl) ?_
        refine c_iald (j := (x5).toNatClampNeg) hx hb hK hP 69 tC69 rfl (c_inV hi8005) dX11_knew_55 ?_
        refine lv_istore (lv' := [(6, .int (g.1 69 (x5).toNatClampNeg)), (0, .ref (ad 0)), (1, .int x1), (2, .int x2), (3, .int x3), (4, .int x4), (5, .int x5)]) hx hb dX11_knew_56 hl (by decide) rfl (fun ls hl => ?_)
        refine lv_aload_n hx hb dX11_knew_58 rfl (lv_at hl 1 rfl) ?_
        refine lv_iload_n hx hb dX11_knew_59 rfl (lv_at hl 2 rfl) ?_
        refine lv_aload_n hx hb dX11_knew_60 rfl (lv_at hl 1 rfl) ?_
        refine c_get hx hb hts i_X11_knew_X11 hown hK hP 0 tC0 rfl 5 (by decide) (hts _ (List.mem_of_getElem? (i := 1) rfl)) (fun _ h9 => h9) rfl (v := .ref (ad 55)) rfl dX11_knew_61 ?_
        refine c_get hx hb hts i_X11_knew_X7 hown hK hP 55 tC55 rfl 13 (by decide) (hts _ (List.mem_of_getElem? (i := 2) rfl)) (fun _ h9 => h9) rfl (v := .ref (ad 66)) rfl dX11_knew_64 ?_
        refine c_get hx hb hts i_X11_knew_X5 hown hK hP 66 tC66 rfl 1 (by decide) (hts _ (List.mem_of_getElem? (i := 6) rfl)) (fun _ h9 => h9) rfl (v := .ref (ad 68)) rfl dX11_knew_67 ?_
        refine lv_iload hx hb dX11_knew_70 (lv_at hl 6 rfl) ?_
        refine c_iald (j := (x5).toNatClampNeg) hx hb hK hP 68 tC68 rfl (c_inV hi8005) dX11_knew_72 ?_
        obtain ⟨g8008, r8009, hc8007, hf⟩ := c_b2E hf
        refine c_goi (va_runV (As := [.int x1, .int (g.1 68 (x5).toNatClampNeg)]) (rest := []) ⟨hx, hb, hml, hown, hts⟩ (kX11_wordsOpenTo hD hc8007) (cwV 2 hts gX11_knew_X11_wordsOpenTo rfl rfl rfl (by decide +kernel) ⟨Nat.le_of_ble_eq_true rfl, Nat.le_of_ble_eq_true rfl⟩) (c_preV hK hP hE hS tC0 rfl) rfl rfl hl.1 rfl (lv_room (Nat.le_of_ble_eq_true rfl)) dX11_knew_73 ⟨Nat.zero_le _, Nat.zero_le _⟩) hS (fun H locs hP hS => ?_)
        refine lv_istore (lv' := [(7, .int r8009), (6, .int (g.1 69 (x5).toNatClampNeg)), (0, .ref (ad 0)), (1, .int x1), (2, .int x2), (3, .int x3), (4, .int x4), (5, .int x5)]) hx hb dX11_knew_76 hl (by decide) rfl (fun ls hl => ?_)
        refine lv_iload hx hb dX11_knew_78 (lv_at hl 1 rfl) ?_
        refine lv_bipush (v := (-5 : Int32)) hx hb dX11_knew_80 (by decide) ?_
        refine lv_icmp_ne (tgt := 95) hx hb dX11_knew_82 (by decide) (fun c8010 => ?_) (fun c8010 => ?_)
        · have hf := c_ie c8010 hf
          refine lv_iload_n hx hb dX11_knew_95 rfl (lv_at hl 5 rfl) ?_
          refine lv_iconst (v := (1 : Int32)) hx hb dX11_knew_96 (by decide) ?_
          refine lv_iload hx hb dX11_knew_97 (lv_at hl 1 rfl) ?_
          refine lv_ishl hx hb dX11_knew_99 ?_
          refine lv_ior hx hb dX11_knew_100 ?_
          obtain ⟨v8011, ev8011, hf⟩ := c_letE hf
          refine c_topi ev8011 ?_
          refine lv_istore_n (lv' := [(3, .int v8011), (7, .int r8009), (6, .int (g.1 69 (x5).toNatClampNeg)), (0, .ref (ad 0)), (1, .int x1), (2, .int x2), (4, .int x4), (5, .int x5)]) hx hb dX11_knew_101 rfl hl (by decide) rfl (fun ls hl => ?_)
          refine lv_iload hx hb dX11_knew_102 (lv_at hl 6 rfl) ?_
          refine lv_iload hx hb dX11_knew_104 (lv_at hl 1 rfl) ?_
          refine lv_iload hx hb dX11_knew_106 (lv_at hl 2 rfl) ?_
          refine lv_ishr hx hb dX11_knew_108 ?_
          refine lv_iconst (v := (1 : Int32)) hx hb dX11_knew_109 (by decide) ?_
          refine lv_iand hx hb dX11_knew_110 ?_
          refine lv_iconst (v := (1 : Int32)) hx hb dX11_knew_111 (by decide) ?_
          refine lv_icmp_ne (tgt := 126) hx hb dX11_knew_112 (by decide) (fun c8012 => ?_) (fun c8012 => ?_)
          · have hf := c_ie c8012 hf
            refine lv_iconst (v := (1 : Int32)) hx hb dX11_knew_126 (by decide) ?_
            refine lv_iload hx hb dX11_knew_127 (lv_at hl 2 rfl) ?_
            refine lv_ishl hx hb dX11_knew_129 ?_
            exact jX11_knew_130 C hD ih x1 x2 v8011 x5 x4 (((1 : Int32) <<< ((g.1 69 (x5).toNatClampNeg) &&& 31))) g8008 hf _ _ hP hS _ (lv_sub hl [3, 4, 5, 0, 7] rfl)
          · have hf := c_it c8012 hf
            refine lv_aload_n hx hb dX11_knew_115 rfl (lv_at hl 3 rfl) ?_
            refine lv_iload hx hb dX11_knew_116 (lv_at hl 2 rfl) ?_
            refine lv_iload hx hb dX11_knew_118 (lv_at hl 1 rfl) ?_
            obtain ⟨r8013, hc8014, hf⟩ := c_bd hf
            refine c_goi (va_runV (As := [.int (g.1 69 (x5).toNatClampNeg), .int r8009]) (rest := [.int x4]) ⟨hx, hb, hml, hown, hts⟩ (kX11_aheadOf hD hc8014) (cwV 2 hts gX11_knew_X11_aheadOf rfl rfl rfl (by decide +kernel) ⟨Nat.le_of_ble_eq_true rfl, Nat.le_of_ble_eq_true rfl⟩) (c_preV hK hP hE hS tC0 rfl) rfl rfl hl.1 rfl (lv_room (Nat.le_of_ble_eq_true rfl)) dX11_knew_120 ⟨Nat.zero_le _, Nat.zero_le _⟩) hS (fun H locs hP hS => ?_)
            refine lv_goto (tgt := 130) hx hb dX11_knew_123 (by decide) ?_
            exact jX11_knew_130 C hD ih x1 x2 v8011 x5 x4 r8013 g8008 hf _ _ hP hS _ (lv_sub hl [3, 4, 5, 0, 7] rfl)
        · have hf := c_it c8010 hf
          refine lv_iload hx hb dX11_knew_85 (lv_at hl 6 rfl) ?_
          refine lv_iload hx hb dX11_knew_87 (lv_at hl 0 rfl) ?_
          refine lv_ior hx hb dX11_knew_89 ?_
          obtain ⟨v8015, ev8015, hf⟩ := c_letE hf
          refine c_topi ev8015 ?_
          refine lv_istore (lv' := [(4, .int v8015), (7, .int r8009), (6, .int (g.1 69 (x5).toNatClampNeg)), (0, .ref (ad 0)), (1, .int x1), (2, .int x2), (3, .int x3), (5, .int x5)]) hx hb dX11_knew_90 hl (by decide) rfl (fun ls hl => ?_)
          refine lv_goto (tgt := 133) hx hb dX11_knew_92 (by decide) ?_
          exact jX11_knew_133 C hD ih x1 x2 x3 v8015 x5 g8008 hf _ _ hP hS _ (lv_sub hl [3, 4, 5, 6, 0, 7] rfl)
      · have hf := c_ie c8006 hf
        refine lv_goto (tgt := 133) hx hb dX11_knew_40 (by decide) ?_
        exact jX11_knew_133 C hD ih x1 x2 x3 x4 x5 g hf _ _ hP hS _ (lv_sub hl [0, 1, 2, 3, 4, 5] rfl)
def fX11_knew (g : c_G) (a1 : Int32) (a2 : Int32) : Option (c_G × Int32) :=
  fX11_knew_8 a1 a2 c_F a1 a2 ((0 : Int32)) ((0 : Int32)) ((0 : Int32)) g
set_option maxRecDepth 100000 in
set_option maxHeartbeats 4000000 in
theorem kX11_knew {l : Launch} {D : va_G} {tc : Nat → ClassId} {ad : Nat → Nat} {A : Nat → Prop} {E : (Nat → Nat) × (Nat → Nat) × Nat} (hD : c_D A ad TC) {a1 : Int32} {a2 : Int32} {g g' : c_G} {r : Int32} (hf : fX11_knew g a1 a2 = some (g', r)) : c_Mi l yX11_knew wsX11_knew (c_rm 4) D tc ad A E TC ([.ref (ad 0), .int a1, .int a2] : List Value) g g' r := by
  refine c_ofW (bytes := cX11_knew) (maxL := 8) (ret := (some .int)) (by decide) rfl (Nat.le_of_ble_eq_true rfl) ?_
  intro p e s m below meth c ls C hP hS hl
  unfold fX11_knew at hf
  obtain ⟨hx, hb, hr, hml, hts, hown, hlk, hK, hE⟩ := id C
  have hl : lv_has ls 8 [(0, .ref (ad 0)), (1, .int a1), (2, .int a2)] := hl
  refine lv_iconst (v := (0 : Int32)) hx hb dX11_knew_0 (by decide) ?_
  refine lv_istore_n (lv' := [(3, .int (0 : Int32)), (0, .ref (ad 0)), (1, .int a1), (2, .int a2)]) hx hb dX11_knew_1 rfl hl (by decide) rfl (fun ls hl => ?_)
  refine lv_iconst (v := (0 : Int32)) hx hb dX11_knew_2 (by decide) ?_
  refine lv_istore (lv' := [(4, .int (0 : Int32)), (3, .int (0 : Int32)), (0, .ref (ad 0)), (1, .int a1), (2, .int a2)]) hx hb dX11_knew_3 hl (by decide) rfl (fun ls hl => ?_)
  refine lv_iconst (v := (0 : Int32)) hx hb dX11_knew_5 (by decide) ?_
  refine lv_istore (lv' := [(5, .int (0 : Int32)), (4, .int (0 : Int32)), (3, .int (0 : Int32)), (0, .ref (ad 0)), (1, .int a1), (2, .int a2)]) hx hb dX11_knew_6 hl (by decide) rfl (fun ls hl => ?_)
  exact jX11_knew_8 C hD c_F a1 a2 ((0 : Int32)) ((0 : Int32)) ((0 : Int32)) g hf _ _ hP hS _ (lv_sub hl [3, 4, 5, 2, 1, 0] rfl)
theorem dX11_isElder_0 : decode cX11_isElder 0 = .ok (.iload_n 0, 1) := by decide +kernel
theorem dX11_isElder_1 : decode cX11_isElder 1 = .ok (.ifCond .lt 13, 3) := by decide +kernel
theorem dX11_isElder_4 : decode cX11_isElder 4 = .ok (.iload_n 0, 1) := by decide +kernel
theorem dX11_isElder_5 : decode cX11_isElder 5 = .ok (.bipush 6, 2) := by decide +kernel
theorem dX11_isElder_7 : decode cX11_isElder 7 = .ok (.if_icmp .ge 7, 3) := by decide +kernel
theorem dX11_isElder_10 : decode cX11_isElder 10 = .ok (.iconst 1, 1) := by decide +kernel
theorem dX11_isElder_11 : decode cX11_isElder 11 = .ok (.goto 4, 3) := by decide +kernel
theorem dX11_isElder_14 : decode cX11_isElder 14 = .ok (.iconst 0, 1) := by decide +kernel
theorem dX11_isElder_15 : decode cX11_isElder 15 = .ok (.ireturn, 1) := by decide +kernel
def fX11_isElder (a1 : Int32) : Int32 :=
  if a1 < 0 then ((0 : Int32)) else (if (6 : Int32) ≤ a1 then ((0 : Int32)) else ((1 : Int32)))
set_option maxRecDepth 100000 in
set_option maxHeartbeats 4000000 in
theorem kX11_isElder {l : Launch} {D : va_G} {tc : Nat → ClassId} {ad : Nat → Nat} {A : Nat → Prop} {E : (Nat → Nat) × (Nat → Nat) × Nat} {T : List c_T} {a1 : Int32} {g : c_G} {r : Int32} (hf : fX11_isElder a1 = r) : c_Mi l yX11_isElder wsX11_isElder (c_rm 0) D tc ad A E T ([.int a1] : List Value) g g r := by
  refine c_ofW (bytes := cX11_isElder) (maxL := 1) (ret := (some .boolean)) (by decide) rfl (Nat.le_of_ble_eq_true rfl) ?_
  intro p e s m below meth c ls C hP hS hl
  unfold fX11_isElder at hf
  obtain ⟨hx, hb, hr, hml, hts, hown, hlk, hK, hE⟩ := id C
  have hl : lv_has ls 1 [(0, .int a1)] := hl
  refine lv_iload_n hx hb dX11_isElder_0 rfl (lv_at hl 0 rfl) ?_
  refine lv_if_lt (tgt := 14) hx hb dX11_isElder_1 (by decide) (fun c1 => ?_) (fun c1 => ?_)
  · have hf := c_it c1 hf
    refine lv_iconst (v := (0 : Int32)) hx hb dX11_isElder_14 (by decide) ?_
    exact c_iret hx hb hr hlk hP hS rfl ⟨rfl, hf⟩ dX11_isElder_15
  · have hf := c_ie c1 hf
    refine lv_iload_n hx hb dX11_isElder_4 rfl (lv_at hl 0 rfl) ?_
    refine lv_bipush (v := (6 : Int32)) hx hb dX11_isElder_5 (by decide) ?_
    refine lv_icmp_ge (tgt := 14) hx hb dX11_isElder_7 (by decide) (fun c2 => ?_) (fun c2 => ?_)
    · have hf := c_it c2 hf
      refine lv_iconst (v := (0 : Int32)) hx hb dX11_isElder_14 (by decide) ?_
      exact c_iret hx hb hr hlk hP hS rfl ⟨rfl, hf⟩ dX11_isElder_15
    · have hf := c_ie c2 hf
      refine lv_iconst (v := (1 : Int32)) hx hb dX11_isElder_10 (by decide) ?_
      refine lv_goto (tgt := 15) hx hb dX11_isElder_11 (by decide) ?_
      exact c_iret hx hb hr hlk hP hS rfl ⟨rfl, hf⟩ dX11_isElder_15
theorem bX11_isElder (a1 : Int32) : fX11_isElder a1 = 0 ∨ fX11_isElder a1 = 1 := by
  unfold fX11_isElder
  first | (repeat' split) <;> first | exact Or.inl rfl | exact Or.inr rfl
theorem dX11_best_0 : decode cX11_best 0 = .ok (.bipush (-5), 2) := by decide +kernel
theorem dX11_best_2 : decode cX11_best 2 = .ok (.istore_n 3, 1) := by decide +kernel
theorem dX11_best_3 : decode cX11_best 3 = .ok (.iconst 0, 1) := by decide +kernel
theorem dX11_best_4 : decode cX11_best 4 = .ok (.istore 4, 2) := by decide +kernel
theorem dX11_best_6 : decode cX11_best 6 = .ok (.iconst 0, 1) := by decide +kernel
theorem dX11_best_7 : decode cX11_best 7 = .ok (.istore 5, 2) := by decide +kernel
theorem dX11_best_9 : decode cX11_best 9 = .ok (.iload 5, 2) := by decide +kernel
theorem dX11_best_11 : decode cX11_best 11 = .ok (.bipush 12, 2) := by decide +kernel
theorem dX11_best_13 : decode cX11_best 13 = .ok (.if_icmp .ge 41, 3) := by decide +kernel
theorem dX11_best_16 : decode cX11_best 16 = .ok (.iload_n 2, 1) := by decide +kernel
theorem dX11_best_17 : decode cX11_best 17 = .ok (.iload 5, 2) := by decide +kernel
theorem dX11_best_19 : decode cX11_best 19 = .ok (.ishr, 1) := by decide +kernel
theorem dX11_best_20 : decode cX11_best 20 = .ok (.iconst 1, 1) := by decide +kernel
theorem dX11_best_21 : decode cX11_best 21 = .ok (.iand, 1) := by decide +kernel
theorem dX11_best_22 : decode cX11_best 22 = .ok (.iconst 1, 1) := by decide +kernel
theorem dX11_best_23 : decode cX11_best 23 = .ok (.if_icmp .ne 25, 3) := by decide +kernel
theorem dX11_best_26 : decode cX11_best 26 = .ok (.aload_n 0, 1) := by decide +kernel
theorem dX11_best_27 : decode cX11_best 27 = .ok (.iload_n 1, 1) := by decide +kernel
theorem dX11_best_28 : decode cX11_best 28 = .ok (.iload 5, 2) := by decide +kernel
theorem dX11_best_30 : decode cX11_best 30 = .ok (.iadd, 1) := by decide +kernel
theorem dX11_best_31 : decode cX11_best 31 = .ok (.iaload, 1) := by decide +kernel
theorem dX11_best_32 : decode cX11_best 32 = .ok (.iload 4, 2) := by decide +kernel
theorem dX11_best_34 : decode cX11_best 34 = .ok (.if_icmp .le 14, 3) := by decide +kernel
theorem dX11_best_37 : decode cX11_best 37 = .ok (.aload_n 0, 1) := by decide +kernel
theorem dX11_best_38 : decode cX11_best 38 = .ok (.iload_n 1, 1) := by decide +kernel
theorem dX11_best_39 : decode cX11_best 39 = .ok (.iload 5, 2) := by decide +kernel
theorem dX11_best_41 : decode cX11_best 41 = .ok (.iadd, 1) := by decide +kernel
theorem dX11_best_42 : decode cX11_best 42 = .ok (.iaload, 1) := by decide +kernel
theorem dX11_best_43 : decode cX11_best 43 = .ok (.istore 4, 2) := by decide +kernel
theorem dX11_best_45 : decode cX11_best 45 = .ok (.iload 5, 2) := by decide +kernel
theorem dX11_best_47 : decode cX11_best 47 = .ok (.istore_n 3, 1) := by decide +kernel
theorem dX11_best_48 : decode cX11_best 48 = .ok (.iinc 5 1, 3) := by decide +kernel
theorem dX11_best_51 : decode cX11_best 51 = .ok (.goto (-42), 3) := by decide +kernel
theorem dX11_best_54 : decode cX11_best 54 = .ok (.iload_n 3, 1) := by decide +kernel
theorem dX11_best_55 : decode cX11_best 55 = .ok (.ireturn, 1) := by decide +kernel
def fX11_best_48 (rec9 : Int32 → Int32 → Int32 → Int32 → Int32 → c_G → Option (Int32)) (a1 : Nat) (a2 : Int32) (a3 : Int32) (x1 : Int32) (x2 : Int32) (x3 : Int32) (x4 : Int32) (x5 : Int32) (g : c_G) : Option (Int32) :=
  c_let (x5 + (1 : Int32)) fun v48001 => rec9 x1 x2 x3 x4 v48001 g
set_option maxRecDepth 100000 in
set_option maxHeartbeats 4000000 in
theorem jX11_best_48 {p : Program} {l : Launch} {e : Env} {s : State} {m : MethodId} {below : List Frame} {meth : Method} {c : Code} {D : va_G} {tc : Nat → ClassId} {ad : Nat → Nat} {A : Nat → Prop} {E : (Nat → Nat) × (Nat → Nat) × Nat} {a1 : Nat} {a2 : Int32} {a3 : Int32} {r : Int32} (C : c_C p s m meth c D tc A E RX11 wsX11_best cX11_best 6 (some .int) ([.ref (ad a1), .int a2, .int a3] : List Value).toArray) (hD : c_D A ad TC) {rec9 : Int32 → Int32 → Int32 → Int32 → Int32 → c_G → Option (Int32)} (hrec9 : ∀ (x1 : Int32) (x2 : Int32) (x3 : Int32) (x4 : Int32) (x5 : Int32) (g : c_G), rec9 x1 x2 x3 x4 x5 g = some r → ∀ (H : Heap) (locs : List Loc), va_P D vwCl (c_ws tc ad TC g) H → va_S A s.heap H locs → ∀ ls : Array Slot, lv_has ls 6 [(0, .ref (ad a1)), (1, .int x1), (2, .int x2), (3, .int x3), (4, .int x4), (5, .int x5)] → W p l e (c_rm 0) s m ([.ref (ad a1), .int a2, .int a3] : List Value).toArray below meth c H locs 0 0 (MQ below (va_Qi (fun (x : Int32) (_ : Unit) => x = r) (fun _ t => va_P D vwCl (c_ws tc ad TC g) t.heap) A) ([.ref (ad a1), .int a2, .int a3] : List Value).toArray s 0 0 A) (F0 m 9 ls [])) : ∀ (x1 : Int32) (x2 : Int32) (x3 : Int32) (x4 : Int32) (x5 : Int32) (g : c_G), fX11_best_48 rec9 a1 a2 a3 x1 x2 x3 x4 x5 g = some r → ∀ (H : Heap) (locs : List Loc), va_P D vwCl (c_ws tc ad TC g) H → va_S A s.heap H locs → ∀ ls : Array Slot, lv_has ls 6 [(0, .ref (ad a1)), (1, .int x1), (2, .int x2), (3, .int x3), (4, .int x4), (5, .int x5)] → W p l e (c_rm 0) s m ([.ref (ad a1), .int a2, .int a3] : List Value).toArray below meth c H locs 0 0 (MQ below (va_Qi (fun (x : Int32) (_ : Unit) => x = r) (fun _ t => va_P D vwCl (c_ws tc ad TC g) t.heap) A) ([.ref (ad a1), .int a2, .int a3] : List Value).toArray s 0 0 A) (F0 m 48 ls []) := by
  obtain ⟨hx, hb, hr, hml, hts, hown, hlk, hK, hE⟩ := id C
  intro x1 x2 x3 x4 x5 g hf H locs hP hS ls hl
  unfold fX11_best_48 at hf
  obtain ⟨v48001, ev48001, hf⟩ := c_letE hf
  refine lv_iinc (v := v48001) (lv' := [(5, .int v48001), (0, .ref (ad a1)), (1, .int x1), (2, .int x2), (3, .int x3), (4, .int x4)]) hx hb dX11_best_48 hl (k := 5) rfl (by rw [ev48001]; rfl) (by decide) rfl (fun ls hl => ?_)
  refine lv_goto (tgt := 9) hx hb dX11_best_51 (by decide) ?_
  exact hrec9 x1 x2 x3 x4 v48001 g hf _ _ hP hS _ (lv_sub hl [1, 2, 3, 4, 5, 0] rfl)
def fX11_best_9  (a1 : Nat) (a2 : Int32) (a3 : Int32) : Nat → Int32 → Int32 → Int32 → Int32 → Int32 → c_G → Option (Int32)
  | 0, _, _, _, _, _, _ => none
  | n + 1, x1, x2, x3, x4, x5, g => if (12 : Int32) ≤ x5 then (some x3) else (if ((x2 >>> (x5 &&& 31)) &&& (1 : Int32)) = (1 : Int32) then ((c_ia TC (a1)).bind fun n9004 => if c_in ((x1 + x5)) (n9004) = true then if (g.1 a1 ((x1 + x5)).toNatClampNeg) ≤ x4 then (fX11_best_48 (fX11_best_9 a1 a2 a3 n) a1 a2 a3 x1 x2 x3 x4 x5 g) else (fX11_best_48 (fX11_best_9 a1 a2 a3 n) a1 a2 a3 x1 x2 x5 ((g.1 a1 ((x1 + x5)).toNatClampNeg)) x5 g) else none) else (fX11_best_48 (fX11_best_9 a1 a2 a3 n) a1 a2 a3 x1 x2 x3 x4 x5 g))
set_option maxRecDepth 100000 in
set_option maxHeartbeats 4000000 in
theorem jX11_best_9 {p : Program} {l : Launch} {e : Env} {s : State} {m : MethodId} {below : List Frame} {meth : Method} {c : Code} {D : va_G} {tc : Nat → ClassId} {ad : Nat → Nat} {A : Nat → Prop} {E : (Nat → Nat) × (Nat → Nat) × Nat} {a1 : Nat} {a2 : Int32} {a3 : Int32} {r : Int32} (C : c_C p s m meth c D tc A E RX11 wsX11_best cX11_best 6 (some .int) ([.ref (ad a1), .int a2, .int a3] : List Value).toArray) (hD : c_D A ad TC)  : ∀ (n : Nat) (x1 : Int32) (x2 : Int32) (x3 : Int32) (x4 : Int32) (x5 : Int32) (g : c_G), fX11_best_9 a1 a2 a3 n x1 x2 x3 x4 x5 g = some r → ∀ (H : Heap) (locs : List Loc), va_P D vwCl (c_ws tc ad TC g) H → va_S A s.heap H locs → ∀ ls : Array Slot, lv_has ls 6 [(0, .ref (ad a1)), (1, .int x1), (2, .int x2), (3, .int x3), (4, .int x4), (5, .int x5)] → W p l e (c_rm 0) s m ([.ref (ad a1), .int a2, .int a3] : List Value).toArray below meth c H locs 0 0 (MQ below (va_Qi (fun (x : Int32) (_ : Unit) => x = r) (fun _ t => va_P D vwCl (c_ws tc ad TC g) t.heap) A) ([.ref (ad a1), .int a2, .int a3] : List Value).toArray s 0 0 A) (F0 m 9 ls []) := by
  obtain ⟨hx, hb, hr, hml, hts, hown, hlk, hK, hE⟩ := id C
  intro n
  induction n with
  | zero =>
    intro x1 x2 x3 x4 x5 g hf
    cases hf
  | succ n ih =>
    intro x1 x2 x3 x4 x5 g hf H locs hP hS ls hl
    unfold fX11_best_9 at hf
    refine lv_iload hx hb dX11_best_9 (lv_at hl 5 rfl) ?_
    refine lv_bipush (v := (12 : Int32)) hx hb dX11_best_11 (by decide) ?_
    refine lv_icmp_ge (tgt := 54) hx hb dX11_best_13 (by decide) (fun c9001 => ?_) (fun c9001 => ?_)
    · have hf := c_it c9001 hf
      refine lv_iload_n hx hb dX11_best_54 rfl (lv_at hl 3 rfl) ?_
      exact c_iret hx hb hr hlk hP hS rfl ⟨rfl, Option.some.inj hf⟩ dX11_best_55
    · have hf := c_ie c9001 hf
      refine lv_iload_n hx hb dX11_best_16 rfl (lv_at hl 2 rfl) ?_
      refine lv_iload hx hb dX11_best_17 (lv_at hl 5 rfl) ?_
      refine lv_ishr hx hb dX11_best_19 ?_
      refine lv_iconst (v := (1 : Int32)) hx hb dX11_best_20 (by decide) ?_
      refine lv_iand hx hb dX11_best_21 ?_
      refine lv_iconst (v := (1 : Int32)) hx hb dX11_best_22 (by decide) ?_
      refine lv_icmp_ne (tgt := 48) hx hb dX11_best_23 (by decide) (fun c9002 => ?_) (fun c9002 => ?_)
      · have hf := c_ie c9002 hf
        exact jX11_best_48 C hD ih x1 x2 x3 x4 x5 g hf _ _ hP hS _ (lv_sub hl [0, 1, 2, 3, 4, 5] rfl)
      · have hf := c_it c9002 hf
        refine lv_aload_n hx hb dX11_best_26 rfl (lv_at hl 0 rfl) ?_
        refine lv_iload_n hx hb dX11_best_27 rfl (lv_at hl 1 rfl) ?_
        refine lv_iload hx hb dX11_best_28 (lv_at hl 5 rfl) ?_
        refine lv_iadd hx hb dX11_best_30 ?_
        obtain ⟨n9004, ha9003, hf⟩ := c_bd hf
        have ha9003T := c_iaE ha9003
        obtain ⟨hi9005, hf⟩ := c_gd hf
        refine c_iald (j := ((x1 + x5)).toNatClampNeg) hx hb hK hP a1 ha9003T rfl (c_inV hi9005) dX11_best_31 ?_
        refine lv_iload hx hb dX11_best_32 (lv_at hl 4 rfl) ?_
        refine lv_icmp_le (tgt := 48) hx hb dX11_best_34 (by decide) (fun c9006 => ?_) (fun c9006 => ?_)
        · have hf := c_it c9006 hf
          exact jX11_best_48 C hD ih x1 x2 x3 x4 x5 g hf _ _ hP hS _ (lv_sub hl [0, 1, 2, 3, 4, 5] rfl)
        · have hf := c_ie c9006 hf
          refine lv_aload_n hx hb dX11_best_37 rfl (lv_at hl 0 rfl) ?_
          refine lv_iload_n hx hb dX11_best_38 rfl (lv_at hl 1 rfl) ?_
          refine lv_iload hx hb dX11_best_39 (lv_at hl 5 rfl) ?_
          refine lv_iadd hx hb dX11_best_41 ?_
          refine c_iald (j := ((x1 + x5)).toNatClampNeg) hx hb hK hP a1 ha9003T rfl (c_inV hi9005) dX11_best_42 ?_
          refine lv_istore (lv' := [(4, .int (g.1 a1 ((x1 + x5)).toNatClampNeg)), (0, .ref (ad a1)), (1, .int x1), (2, .int x2), (3, .int x3), (5, .int x5)]) hx hb dX11_best_43 hl (by decide) rfl (fun ls hl => ?_)
          refine lv_iload hx hb dX11_best_45 (lv_at hl 5 rfl) ?_
          refine lv_istore_n (lv' := [(3, .int x5), (4, .int (g.1 a1 ((x1 + x5)).toNatClampNeg)), (0, .ref (ad a1)), (1, .int x1), (2, .int x2), (5, .int x5)]) hx hb dX11_best_47 rfl hl (by decide) rfl (fun ls hl => ?_)
          exact jX11_best_48 C hD ih x1 x2 x5 ((g.1 a1 ((x1 + x5)).toNatClampNeg)) x5 g hf _ _ hP hS _ (lv_sub hl [2, 3, 4, 0, 1, 5] rfl)
def fX11_best (g : c_G) (a1 : Nat) (a2 : Int32) (a3 : Int32) : Option (Int32) :=
  fX11_best_9 a1 a2 a3 c_F a2 a3 ((-5 : Int32)) ((0 : Int32)) ((0 : Int32)) g
set_option maxRecDepth 100000 in
set_option maxHeartbeats 4000000 in
theorem kX11_best {l : Launch} {D : va_G} {tc : Nat → ClassId} {ad : Nat → Nat} {A : Nat → Prop} {E : (Nat → Nat) × (Nat → Nat) × Nat} (hD : c_D A ad TC) {a1 : Nat} {a2 : Int32} {a3 : Int32} {g : c_G} {r : Int32} (hf : fX11_best g a1 a2 a3 = some r) : c_Mi l yX11_best wsX11_best (c_rm 0) D tc ad A E TC ([.ref (ad a1), .int a2, .int a3] : List Value) g g r := by
  refine c_ofW (bytes := cX11_best) (maxL := 6) (ret := (some .int)) (by decide) rfl (Nat.le_of_ble_eq_true rfl) ?_
  intro p e s m below meth c ls C hP hS hl
  unfold fX11_best at hf
  obtain ⟨hx, hb, hr, hml, hts, hown, hlk, hK, hE⟩ := id C
  have hl : lv_has ls 6 [(0, .ref (ad a1)), (1, .int a2), (2, .int a3)] := hl
  refine lv_bipush (v := (-5 : Int32)) hx hb dX11_best_0 (by decide) ?_
  refine lv_istore_n (lv' := [(3, .int (-5 : Int32)), (0, .ref (ad a1)), (1, .int a2), (2, .int a3)]) hx hb dX11_best_2 rfl hl (by decide) rfl (fun ls hl => ?_)
  refine lv_iconst (v := (0 : Int32)) hx hb dX11_best_3 (by decide) ?_
  refine lv_istore (lv' := [(4, .int (0 : Int32)), (3, .int (-5 : Int32)), (0, .ref (ad a1)), (1, .int a2), (2, .int a3)]) hx hb dX11_best_4 hl (by decide) rfl (fun ls hl => ?_)
  refine lv_iconst (v := (0 : Int32)) hx hb dX11_best_6 (by decide) ?_
  refine lv_istore (lv' := [(5, .int (0 : Int32)), (4, .int (0 : Int32)), (3, .int (-5 : Int32)), (0, .ref (ad a1)), (1, .int a2), (2, .int a3)]) hx hb dX11_best_7 hl (by decide) rfl (fun ls hl => ?_)
  exact jX11_best_9 C hD c_F a2 a3 ((-5 : Int32)) ((0 : Int32)) ((0 : Int32)) g hf _ _ hP hS _ (lv_sub hl [3, 4, 5, 2, 1, 0] rfl)
theorem i_X11_says_X11 : ∀ w ∈ u_ws RX11 TX11 19, w ∈ wsX11_says := c_inP [82, 83, 84, 85, 86, 87, 88, 89, 90, 91, 92, 93, 94, 95, 96, 97, 98, 99, 100] (by decide +kernel)
theorem dX11_says_0 : decode cX11_says 0 = .ok (.aload_n 1, 1) := by decide +kernel
theorem dX11_says_1 : decode cX11_says 1 = .ok (.iload 5, 2) := by decide +kernel
theorem dX11_says_3 : decode cX11_says 3 = .ok (.invokevirtual 329, 3) := by decide +kernel
theorem dX11_says_6 : decode cX11_says 6 = .ok (.ifCond .ne 6, 3) := by decide +kernel
theorem dX11_says_9 : decode cX11_says 9 = .ok (.bipush (-5), 2) := by decide +kernel
theorem dX11_says_11 : decode cX11_says 11 = .ok (.ireturn, 1) := by decide +kernel
theorem dX11_says_12 : decode cX11_says 12 = .ok (.aload_n 0, 1) := by decide +kernel
theorem dX11_says_13 : decode cX11_says 13 = .ok (.aload_n 1, 1) := by decide +kernel
theorem dX11_says_14 : decode cX11_says 14 = .ok (.iload_n 2, 1) := by decide +kernel
theorem dX11_says_15 : decode cX11_says 15 = .ok (.iload_n 3, 1) := by decide +kernel
theorem dX11_says_16 : decode cX11_says 16 = .ok (.iload 5, 2) := by decide +kernel
theorem dX11_says_18 : decode cX11_says 18 = .ok (.invokevirtual 165, 3) := by decide +kernel
theorem dX11_says_21 : decode cX11_says 21 = .ok (.aload_n 0, 1) := by decide +kernel
theorem dX11_says_22 : decode cX11_says 22 = .ok (.getfield 25, 3) := by decide +kernel
theorem dX11_says_25 : decode cX11_says 25 = .ok (.iconst 0, 1) := by decide +kernel
theorem dX11_says_26 : decode cX11_says 26 = .ok (.iload 4, 2) := by decide +kernel
theorem dX11_says_28 : decode cX11_says 28 = .ok (.aload_n 1, 1) := by decide +kernel
theorem dX11_says_29 : decode cX11_says 29 = .ok (.invokevirtual 203, 3) := by decide +kernel
theorem dX11_says_32 : decode cX11_says 32 = .ok (.iconst (-1), 1) := by decide +kernel
theorem dX11_says_33 : decode cX11_says 33 = .ok (.ixor, 1) := by decide +kernel
theorem dX11_says_34 : decode cX11_says 34 = .ok (.iand, 1) := by decide +kernel
theorem dX11_says_35 : decode cX11_says 35 = .ok (.invokestatic 332, 3) := by decide +kernel
theorem dX11_says_38 : decode cX11_says 38 = .ok (.ireturn, 1) := by decide +kernel
set_option maxRecDepth 20000 in
theorem ggX11_says_X7_listens : GoodIn wsX11_says wsX7_listens := goodIn_r _ [6, 7, 8, 101, 102, 103, 104, 105, 106, 107, 108, 109, 110, 111, 112, 113, 114, 115, 116, 117] (by decide +kernel) (by decide +kernel)
set_option maxRecDepth 20000 in
theorem gX11_says_X7_listens : GoodIn wsX11_says (wsV RX11 329 RX7 yX7_listens wsX7_listens) := goodIn_app (goodIn_of _ (by decide +kernel)) ggX11_says_X7_listens
set_option maxRecDepth 20000 in
theorem ggX11_says_X11_weigh : GoodIn wsX11_says wsX11_weigh := goodIn_r _ [13, 14, 15, 16, 17, 18, 19, 1, 20, 21, 22, 23, 24, 25, 26, 27, 28, 29, 30, 31, 32, 33, 34, 35, 36, 37, 38, 39, 40, 41, 42, 43, 44, 45, 46, 47, 48, 49, 50, 51, 52, 53, 54, 55, 56, 57, 58, 59, 60, 61, 62, 63, 64, 65, 66, 67, 68, 69, 70, 71, 72, 73, 82, 83, 84, 85, 86, 87, 88, 89, 90, 91, 92, 93, 94, 95, 96, 97, 98, 99, 100, 101, 102, 103, 104, 105, 106, 107, 108, 109, 110, 111, 112, 113, 114, 115, 116, 117, 118, 119, 120, 121, 122, 123, 124, 125] (by decide +kernel) (by decide +kernel)
set_option maxRecDepth 20000 in
theorem gX11_says_X11_weigh : GoodIn wsX11_says (wsV RX11 165 RX11 yX11_weigh wsX11_weigh) := goodIn_app (goodIn_of _ (by decide +kernel)) ggX11_says_X11_weigh
set_option maxRecDepth 20000 in
theorem ggX11_says_X7_used : GoodIn wsX11_says wsX7_used := goodIn_r _ [77, 78, 7, 101, 102, 103, 104, 105, 106, 107, 108, 109, 110, 111, 112, 113, 114, 115, 116, 117] (by decide +kernel) (by decide +kernel)
set_option maxRecDepth 20000 in
theorem gX11_says_X7_used : GoodIn wsX11_says (wsV RX11 203 RX7 yX7_used wsX7_used) := goodIn_app (goodIn_of _ (by decide +kernel)) ggX11_says_X7_used
set_option maxRecDepth 20000 in
theorem ggX11_says_X11_best : GoodIn wsX11_says wsX11_best := goodIn_r _ [81] (by decide +kernel) (by decide +kernel)
set_option maxRecDepth 20000 in
theorem gX11_says_X11_best : GoodIn wsX11_says (va_wsS RX11 332 yX11_best wsX11_best) := goodIn_app (goodIn_of _ (by decide +kernel)) ggX11_says_X11_best
def fX11_says (g : c_G) (a1 : Nat) (a2 : Int32) (a3 : Int32) (a4 : Int32) (a5 : Int32) : Option (c_G × Int32) :=
  if c_isS a1 = true then ((fX7_listens g a1 a5).bind fun r1 => if r1 = 0 then (some (g, (-5 : Int32))) else ((fX11_weigh g a1 a2 a3 a5).bind fun g5 => (fX7_used g5 a1).bind fun r6 => (fX11_best g5 4 ((0 : Int32)) ((a4 &&& (r6 ^^^ (-1 : Int32))))).bind fun r8 => some (g5, r8))) else none
set_option maxRecDepth 100000 in
set_option maxHeartbeats 4000000 in
theorem kX11_says {l : Launch} {D : va_G} {tc : Nat → ClassId} {ad : Nat → Nat} {A : Nat → Prop} {E : (Nat → Nat) × (Nat → Nat) × Nat} (hD : c_D A ad TC) {a1 : Nat} {a2 : Int32} {a3 : Int32} {a4 : Int32} {a5 : Int32} {g g' : c_G} {r : Int32} (hf : fX11_says g a1 a2 a3 a4 a5 = some (g', r)) : c_Mi l yX11_says wsX11_says (c_rm 3) D tc ad A E TC ([.ref (ad 0), .ref (ad a1), .int a2, .int a3, .int a4, .int a5] : List Value) g g' r := by
  refine c_ofW (bytes := cX11_says) (maxL := 6) (ret := (some .int)) (by decide) rfl (Nat.le_of_ble_eq_true rfl) ?_
  intro p e s m below meth c ls C hP hS hl
  unfold fX11_says at hf
  obtain ⟨hq_a1, hf⟩ := c_gd hf
  obtain ⟨hx, hb, hr, hml, hts, hown, hlk, hK, hE⟩ := id C
  obtain ⟨fa1_0, fa1_1, fa1_2, fa1_3, fa1_4, fa1_5, fa1_6, fa1_7, fa1_8, fa1_9, fa1_10, fa1_11, fa1_12, fa1_13⟩ := c_isSE hq_a1
  have hl : lv_has ls 6 [(0, .ref (ad 0)), (1, .ref (ad a1)), (2, .int a2), (3, .int a3), (4, .int a4), (5, .int a5)] := hl
  refine lv_aload_n hx hb dX11_says_0 rfl (lv_at hl 1 rfl) ?_
  refine lv_iload hx hb dX11_says_1 (lv_at hl 5 rfl) ?_
  obtain ⟨r1, hc2, hf⟩ := c_bd hf
  refine c_goi (va_runV (As := [.int a5]) (rest := []) ⟨hx, hb, hml, hown, hts⟩ (kX7_listens hD hc2) (cwV 1 hts gX11_says_X7_listens rfl rfl rfl (by decide +kernel) ⟨Nat.le_of_ble_eq_true rfl, Nat.le_of_ble_eq_true rfl⟩) (c_preV hK hP hE hS fa1_0 rfl) rfl rfl hl.1 rfl (lv_room (Nat.le_of_ble_eq_true rfl)) dX11_says_3 ⟨Nat.zero_le _, Nat.zero_le _⟩) hS (fun H locs hP hS => ?_)
  refine lv_if_ne (tgt := 12) hx hb dX11_says_6 (by decide) (fun c3 => ?_) (fun c3 => ?_)
  · have hf := c_ie c3 hf
    refine lv_aload_n hx hb dX11_says_12 rfl (lv_at hl 0 rfl) ?_
    refine lv_aload_n hx hb dX11_says_13 rfl (lv_at hl 1 rfl) ?_
    refine lv_iload_n hx hb dX11_says_14 rfl (lv_at hl 2 rfl) ?_
    refine lv_iload_n hx hb dX11_says_15 rfl (lv_at hl 3 rfl) ?_
    refine lv_iload hx hb dX11_says_16 (lv_at hl 5 rfl) ?_
    obtain ⟨g5, hc4, hf⟩ := c_bd hf
    refine c_gov (va_runV (As := [.ref (ad a1), .int a2, .int a3, .int a5]) (rest := []) ⟨hx, hb, hml, hown, hts⟩ (kX11_weigh hD hc4) (cwV 4 hts gX11_says_X11_weigh rfl rfl rfl (by decide +kernel) ⟨Nat.le_of_ble_eq_true rfl, Nat.le_of_ble_eq_true rfl⟩) (c_preV hK hP hE hS tC0 rfl) rfl rfl hl.1 rfl (lv_room (Nat.le_of_ble_eq_true rfl)) dX11_says_18 ⟨Nat.zero_le _, Nat.zero_le _⟩) hS (fun H locs hP hS => ?_)
    refine lv_aload_n hx hb dX11_says_21 rfl (lv_at hl 0 rfl) ?_
    refine c_get hx hb hts i_X11_says_X11 hown hK hP 0 tC0 rfl 10 (by decide) (hts _ (List.mem_of_getElem? (i := 1) rfl)) (fun _ h9 => h9) rfl (v := .ref (ad 4)) rfl dX11_says_22 ?_
    refine lv_iconst (v := (0 : Int32)) hx hb dX11_says_25 (by decide) ?_
    refine lv_iload hx hb dX11_says_26 (lv_at hl 4 rfl) ?_
    refine lv_aload_n hx hb dX11_says_28 rfl (lv_at hl 1 rfl) ?_
    obtain ⟨r6, hc7, hf⟩ := c_bd hf
    refine c_goi (va_runV (As := []) (rest := [.int a4, .int (0 : Int32), .ref (ad 4)]) ⟨hx, hb, hml, hown, hts⟩ (kX7_used hD hc7) (cwV 0 hts gX11_says_X7_used rfl rfl rfl (by decide +kernel) ⟨Nat.le_of_ble_eq_true rfl, Nat.le_of_ble_eq_true rfl⟩) (c_preV hK hP hE hS fa1_0 rfl) rfl rfl hl.1 rfl (lv_room (Nat.le_of_ble_eq_true rfl)) dX11_says_29 ⟨Nat.zero_le _, Nat.zero_le _⟩) hS (fun H locs hP hS => ?_)
    refine lv_iconst (v := (-1 : Int32)) hx hb dX11_says_32 (by decide) ?_
    refine lv_ixor hx hb dX11_says_33 ?_
    refine lv_iand hx hb dX11_says_34 ?_
    obtain ⟨r8, hc9, hf⟩ := c_bd hf
    refine c_goi (va_runS (As := [.ref (ad 4), .int (0 : Int32), .int (a4 &&& (r6 ^^^ (-1 : Int32)))]) (rest := []) ⟨hx, hb, hml, hown, hts⟩ (kX11_best hD hc9) (va_cwS 3 hts gX11_says_X11_best rfl rfl rfl (by decide +kernel) ⟨Nat.le_of_ble_eq_true rfl, Nat.le_of_ble_eq_true rfl⟩) (c_preS hK hP hE hS) rfl rfl hl.1 rfl (lv_room (Nat.le_of_ble_eq_true rfl)) dX11_says_35 ⟨Nat.zero_le _, Nat.zero_le _⟩) hS (fun H locs hP hS => ?_)
    exact c_iret hx hb hr hlk hP hS rfl (c_inj hf) dX11_says_38
  · have hf := c_it c3 hf
    refine lv_bipush (v := (-5 : Int32)) hx hb dX11_says_9 (by decide) ?_
    exact c_iret hx hb hr hlk hP hS rfl (c_inj hf) dX11_says_11
theorem i_X11_saysNow_X7 : ∀ w ∈ u_ws RX7 TX7 17, w ∈ wsX11_saysNow := c_inP [108, 109, 110, 111, 112, 113, 114, 115, 116, 117, 118, 119, 120, 121, 122, 123, 124] (by decide +kernel)
theorem i_X11_saysNow_X11 : ∀ w ∈ u_ws RX11 TX11 19, w ∈ wsX11_saysNow := c_inP [89, 90, 91, 92, 93, 94, 95, 96, 97, 98, 99, 100, 101, 102, 103, 104, 105, 106, 107] (by decide +kernel)
theorem dX11_saysNow_0 : decode cX11_saysNow 0 = .ok (.aload_n 0, 1) := by decide +kernel
theorem dX11_saysNow_1 : decode cX11_saysNow 1 = .ok (.aload_n 0, 1) := by decide +kernel
theorem dX11_saysNow_2 : decode cX11_saysNow 2 = .ok (.getfield 86, 3) := by decide +kernel
theorem dX11_saysNow_5 : decode cX11_saysNow 5 = .ok (.iload_n 1, 1) := by decide +kernel
theorem dX11_saysNow_6 : decode cX11_saysNow 6 = .ok (.aload_n 0, 1) := by decide +kernel
theorem dX11_saysNow_7 : decode cX11_saysNow 7 = .ok (.getfield 86, 3) := by decide +kernel
theorem dX11_saysNow_10 : decode cX11_saysNow 10 = .ok (.getfield 123, 3) := by decide +kernel
theorem dX11_saysNow_13 : decode cX11_saysNow 13 = .ok (.iload_n 1, 1) := by decide +kernel
theorem dX11_saysNow_14 : decode cX11_saysNow 14 = .ok (.iaload, 1) := by decide +kernel
theorem dX11_saysNow_15 : decode cX11_saysNow 15 = .ok (.aload_n 0, 1) := by decide +kernel
theorem dX11_saysNow_16 : decode cX11_saysNow 16 = .ok (.getfield 86, 3) := by decide +kernel
theorem dX11_saysNow_19 : decode cX11_saysNow 19 = .ok (.getfield 126, 3) := by decide +kernel
theorem dX11_saysNow_22 : decode cX11_saysNow 22 = .ok (.iload_n 1, 1) := by decide +kernel
theorem dX11_saysNow_23 : decode cX11_saysNow 23 = .ok (.iaload, 1) := by decide +kernel
theorem dX11_saysNow_24 : decode cX11_saysNow 24 = .ok (.iload_n 2, 1) := by decide +kernel
theorem dX11_saysNow_25 : decode cX11_saysNow 25 = .ok (.invokevirtual 228, 3) := by decide +kernel
theorem dX11_saysNow_28 : decode cX11_saysNow 28 = .ok (.ireturn, 1) := by decide +kernel
set_option maxRecDepth 20000 in
theorem ggX11_saysNow_X11_says : GoodIn wsX11_saysNow wsX11_says := goodIn_r _ [8, 9, 10, 11, 12, 13, 14, 15, 16, 17, 18, 19, 7, 20, 21, 22, 23, 24, 25, 26, 27, 28, 29, 30, 31, 32, 33, 34, 35, 36, 37, 38, 39, 40, 41, 42, 43, 44, 45, 46, 47, 48, 49, 50, 51, 52, 53, 54, 55, 56, 57, 58, 59, 60, 61, 62, 63, 64, 65, 66, 67, 68, 69, 70, 71, 72, 73, 74, 75, 76, 77, 78, 79, 80, 81, 82, 83, 84, 85, 86, 87, 88, 89, 90, 91, 92, 93, 94, 95, 96, 97, 98, 99, 100, 101, 102, 103, 104, 105, 106, 107, 108, 109, 110, 111, 112, 113, 114, 115, 116, 117, 118, 119, 120, 121, 122, 123, 124, 125, 126, 127, 128, 129, 130, 131, 132] (by decide +kernel) (by decide +kernel)
set_option maxRecDepth 20000 in
theorem gX11_saysNow_X11_says : GoodIn wsX11_saysNow (wsV RX11 228 RX11 yX11_says wsX11_says) := goodIn_app (goodIn_of _ (by decide +kernel)) ggX11_saysNow_X11_says
def fX11_saysNow (g : c_G) (a1 : Int32) (a2 : Int32) : Option (c_G × Int32) :=
  if c_in (a1) (6) = true then c_b2 (fX11_says g 55 a1 ((g.1 61 (a1).toNatClampNeg)) ((g.1 62 (a1).toNatClampNeg)) a2) fun g3 r4 => some (g3, r4) else none
set_option maxRecDepth 100000 in
set_option maxHeartbeats 4000000 in
theorem kX11_saysNow {l : Launch} {D : va_G} {tc : Nat → ClassId} {ad : Nat → Nat} {A : Nat → Prop} {E : (Nat → Nat) × (Nat → Nat) × Nat} (hD : c_D A ad TC) {a1 : Int32} {a2 : Int32} {g g' : c_G} {r : Int32} (hf : fX11_saysNow g a1 a2 = some (g', r)) : c_Mi l yX11_saysNow wsX11_saysNow (c_rm 4) D tc ad A E TC ([.ref (ad 0), .int a1, .int a2] : List Value) g g' r := by
  refine c_ofW (bytes := cX11_saysNow) (maxL := 3) (ret := (some .int)) (by decide) rfl (Nat.le_of_ble_eq_true rfl) ?_
  intro p e s m below meth c ls C hP hS hl
  unfold fX11_saysNow at hf
  obtain ⟨hx, hb, hr, hml, hts, hown, hlk, hK, hE⟩ := id C
  have hl : lv_has ls 3 [(0, .ref (ad 0)), (1, .int a1), (2, .int a2)] := hl
  refine lv_aload_n hx hb dX11_saysNow_0 rfl (lv_at hl 0 rfl) ?_
  refine lv_aload_n hx hb dX11_saysNow_1 rfl (lv_at hl 0 rfl) ?_
  refine c_get hx hb hts i_X11_saysNow_X11 hown hK hP 0 tC0 rfl 5 (by decide) (hts _ (List.mem_of_getElem? (i := 1) rfl)) (fun _ h9 => h9) rfl (v := .ref (ad 55)) rfl dX11_saysNow_2 ?_
  refine lv_iload_n hx hb dX11_saysNow_5 rfl (lv_at hl 1 rfl) ?_
  refine lv_aload_n hx hb dX11_saysNow_6 rfl (lv_at hl 0 rfl) ?_
  refine c_get hx hb hts i_X11_saysNow_X11 hown hK hP 0 tC0 rfl 5 (by decide) (hts _ (List.mem_of_getElem? (i := 1) rfl)) (fun _ h9 => h9) rfl (v := .ref (ad 55)) rfl dX11_saysNow_7 ?_
  refine c_get hx hb hts i_X11_saysNow_X7 hown hK hP 55 tC55 rfl 8 (by decide) (hts _ (List.mem_of_getElem? (i := 2) rfl)) (fun _ h9 => h9) rfl (v := .ref (ad 61)) rfl dX11_saysNow_10 ?_
  refine lv_iload_n hx hb dX11_saysNow_13 rfl (lv_at hl 1 rfl) ?_
  obtain ⟨hi1, hf⟩ := c_gd hf
  refine c_iald (j := (a1).toNatClampNeg) hx hb hK hP 61 tC61 rfl (c_inV hi1) dX11_saysNow_14 ?_
  refine lv_aload_n hx hb dX11_saysNow_15 rfl (lv_at hl 0 rfl) ?_
  refine c_get hx hb hts i_X11_saysNow_X11 hown hK hP 0 tC0 rfl 5 (by decide) (hts _ (List.mem_of_getElem? (i := 1) rfl)) (fun _ h9 => h9) rfl (v := .ref (ad 55)) rfl dX11_saysNow_16 ?_
  refine c_get hx hb hts i_X11_saysNow_X7 hown hK hP 55 tC55 rfl 9 (by decide) (hts _ (List.mem_of_getElem? (i := 3) rfl)) (fun _ h9 => h9) rfl (v := .ref (ad 62)) rfl dX11_saysNow_19 ?_
  refine lv_iload_n hx hb dX11_saysNow_22 rfl (lv_at hl 1 rfl) ?_
  refine c_iald (j := (a1).toNatClampNeg) hx hb hK hP 62 tC62 rfl (c_inV hi1) dX11_saysNow_23 ?_
  refine lv_iload_n hx hb dX11_saysNow_24 rfl (lv_at hl 2 rfl) ?_
  obtain ⟨g3, r4, hc2, hf⟩ := c_b2E hf
  refine c_goi (va_runV (As := [.ref (ad 55), .int a1, .int (g.1 61 (a1).toNatClampNeg), .int (g.1 62 (a1).toNatClampNeg), .int a2]) (rest := []) ⟨hx, hb, hml, hown, hts⟩ (kX11_says hD hc2) (cwV 5 hts gX11_saysNow_X11_says rfl rfl rfl (by decide +kernel) ⟨Nat.le_of_ble_eq_true rfl, Nat.le_of_ble_eq_true rfl⟩) (c_preV hK hP hE hS tC0 rfl) rfl rfl hl.1 rfl (lv_room (Nat.le_of_ble_eq_true rfl)) dX11_saysNow_25 ⟨Nat.zero_le _, Nat.zero_le _⟩) hS (fun H locs hP hS => ?_)
  exact c_iret hx hb hr hlk hP hS rfl (c_inj hf) dX11_saysNow_28
