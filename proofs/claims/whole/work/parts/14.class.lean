theorem dX11_isPart_0 : decode cX11_isPart 0 = .ok (.iload_n 0, 1) := by decide +kernel
theorem dX11_isPart_1 : decode cX11_isPart 1 = .ok (.ifCond .eq 8, 3) := by decide +kernel
theorem dX11_isPart_4 : decode cX11_isPart 4 = .ok (.iload_n 0, 1) := by decide +kernel
theorem dX11_isPart_5 : decode cX11_isPart 5 = .ok (.iconst 1, 1) := by decide +kernel
theorem dX11_isPart_6 : decode cX11_isPart 6 = .ok (.if_icmp .ne 7, 3) := by decide +kernel
theorem dX11_isPart_9 : decode cX11_isPart 9 = .ok (.iconst 1, 1) := by decide +kernel
theorem dX11_isPart_10 : decode cX11_isPart 10 = .ok (.goto 4, 3) := by decide +kernel
theorem dX11_isPart_13 : decode cX11_isPart 13 = .ok (.iconst 0, 1) := by decide +kernel
theorem dX11_isPart_14 : decode cX11_isPart 14 = .ok (.ireturn, 1) := by decide +kernel
def fX11_isPart (a1 : Int32) : Int32 :=
  if a1 = 0 then ((1 : Int32)) else (if a1 = (1 : Int32) then ((1 : Int32)) else ((0 : Int32)))
set_option maxRecDepth 100000 in
set_option maxHeartbeats 4000000 in
theorem kX11_isPart {l : Launch} {D : va_G} {tc : Nat → ClassId} {ad : Nat → Nat} {A : Nat → Prop} {E : (Nat → Nat) × (Nat → Nat) × Nat} {T : List c_T} {a1 : Int32} {g : c_G} {r : Int32} (hf : fX11_isPart a1 = r) : c_Mi l yX11_isPart wsX11_isPart (c_rm 0) D tc ad A E T ([.int a1] : List Value) g g r := by
  refine c_ofW (bytes := cX11_isPart) (maxL := 1) (ret := (some .boolean)) (by decide) rfl (Nat.le_of_ble_eq_true rfl) ?_
  intro p e s m below meth c ls C hP hS hl
  unfold fX11_isPart at hf
  obtain ⟨hx, hb, hr, hml, hts, hown, hlk, hK, hE⟩ := id C
  have hl : lv_has ls 1 [(0, .int a1)] := hl
  refine lv_iload_n hx hb dX11_isPart_0 rfl (lv_at hl 0 rfl) ?_
  refine lv_if_eq (tgt := 9) hx hb dX11_isPart_1 (by decide) (fun c1 => ?_) (fun c1 => ?_)
  · have hf := c_it c1 hf
    refine lv_iconst (v := (1 : Int32)) hx hb dX11_isPart_9 (by decide) ?_
    refine lv_goto (tgt := 14) hx hb dX11_isPart_10 (by decide) ?_
    exact c_iret hx hb hr hlk hP hS rfl ⟨rfl, hf⟩ dX11_isPart_14
  · have hf := c_ie c1 hf
    refine lv_iload_n hx hb dX11_isPart_4 rfl (lv_at hl 0 rfl) ?_
    refine lv_iconst (v := (1 : Int32)) hx hb dX11_isPart_5 (by decide) ?_
    refine lv_icmp_ne (tgt := 13) hx hb dX11_isPart_6 (by decide) (fun c2 => ?_) (fun c2 => ?_)
    · have hf := c_ie c2 hf
      refine lv_iconst (v := (0 : Int32)) hx hb dX11_isPart_13 (by decide) ?_
      exact c_iret hx hb hr hlk hP hS rfl ⟨rfl, hf⟩ dX11_isPart_14
    · have hf := c_it c2 hf
      refine lv_iconst (v := (1 : Int32)) hx hb dX11_isPart_9 (by decide) ?_
      refine lv_goto (tgt := 14) hx hb dX11_isPart_10 (by decide) ?_
      exact c_iret hx hb hr hlk hP hS rfl ⟨rfl, hf⟩ dX11_isPart_14
theorem bX11_isPart (a1 : Int32) : fX11_isPart a1 = 0 ∨ fX11_isPart a1 = 1 := by
  unfold fX11_isPart
  first | (repeat' split) <;> first | exact Or.inl rfl | exact Or.inr rfl
theorem dX11_odds_0 : decode cX11_odds 0 = .ok (.aload_n 0, 1) := by decide +kernel
theorem dX11_odds_1 : decode cX11_odds 1 = .ok (.iload_n 1, 1) := by decide +kernel
theorem dX11_odds_2 : decode cX11_odds 2 = .ok (.invokevirtual 117, 3) := by decide +kernel
theorem dX11_odds_5 : decode cX11_odds 5 = .ok (.ifCond .eq 17, 3) := by decide +kernel
theorem dX11_odds_8 : decode cX11_odds 8 = .ok (.iload_n 2, 1) := by decide +kernel
theorem dX11_odds_9 : decode cX11_odds 9 = .ok (.invokestatic 139, 3) := by decide +kernel
theorem dX11_odds_12 : decode cX11_odds 12 = .ok (.ifCond .eq 10, 3) := by decide +kernel
theorem dX11_odds_15 : decode cX11_odds 15 = .ok (.iload_n 3, 1) := by decide +kernel
theorem dX11_odds_16 : decode cX11_odds 16 = .ok (.invokestatic 248, 3) := by decide +kernel
theorem dX11_odds_19 : decode cX11_odds 19 = .ok (.ifCond .ne 7, 3) := by decide +kernel
theorem dX11_odds_22 : decode cX11_odds 22 = .ok (.ldc2_w 251, 3) := by decide +kernel
theorem dX11_odds_25 : decode cX11_odds 25 = .ok (.lreturn, 1) := by decide +kernel
theorem dX11_odds_26 : decode cX11_odds 26 = .ok (.aload_n 0, 1) := by decide +kernel
theorem dX11_odds_27 : decode cX11_odds 27 = .ok (.iload_n 1, 1) := by decide +kernel
theorem dX11_odds_28 : decode cX11_odds 28 = .ok (.iload_n 2, 1) := by decide +kernel
theorem dX11_odds_29 : decode cX11_odds 29 = .ok (.invokevirtual 142, 3) := by decide +kernel
theorem dX11_odds_32 : decode cX11_odds 32 = .ok (.bipush (-5), 2) := by decide +kernel
theorem dX11_odds_34 : decode cX11_odds 34 = .ok (.if_icmp .eq 7, 3) := by decide +kernel
theorem dX11_odds_37 : decode cX11_odds 37 = .ok (.iconst 1, 1) := by decide +kernel
theorem dX11_odds_38 : decode cX11_odds 38 = .ok (.goto 4, 3) := by decide +kernel
theorem dX11_odds_41 : decode cX11_odds 41 = .ok (.iconst 0, 1) := by decide +kernel
theorem dX11_odds_42 : decode cX11_odds 42 = .ok (.istore 4, 2) := by decide +kernel
theorem dX11_odds_44 : decode cX11_odds 44 = .ok (.iload_n 3, 1) := by decide +kernel
theorem dX11_odds_45 : decode cX11_odds 45 = .ok (.ifCond .ne 14, 3) := by decide +kernel
theorem dX11_odds_48 : decode cX11_odds 48 = .ok (.iload 4, 2) := by decide +kernel
theorem dX11_odds_50 : decode cX11_odds 50 = .ok (.ifCond .eq 7, 3) := by decide +kernel
theorem dX11_odds_53 : decode cX11_odds 53 = .ok (.lconst 1, 1) := by decide +kernel
theorem dX11_odds_54 : decode cX11_odds 54 = .ok (.goto 4, 3) := by decide +kernel
theorem dX11_odds_57 : decode cX11_odds 57 = .ok (.lconst 0, 1) := by decide +kernel
theorem dX11_odds_58 : decode cX11_odds 58 = .ok (.lreturn, 1) := by decide +kernel
theorem dX11_odds_59 : decode cX11_odds 59 = .ok (.iload 4, 2) := by decide +kernel
theorem dX11_odds_61 : decode cX11_odds 61 = .ok (.ifCond .eq 9, 3) := by decide +kernel
theorem dX11_odds_64 : decode cX11_odds 64 = .ok (.ldc2_w 253, 3) := by decide +kernel
theorem dX11_odds_67 : decode cX11_odds 67 = .ok (.goto 4, 3) := by decide +kernel
theorem dX11_odds_70 : decode cX11_odds 70 = .ok (.lconst 1, 1) := by decide +kernel
theorem dX11_odds_71 : decode cX11_odds 71 = .ok (.lreturn, 1) := by decide +kernel
set_option maxRecDepth 20000 in
theorem ggX11_odds_X11_isChild : GoodIn wsX11_odds wsX11_isChild := goodIn_r _ [7, 8, 9, 106, 107, 108, 109, 110, 111, 112, 113, 114, 115, 116, 117, 118, 119, 120, 121, 122, 123, 124, 125, 126, 127, 128, 129, 130, 131, 132, 133, 134, 135, 136, 137, 138, 139, 140, 141] (by decide +kernel) (by decide +kernel)
set_option maxRecDepth 20000 in
theorem gX11_odds_X11_isChild : GoodIn wsX11_odds (wsV RX11 117 RX11 yX11_isChild wsX11_isChild) := goodIn_app (goodIn_of _ (by decide +kernel)) ggX11_odds_X11_isChild
set_option maxRecDepth 20000 in
theorem ggX11_odds_X11_isElder : GoodIn wsX11_odds wsX11_isElder := goodIn_r _ [12] (by decide +kernel) (by decide +kernel)
set_option maxRecDepth 20000 in
theorem gX11_odds_X11_isElder : GoodIn wsX11_odds (va_wsS RX11 139 yX11_isElder wsX11_isElder) := goodIn_app (goodIn_of _ (by decide +kernel)) ggX11_odds_X11_isElder
set_option maxRecDepth 20000 in
theorem ggX11_odds_X11_isPart : GoodIn wsX11_odds wsX11_isPart := goodIn_r _ [15] (by decide +kernel) (by decide +kernel)
set_option maxRecDepth 20000 in
theorem gX11_odds_X11_isPart : GoodIn wsX11_odds (va_wsS RX11 248 yX11_isPart wsX11_isPart) := goodIn_app (goodIn_of _ (by decide +kernel)) ggX11_odds_X11_isPart
set_option maxRecDepth 20000 in
theorem ggX11_odds_X11_saysNow : GoodIn wsX11_odds wsX11_saysNow := goodIn_r _ [19, 8, 20, 21, 22, 23, 24, 6, 25, 26, 27, 28, 29, 30, 31, 32, 33, 34, 35, 36, 37, 38, 39, 40, 41, 42, 43, 44, 45, 46, 47, 48, 49, 50, 51, 52, 53, 54, 55, 56, 57, 58, 59, 60, 61, 62, 63, 64, 65, 66, 67, 68, 69, 70, 71, 72, 73, 74, 75, 76, 77, 78, 79, 80, 81, 82, 83, 84, 85, 86, 87, 88, 89, 90, 91, 92, 93, 94, 95, 96, 97, 98, 99, 100, 101, 102, 103, 104, 105, 106, 107, 108, 109, 110, 111, 112, 113, 114, 115, 116, 117, 118, 119, 120, 121, 122, 123, 124, 125, 126, 127, 128, 129, 130, 131, 132, 133, 134, 135, 136, 137, 138, 139, 140, 141, 142, 143, 144, 145, 146, 147, 148, 149] (by decide +kernel) (by decide +kernel)
set_option maxRecDepth 20000 in
theorem gX11_odds_X11_saysNow : GoodIn wsX11_odds (wsV RX11 142 RX11 yX11_saysNow wsX11_saysNow) := goodIn_app (goodIn_of _ (by decide +kernel)) ggX11_odds_X11_saysNow
def fX11_odds_42  (a1 : Int32) (a2 : Int32) (a3 : Int32) (x3 : Int32) (y0 : Int32) (g : c_G) : Option (c_G × Int64) :=
  if x3 = 0 then (if y0 = 0 then (some (g, (0 : Int64))) else (some (g, (1 : Int64)))) else (if y0 = 0 then (some (g, (1 : Int64))) else (some (g, (12 : Int64))))
set_option maxRecDepth 100000 in
set_option maxHeartbeats 4000000 in
theorem jX11_odds_42 {p : Program} {l : Launch} {e : Env} {s : State} {m : MethodId} {below : List Frame} {meth : Method} {c : Code} {D : va_G} {tc : Nat → ClassId} {ad : Nat → Nat} {A : Nat → Prop} {E : (Nat → Nat) × (Nat → Nat) × Nat} {a1 : Int32} {a2 : Int32} {a3 : Int32} {g' : c_G} {r : Int64} (C : c_C p s m meth c D tc A E RX11 wsX11_odds cX11_odds 5 (some .long) ([.ref (ad 0), .int a1, .int a2, .int a3] : List Value).toArray) (hD : c_D A ad TC)  : ∀ (x3 : Int32) (y0 : Int32) (g : c_G), fX11_odds_42 a1 a2 a3 x3 y0 g = some (g', r) → ∀ (H : Heap) (locs : List Loc), va_P D vwCl (c_ws tc ad TC g) H → va_S A s.heap H locs → ∀ ls : Array Slot, lv_has ls 5 [(3, .int x3)] → W p l e (c_rm 5) s m ([.ref (ad 0), .int a1, .int a2, .int a3] : List Value).toArray below meth c H locs 0 0 (MQ below (va_Ql (fun (x : Int64) (_ : Unit) => x = r) (fun _ t => va_P D vwCl (c_ws tc ad TC g') t.heap) A) ([.ref (ad 0), .int a1, .int a2, .int a3] : List Value).toArray s 0 0 A) (F0 m 42 ls [.int y0]) := by
  obtain ⟨hx, hb, hr, hml, hts, hown, hlk, hK, hE⟩ := id C
  intro x3 y0 g hf H locs hP hS ls hl
  unfold fX11_odds_42 at hf
  refine lv_istore (lv' := [(4, .int y0), (3, .int x3)]) hx hb dX11_odds_42 hl (by decide) rfl (fun ls hl => ?_)
  refine lv_iload_n hx hb dX11_odds_44 rfl (lv_at hl 1 rfl) ?_
  refine lv_if_ne (tgt := 59) hx hb dX11_odds_45 (by decide) (fun c42001 => ?_) (fun c42001 => ?_)
  · have hf := c_ie c42001 hf
    refine lv_iload hx hb dX11_odds_59 (lv_at hl 0 rfl) ?_
    refine lv_if_eq (tgt := 70) hx hb dX11_odds_61 (by decide) (fun c42002 => ?_) (fun c42002 => ?_)
    · have hf := c_it c42002 hf
      refine lv_lconst (v := (1 : Int64)) hx hb dX11_odds_70 (by decide) ?_
      exact c_lret hx hb hr hlk hP hS (c_inj hf) dX11_odds_71
    · have hf := c_ie c42002 hf
      refine lv_ldc2 hx hb hown (v := (12 : Int64)) (hts _ (List.mem_of_getElem? (i := 2) rfl)) dX11_odds_64 ?_
      refine lv_goto (tgt := 71) hx hb dX11_odds_67 (by decide) ?_
      exact c_lret hx hb hr hlk hP hS (c_inj hf) dX11_odds_71
  · have hf := c_it c42001 hf
    refine lv_iload hx hb dX11_odds_48 (lv_at hl 0 rfl) ?_
    refine lv_if_eq (tgt := 57) hx hb dX11_odds_50 (by decide) (fun c42003 => ?_) (fun c42003 => ?_)
    · have hf := c_it c42003 hf
      refine lv_lconst (v := (0 : Int64)) hx hb dX11_odds_57 (by decide) ?_
      exact c_lret hx hb hr hlk hP hS (c_inj hf) dX11_odds_58
    · have hf := c_ie c42003 hf
      refine lv_lconst (v := (1 : Int64)) hx hb dX11_odds_53 (by decide) ?_
      refine lv_goto (tgt := 58) hx hb dX11_odds_54 (by decide) ?_
      exact c_lret hx hb hr hlk hP hS (c_inj hf) dX11_odds_58
def fX11_odds (g : c_G) (a1 : Int32) (a2 : Int32) (a3 : Int32) : Option (c_G × Int64) :=
  (fX11_isChild g a1).bind fun r1 => if r1 = 0 then (some (g, (-9223372036854775808 : Int64))) else (if (fX11_isElder a2) = 0 then (some (g, (-9223372036854775808 : Int64))) else (if (fX11_isPart a3) = 0 then (some (g, (-9223372036854775808 : Int64))) else (c_b2 (fX11_saysNow g a1 a2) fun g7 r8 => if r8 = (-5 : Int32) then (fX11_odds_42 a1 a2 a3 a3 ((0 : Int32)) g7) else (fX11_odds_42 a1 a2 a3 a3 ((1 : Int32)) g7))))
set_option maxRecDepth 100000 in
set_option maxHeartbeats 4000000 in
theorem kX11_odds {l : Launch} {D : va_G} {tc : Nat → ClassId} {ad : Nat → Nat} {A : Nat → Prop} {E : (Nat → Nat) × (Nat → Nat) × Nat} (hD : c_D A ad TC) {a1 : Int32} {a2 : Int32} {a3 : Int32} {g g' : c_G} {r : Int64} (hf : fX11_odds g a1 a2 a3 = some (g', r)) : c_Ml l yX11_odds wsX11_odds (c_rm 5) D tc ad A E TC ([.ref (ad 0), .int a1, .int a2, .int a3] : List Value) g g' r := by
  refine c_ofW (bytes := cX11_odds) (maxL := 5) (ret := (some .long)) (by decide) rfl (Nat.le_of_ble_eq_true rfl) ?_
  intro p e s m below meth c ls C hP hS hl
  unfold fX11_odds at hf
  obtain ⟨hx, hb, hr, hml, hts, hown, hlk, hK, hE⟩ := id C
  have hl : lv_has ls 5 [(0, .ref (ad 0)), (1, .int a1), (2, .int a2), (3, .int a3)] := hl
  refine lv_aload_n hx hb dX11_odds_0 rfl (lv_at hl 0 rfl) ?_
  refine lv_iload_n hx hb dX11_odds_1 rfl (lv_at hl 1 rfl) ?_
  obtain ⟨r1, hc2, hf⟩ := c_bd hf
  refine c_goi (va_runV (As := [.int a1]) (rest := []) ⟨hx, hb, hml, hown, hts⟩ (kX11_isChild hD hc2) (cwV 1 hts gX11_odds_X11_isChild rfl rfl rfl (by decide +kernel) ⟨Nat.le_of_ble_eq_true rfl, Nat.le_of_ble_eq_true rfl⟩) (c_preV hK hP hE hS tC0 rfl) rfl rfl hl.1 rfl (lv_room (Nat.le_of_ble_eq_true rfl)) dX11_odds_2 ⟨Nat.zero_le _, Nat.zero_le _⟩) hS (fun H locs hP hS => ?_)
  refine lv_if_eq (tgt := 22) hx hb dX11_odds_5 (by decide) (fun c3 => ?_) (fun c3 => ?_)
  · have hf := c_it c3 hf
    refine lv_ldc2 hx hb hown (v := (-9223372036854775808 : Int64)) (hts _ (List.mem_of_getElem? (i := 1) rfl)) dX11_odds_22 ?_
    exact c_lret hx hb hr hlk hP hS (c_inj hf) dX11_odds_25
  · have hf := c_ie c3 hf
    refine lv_iload_n hx hb dX11_odds_8 rfl (lv_at hl 2 rfl) ?_
    refine c_goi (va_runS (As := [.int a2]) (rest := []) ⟨hx, hb, hml, hown, hts⟩ (kX11_isElder (T := TC) (g := g) rfl) (va_cwS 1 hts gX11_odds_X11_isElder rfl rfl rfl (by decide +kernel) ⟨Nat.le_of_ble_eq_true rfl, Nat.le_of_ble_eq_true rfl⟩) (c_preS hK hP hE hS) rfl rfl hl.1 rfl (lv_room (Nat.le_of_ble_eq_true rfl)) dX11_odds_9 ⟨Nat.zero_le _, Nat.zero_le _⟩) hS (fun H locs hP hS => ?_)
    refine lv_if_eq (tgt := 22) hx hb dX11_odds_12 (by decide) (fun c4 => ?_) (fun c4 => ?_)
    · have hf := c_it c4 hf
      refine lv_ldc2 hx hb hown (v := (-9223372036854775808 : Int64)) (hts _ (List.mem_of_getElem? (i := 1) rfl)) dX11_odds_22 ?_
      exact c_lret hx hb hr hlk hP hS (c_inj hf) dX11_odds_25
    · have hf := c_ie c4 hf
      refine lv_iload_n hx hb dX11_odds_15 rfl (lv_at hl 3 rfl) ?_
      refine c_goi (va_runS (As := [.int a3]) (rest := []) ⟨hx, hb, hml, hown, hts⟩ (kX11_isPart (T := TC) (g := g) rfl) (va_cwS 1 hts gX11_odds_X11_isPart rfl rfl rfl (by decide +kernel) ⟨Nat.le_of_ble_eq_true rfl, Nat.le_of_ble_eq_true rfl⟩) (c_preS hK hP hE hS) rfl rfl hl.1 rfl (lv_room (Nat.le_of_ble_eq_true rfl)) dX11_odds_16 ⟨Nat.zero_le _, Nat.zero_le _⟩) hS (fun H locs hP hS => ?_)
      refine lv_if_ne (tgt := 26) hx hb dX11_odds_19 (by decide) (fun c5 => ?_) (fun c5 => ?_)
      · have hf := c_ie c5 hf
        refine lv_aload_n hx hb dX11_odds_26 rfl (lv_at hl 0 rfl) ?_
        refine lv_iload_n hx hb dX11_odds_27 rfl (lv_at hl 1 rfl) ?_
        refine lv_iload_n hx hb dX11_odds_28 rfl (lv_at hl 2 rfl) ?_
        obtain ⟨g7, r8, hc6, hf⟩ := c_b2E hf
        refine c_goi (va_runV (As := [.int a1, .int a2]) (rest := []) ⟨hx, hb, hml, hown, hts⟩ (kX11_saysNow hD hc6) (cwV 2 hts gX11_odds_X11_saysNow rfl rfl rfl (by decide +kernel) ⟨Nat.le_of_ble_eq_true rfl, Nat.le_of_ble_eq_true rfl⟩) (c_preV hK hP hE hS tC0 rfl) rfl rfl hl.1 rfl (lv_room (Nat.le_of_ble_eq_true rfl)) dX11_odds_29 ⟨Nat.zero_le _, Nat.zero_le _⟩) hS (fun H locs hP hS => ?_)
        refine lv_bipush (v := (-5 : Int32)) hx hb dX11_odds_32 (by decide) ?_
        refine lv_icmp_eq (tgt := 41) hx hb dX11_odds_34 (by decide) (fun c9 => ?_) (fun c9 => ?_)
        · have hf := c_it c9 hf
          refine lv_iconst (v := (0 : Int32)) hx hb dX11_odds_41 (by decide) ?_
          exact jX11_odds_42 C hD a3 ((0 : Int32)) g7 hf _ _ hP hS _ (lv_sub hl [3] rfl)
        · have hf := c_ie c9 hf
          refine lv_iconst (v := (1 : Int32)) hx hb dX11_odds_37 (by decide) ?_
          refine lv_goto (tgt := 42) hx hb dX11_odds_38 (by decide) ?_
          exact jX11_odds_42 C hD a3 ((1 : Int32)) g7 hf _ _ hP hS _ (lv_sub hl [3] rfl)
      · have hf := c_it c5 hf
        refine lv_ldc2 hx hb hown (v := (-9223372036854775808 : Int64)) (hts _ (List.mem_of_getElem? (i := 1) rfl)) dX11_odds_22 ?_
        exact c_lret hx hb hr hlk hP hS (c_inj hf) dX11_odds_25
theorem dX11_commonDivisor_0 : decode cX11_commonDivisor 0 = .ok (.iload_n 1, 1) := by decide +kernel
theorem dX11_commonDivisor_1 : decode cX11_commonDivisor 1 = .ok (.istore_n 2, 1) := by decide +kernel
theorem dX11_commonDivisor_2 : decode cX11_commonDivisor 2 = .ok (.iload_n 2, 1) := by decide +kernel
theorem dX11_commonDivisor_3 : decode cX11_commonDivisor 3 = .ok (.iconst 1, 1) := by decide +kernel
theorem dX11_commonDivisor_4 : decode cX11_commonDivisor 4 = .ok (.if_icmp .le 23, 3) := by decide +kernel
theorem dX11_commonDivisor_7 : decode cX11_commonDivisor 7 = .ok (.iload_n 0, 1) := by decide +kernel
theorem dX11_commonDivisor_8 : decode cX11_commonDivisor 8 = .ok (.iload_n 2, 1) := by decide +kernel
theorem dX11_commonDivisor_9 : decode cX11_commonDivisor 9 = .ok (.irem, 1) := by decide +kernel
theorem dX11_commonDivisor_10 : decode cX11_commonDivisor 10 = .ok (.ifCond .ne 11, 3) := by decide +kernel
theorem dX11_commonDivisor_13 : decode cX11_commonDivisor 13 = .ok (.iload_n 1, 1) := by decide +kernel
theorem dX11_commonDivisor_14 : decode cX11_commonDivisor 14 = .ok (.iload_n 2, 1) := by decide +kernel
theorem dX11_commonDivisor_15 : decode cX11_commonDivisor 15 = .ok (.irem, 1) := by decide +kernel
theorem dX11_commonDivisor_16 : decode cX11_commonDivisor 16 = .ok (.ifCond .ne 5, 3) := by decide +kernel
theorem dX11_commonDivisor_19 : decode cX11_commonDivisor 19 = .ok (.iload_n 2, 1) := by decide +kernel
theorem dX11_commonDivisor_20 : decode cX11_commonDivisor 20 = .ok (.ireturn, 1) := by decide +kernel
theorem dX11_commonDivisor_21 : decode cX11_commonDivisor 21 = .ok (.iinc 2 (-1), 3) := by decide +kernel
theorem dX11_commonDivisor_24 : decode cX11_commonDivisor 24 = .ok (.goto (-22), 3) := by decide +kernel
theorem dX11_commonDivisor_27 : decode cX11_commonDivisor 27 = .ok (.iconst 1, 1) := by decide +kernel
theorem dX11_commonDivisor_28 : decode cX11_commonDivisor 28 = .ok (.ireturn, 1) := by decide +kernel
def fX11_commonDivisor_21 (rec2 : Int32 → Int32 → Int32 → c_G → Option (Int32)) (a1 : Int32) (a2 : Int32) (x0 : Int32) (x1 : Int32) (x2 : Int32) (g : c_G) : Option (Int32) :=
  c_let (x2 + (-1 : Int32)) fun v21001 => rec2 x0 x1 v21001 g
set_option maxRecDepth 100000 in
set_option maxHeartbeats 4000000 in
theorem jX11_commonDivisor_21 {p : Program} {l : Launch} {e : Env} {s : State} {m : MethodId} {below : List Frame} {meth : Method} {c : Code} {D : va_G} {tc : Nat → ClassId} {ad : Nat → Nat} {A : Nat → Prop} {E : (Nat → Nat) × (Nat → Nat) × Nat} {a1 : Int32} {a2 : Int32} {r : Int32} (C : c_C p s m meth c D tc A E RX11 wsX11_commonDivisor cX11_commonDivisor 3 (some .int) ([.int a1, .int a2] : List Value).toArray) (hD : c_D A ad TC) {rec2 : Int32 → Int32 → Int32 → c_G → Option (Int32)} (hrec2 : ∀ (x0 : Int32) (x1 : Int32) (x2 : Int32) (g : c_G), rec2 x0 x1 x2 g = some r → ∀ (H : Heap) (locs : List Loc), va_P D vwCl (c_ws tc ad TC g) H → va_S A s.heap H locs → ∀ ls : Array Slot, lv_has ls 3 [(0, .int x0), (1, .int x1), (2, .int x2)] → W p l e (c_rm 0) s m ([.int a1, .int a2] : List Value).toArray below meth c H locs 0 0 (MQ below (va_Qi (fun (x : Int32) (_ : Unit) => x = r) (fun _ t => va_P D vwCl (c_ws tc ad TC g) t.heap) A) ([.int a1, .int a2] : List Value).toArray s 0 0 A) (F0 m 2 ls [])) : ∀ (x0 : Int32) (x1 : Int32) (x2 : Int32) (g : c_G), fX11_commonDivisor_21 rec2 a1 a2 x0 x1 x2 g = some r → ∀ (H : Heap) (locs : List Loc), va_P D vwCl (c_ws tc ad TC g) H → va_S A s.heap H locs → ∀ ls : Array Slot, lv_has ls 3 [(0, .int x0), (1, .int x1), (2, .int x2)] → W p l e (c_rm 0) s m ([.int a1, .int a2] : List Value).toArray below meth c H locs 0 0 (MQ below (va_Qi (fun (x : Int32) (_ : Unit) => x = r) (fun _ t => va_P D vwCl (c_ws tc ad TC g) t.heap) A) ([.int a1, .int a2] : List Value).toArray s 0 0 A) (F0 m 21 ls []) := by
  obtain ⟨hx, hb, hr, hml, hts, hown, hlk, hK, hE⟩ := id C
  intro x0 x1 x2 g hf H locs hP hS ls hl
  unfold fX11_commonDivisor_21 at hf
  obtain ⟨v21001, ev21001, hf⟩ := c_letE hf
  refine lv_iinc (v := v21001) (lv' := [(2, .int v21001), (0, .int x0), (1, .int x1)]) hx hb dX11_commonDivisor_21 hl (k := 2) rfl (by rw [ev21001]; rfl) (by decide) rfl (fun ls hl => ?_)
  refine lv_goto (tgt := 2) hx hb dX11_commonDivisor_24 (by decide) ?_
  exact hrec2 x0 x1 v21001 g hf _ _ hP hS _ (lv_sub hl [1, 2, 0] rfl)
def fX11_commonDivisor_2  (a1 : Int32) (a2 : Int32) : Nat → Int32 → Int32 → Int32 → c_G → Option (Int32)
  | 0, _, _, _, _ => none
  | n + 1, x0, x1, x2, g => if x2 ≤ (1 : Int32) then (some (1 : Int32)) else (if x2 = 0 then none else if (x0 - x0 / x2 * x2) = 0 then (if x2 = 0 then none else if (x1 - x1 / x2 * x2) = 0 then (some x2) else (fX11_commonDivisor_21 (fX11_commonDivisor_2 a1 a2 n) a1 a2 x0 x1 x2 g)) else (fX11_commonDivisor_21 (fX11_commonDivisor_2 a1 a2 n) a1 a2 x0 x1 x2 g))
set_option maxRecDepth 100000 in
set_option maxHeartbeats 4000000 in
theorem jX11_commonDivisor_2 {p : Program} {l : Launch} {e : Env} {s : State} {m : MethodId} {below : List Frame} {meth : Method} {c : Code} {D : va_G} {tc : Nat → ClassId} {ad : Nat → Nat} {A : Nat → Prop} {E : (Nat → Nat) × (Nat → Nat) × Nat} {a1 : Int32} {a2 : Int32} {r : Int32} (C : c_C p s m meth c D tc A E RX11 wsX11_commonDivisor cX11_commonDivisor 3 (some .int) ([.int a1, .int a2] : List Value).toArray) (hD : c_D A ad TC)  : ∀ (n : Nat) (x0 : Int32) (x1 : Int32) (x2 : Int32) (g : c_G), fX11_commonDivisor_2 a1 a2 n x0 x1 x2 g = some r → ∀ (H : Heap) (locs : List Loc), va_P D vwCl (c_ws tc ad TC g) H → va_S A s.heap H locs → ∀ ls : Array Slot, lv_has ls 3 [(0, .int x0), (1, .int x1), (2, .int x2)] → W p l e (c_rm 0) s m ([.int a1, .int a2] : List Value).toArray below meth c H locs 0 0 (MQ below (va_Qi (fun (x : Int32) (_ : Unit) => x = r) (fun _ t => va_P D vwCl (c_ws tc ad TC g) t.heap) A) ([.int a1, .int a2] : List Value).toArray s 0 0 A) (F0 m 2 ls []) := by
  obtain ⟨hx, hb, hr, hml, hts, hown, hlk, hK, hE⟩ := id C
  intro n
  induction n with
  | zero =>
    intro x0 x1 x2 g hf
    cases hf
  | succ n ih =>
    intro x0 x1 x2 g hf H locs hP hS ls hl
    unfold fX11_commonDivisor_2 at hf
    refine lv_iload_n hx hb dX11_commonDivisor_2 rfl (lv_at hl 2 rfl) ?_
    refine lv_iconst (v := (1 : Int32)) hx hb dX11_commonDivisor_3 (by decide) ?_
    refine lv_icmp_le (tgt := 27) hx hb dX11_commonDivisor_4 (by decide) (fun c2001 => ?_) (fun c2001 => ?_)
    · have hf := c_it c2001 hf
      refine lv_iconst (v := (1 : Int32)) hx hb dX11_commonDivisor_27 (by decide) ?_
      exact c_iret hx hb hr hlk hP hS rfl ⟨rfl, Option.some.inj hf⟩ dX11_commonDivisor_28
    · have hf := c_ie c2001 hf
      refine lv_iload_n hx hb dX11_commonDivisor_7 rfl (lv_at hl 0 rfl) ?_
      refine lv_iload_n hx hb dX11_commonDivisor_8 rfl (lv_at hl 2 rfl) ?_
      obtain ⟨hz2002, hf⟩ := c_gn hf
      refine lv_irem hx hb dX11_commonDivisor_9 hz2002 ?_
      refine lv_if_ne (tgt := 21) hx hb dX11_commonDivisor_10 (by decide) (fun c2003 => ?_) (fun c2003 => ?_)
      · have hf := c_ie c2003 hf
        exact jX11_commonDivisor_21 C hD ih x0 x1 x2 g hf _ _ hP hS _ (lv_sub hl [0, 1, 2] rfl)
      · have hf := c_it c2003 hf
        refine lv_iload_n hx hb dX11_commonDivisor_13 rfl (lv_at hl 1 rfl) ?_
        refine lv_iload_n hx hb dX11_commonDivisor_14 rfl (lv_at hl 2 rfl) ?_
        obtain ⟨hz2004, hf⟩ := c_gn hf
        refine lv_irem hx hb dX11_commonDivisor_15 hz2004 ?_
        refine lv_if_ne (tgt := 21) hx hb dX11_commonDivisor_16 (by decide) (fun c2005 => ?_) (fun c2005 => ?_)
        · have hf := c_ie c2005 hf
          exact jX11_commonDivisor_21 C hD ih x0 x1 x2 g hf _ _ hP hS _ (lv_sub hl [0, 1, 2] rfl)
        · have hf := c_it c2005 hf
          refine lv_iload_n hx hb dX11_commonDivisor_19 rfl (lv_at hl 2 rfl) ?_
          exact c_iret hx hb hr hlk hP hS rfl ⟨rfl, Option.some.inj hf⟩ dX11_commonDivisor_20
def fX11_commonDivisor (g : c_G) (a1 : Int32) (a2 : Int32) : Option (Int32) :=
  fX11_commonDivisor_2 a1 a2 c_F a1 a2 a2 g
set_option maxRecDepth 100000 in
set_option maxHeartbeats 4000000 in
theorem kX11_commonDivisor {l : Launch} {D : va_G} {tc : Nat → ClassId} {ad : Nat → Nat} {A : Nat → Prop} {E : (Nat → Nat) × (Nat → Nat) × Nat} (hD : c_D A ad TC) {a1 : Int32} {a2 : Int32} {g : c_G} {r : Int32} (hf : fX11_commonDivisor g a1 a2 = some r) : c_Mi l yX11_commonDivisor wsX11_commonDivisor (c_rm 0) D tc ad A E TC ([.int a1, .int a2] : List Value) g g r := by
  refine c_ofW (bytes := cX11_commonDivisor) (maxL := 3) (ret := (some .int)) (by decide) rfl (Nat.le_of_ble_eq_true rfl) ?_
  intro p e s m below meth c ls C hP hS hl
  unfold fX11_commonDivisor at hf
  obtain ⟨hx, hb, hr, hml, hts, hown, hlk, hK, hE⟩ := id C
  have hl : lv_has ls 3 [(0, .int a1), (1, .int a2)] := hl
  refine lv_iload_n hx hb dX11_commonDivisor_0 rfl (lv_at hl 1 rfl) ?_
  refine lv_istore_n (lv' := [(2, .int a2), (0, .int a1), (1, .int a2)]) hx hb dX11_commonDivisor_1 rfl hl (by decide) rfl (fun ls hl => ?_)
  exact jX11_commonDivisor_2 C hD c_F a1 a2 a2 g hf _ _ hP hS _ (lv_sub hl [1, 2, 0] rfl)
theorem i_X11_mean_X7 : ∀ w ∈ u_ws RX7 TX7 17, w ∈ wsX11_mean := c_inP [176, 177, 178, 179, 180, 181, 182, 183, 184, 185, 186, 187, 188, 189, 190, 191, 192] (by decide +kernel)
theorem i_X11_mean_X11 : ∀ w ∈ u_ws RX11 TX11 19, w ∈ wsX11_mean := c_inP [157, 158, 159, 160, 161, 162, 163, 164, 165, 166, 167, 168, 169, 170, 171, 172, 173, 174, 175] (by decide +kernel)
theorem dX11_mean_0 : decode cX11_mean 0 = .ok (.iload_n 1, 1) := by decide +kernel
theorem dX11_mean_1 : decode cX11_mean 1 = .ok (.invokestatic 216, 3) := by decide +kernel
theorem dX11_mean_4 : decode cX11_mean 4 = .ok (.ifCond .eq 20, 3) := by decide +kernel
theorem dX11_mean_7 : decode cX11_mean 7 = .ok (.iload_n 2, 1) := by decide +kernel
theorem dX11_mean_8 : decode cX11_mean 8 = .ok (.invokestatic 248, 3) := by decide +kernel
theorem dX11_mean_11 : decode cX11_mean 11 = .ok (.ifCond .eq 13, 3) := by decide +kernel
theorem dX11_mean_14 : decode cX11_mean 14 = .ok (.aload_n 0, 1) := by decide +kernel
theorem dX11_mean_15 : decode cX11_mean 15 = .ok (.getfield 86, 3) := by decide +kernel
theorem dX11_mean_18 : decode cX11_mean 18 = .ok (.getfield 109, 3) := by decide +kernel
theorem dX11_mean_21 : decode cX11_mean 21 = .ok (.ifCond .ne 7, 3) := by decide +kernel
theorem dX11_mean_24 : decode cX11_mean 24 = .ok (.ldc2_w 251, 3) := by decide +kernel
theorem dX11_mean_27 : decode cX11_mean 27 = .ok (.lreturn, 1) := by decide +kernel
theorem dX11_mean_28 : decode cX11_mean 28 = .ok (.aload_n 0, 1) := by decide +kernel
theorem dX11_mean_29 : decode cX11_mean 29 = .ok (.getfield 93, 3) := by decide +kernel
theorem dX11_mean_32 : decode cX11_mean 32 = .ok (.aload_n 0, 1) := by decide +kernel
theorem dX11_mean_33 : decode cX11_mean 33 = .ok (.getfield 86, 3) := by decide +kernel
theorem dX11_mean_36 : decode cX11_mean 36 = .ok (.invokevirtual 223, 3) := by decide +kernel
theorem dX11_mean_39 : decode cX11_mean 39 = .ok (.aload_n 0, 1) := by decide +kernel
theorem dX11_mean_40 : decode cX11_mean 40 = .ok (.aload_n 0, 1) := by decide +kernel
theorem dX11_mean_41 : decode cX11_mean 41 = .ok (.getfield 93, 3) := by decide +kernel
theorem dX11_mean_44 : decode cX11_mean 44 = .ok (.iload_n 1, 1) := by decide +kernel
theorem dX11_mean_45 : decode cX11_mean 45 = .ok (.ldc 227, 2) := by decide +kernel
theorem dX11_mean_47 : decode cX11_mean 47 = .ok (.invokevirtual 219, 3) := by decide +kernel
theorem dX11_mean_50 : decode cX11_mean 50 = .ok (.iconst 0, 1) := by decide +kernel
theorem dX11_mean_51 : decode cX11_mean 51 = .ok (.istore_n 3, 1) := by decide +kernel
theorem dX11_mean_52 : decode cX11_mean 52 = .ok (.iconst 0, 1) := by decide +kernel
theorem dX11_mean_53 : decode cX11_mean 53 = .ok (.istore 4, 2) := by decide +kernel
theorem dX11_mean_55 : decode cX11_mean 55 = .ok (.iload 4, 2) := by decide +kernel
theorem dX11_mean_57 : decode cX11_mean 57 = .ok (.aload_n 0, 1) := by decide +kernel
theorem dX11_mean_58 : decode cX11_mean 58 = .ok (.getfield 93, 3) := by decide +kernel
theorem dX11_mean_61 : decode cX11_mean 61 = .ok (.getfield 109, 3) := by decide +kernel
theorem dX11_mean_64 : decode cX11_mean 64 = .ok (.if_icmp .ge 25, 3) := by decide +kernel
theorem dX11_mean_67 : decode cX11_mean 67 = .ok (.iload_n 3, 1) := by decide +kernel
theorem dX11_mean_68 : decode cX11_mean 68 = .ok (.aload_n 0, 1) := by decide +kernel
theorem dX11_mean_69 : decode cX11_mean 69 = .ok (.getfield 93, 3) := by decide +kernel
theorem dX11_mean_72 : decode cX11_mean 72 = .ok (.getfield 126, 3) := by decide +kernel
theorem dX11_mean_75 : decode cX11_mean 75 = .ok (.iload 4, 2) := by decide +kernel
theorem dX11_mean_77 : decode cX11_mean 77 = .ok (.iaload, 1) := by decide +kernel
theorem dX11_mean_78 : decode cX11_mean 78 = .ok (.invokestatic 255, 3) := by decide +kernel
theorem dX11_mean_81 : decode cX11_mean 81 = .ok (.iadd, 1) := by decide +kernel
theorem dX11_mean_82 : decode cX11_mean 82 = .ok (.istore_n 3, 1) := by decide +kernel
theorem dX11_mean_83 : decode cX11_mean 83 = .ok (.iinc 4 1, 3) := by decide +kernel
theorem dX11_mean_86 : decode cX11_mean 86 = .ok (.goto (-31), 3) := by decide +kernel
theorem dX11_mean_89 : decode cX11_mean 89 = .ok (.iload_n 2, 1) := by decide +kernel
theorem dX11_mean_90 : decode cX11_mean 90 = .ok (.ifCond .ne 7, 3) := by decide +kernel
theorem dX11_mean_93 : decode cX11_mean 93 = .ok (.iload_n 3, 1) := by decide +kernel
theorem dX11_mean_94 : decode cX11_mean 94 = .ok (.goto 10, 3) := by decide +kernel
theorem dX11_mean_97 : decode cX11_mean 97 = .ok (.aload_n 0, 1) := by decide +kernel
theorem dX11_mean_98 : decode cX11_mean 98 = .ok (.getfield 86, 3) := by decide +kernel
theorem dX11_mean_101 : decode cX11_mean 101 = .ok (.getfield 109, 3) := by decide +kernel
theorem dX11_mean_104 : decode cX11_mean 104 = .ok (.iload_n 3, 1) := by decide +kernel
theorem dX11_mean_105 : decode cX11_mean 105 = .ok (.aload_n 0, 1) := by decide +kernel
theorem dX11_mean_106 : decode cX11_mean 106 = .ok (.getfield 86, 3) := by decide +kernel
theorem dX11_mean_109 : decode cX11_mean 109 = .ok (.getfield 109, 3) := by decide +kernel
theorem dX11_mean_112 : decode cX11_mean 112 = .ok (.invokestatic 260, 3) := by decide +kernel
theorem dX11_mean_115 : decode cX11_mean 115 = .ok (.idiv, 1) := by decide +kernel
theorem dX11_mean_116 : decode cX11_mean 116 = .ok (.i2l, 1) := by decide +kernel
theorem dX11_mean_117 : decode cX11_mean 117 = .ok (.lreturn, 1) := by decide +kernel
set_option maxRecDepth 20000 in
theorem ggX11_mean_X11_areSundays : GoodIn wsX11_mean wsX11_areSundays := goodIn_r _ [10] (by decide +kernel) (by decide +kernel)
set_option maxRecDepth 20000 in
theorem gX11_mean_X11_areSundays : GoodIn wsX11_mean (va_wsS RX11 216 yX11_areSundays wsX11_areSundays) := goodIn_app (goodIn_of _ (by decide +kernel)) ggX11_mean_X11_areSundays
set_option maxRecDepth 20000 in
theorem ggX11_mean_X11_isPart : GoodIn wsX11_mean wsX11_isPart := goodIn_r _ [13] (by decide +kernel) (by decide +kernel)
set_option maxRecDepth 20000 in
theorem gX11_mean_X11_isPart : GoodIn wsX11_mean (va_wsS RX11 248 yX11_isPart wsX11_isPart) := goodIn_app (goodIn_of _ (by decide +kernel)) ggX11_mean_X11_isPart
set_option maxRecDepth 20000 in
theorem ggX11_mean_X7_copyFrom : GoodIn wsX11_mean wsX7_copyFrom := goodIn_r _ [18, 19, 20, 21, 22, 23, 24, 25, 26, 27, 28, 29, 30, 31, 32, 33, 34, 35, 36, 37, 38, 39, 40, 41, 42, 43, 44, 45, 46, 47, 48, 49, 176, 177, 178, 179, 180, 181, 182, 183, 184, 185, 186, 187, 188, 189, 190, 191, 192, 193, 194, 195, 196] (by decide +kernel) (by decide +kernel)
set_option maxRecDepth 20000 in
theorem gX11_mean_X7_copyFrom : GoodIn wsX11_mean (wsV RX11 223 RX7 yX7_copyFrom wsX7_copyFrom) := goodIn_app (goodIn_of _ (by decide +kernel)) ggX11_mean_X7_copyFrom
set_option maxRecDepth 20000 in
theorem ggX11_mean_X11_letGo : GoodIn wsX11_mean wsX11_letGo := goodIn_r _ [53, 2, 54, 55, 56, 57, 9, 58, 59, 6, 60, 61, 62, 63, 64, 65, 66, 67, 68, 69, 17, 70, 24, 26, 71, 72, 73, 74, 75, 76, 77, 78, 79, 80, 81, 82, 83, 84, 85, 86, 87, 88, 89, 90, 91, 92, 93, 94, 95, 96, 97, 98, 99, 100, 101, 102, 103, 104, 105, 106, 107, 108, 109, 110, 111, 112, 113, 114, 115, 116, 117, 118, 119, 120, 121, 122, 123, 124, 125, 126, 127, 128, 129, 130, 131, 132, 133, 134, 135, 136, 137, 138, 27, 139, 140, 141, 142, 143, 144, 145, 39, 146, 29, 33, 32, 28, 176, 177, 178, 179, 180, 181, 182, 183, 184, 185, 186, 187, 188, 189, 190, 191, 192, 157, 158, 159, 160, 161, 162, 163, 164, 165, 166, 167, 168, 169, 170, 171, 172, 173, 174, 175, 197, 198, 199, 200, 201, 202, 203, 204] (by decide +kernel) (by decide +kernel)
set_option maxRecDepth 20000 in
theorem gX11_mean_X11_letGo : GoodIn wsX11_mean (wsV RX11 219 RX11 yX11_letGo wsX11_letGo) := goodIn_app (goodIn_of _ (by decide +kernel)) ggX11_mean_X11_letGo
set_option maxRecDepth 20000 in
theorem ggX11_mean_J6_bitCount_0f7a4 : GoodIn wsX11_mean wsJ6_bitCount_0f7a4 := goodIn_r _ [150, 151, 152, 153] (by decide +kernel) (by decide +kernel)
set_option maxRecDepth 20000 in
theorem gX11_mean_J6_bitCount_0f7a4 : GoodIn wsX11_mean (va_wsS RX11 255 yJ6_bitCount_0f7a4 wsJ6_bitCount_0f7a4) := goodIn_app (goodIn_of _ (by decide +kernel)) ggX11_mean_J6_bitCount_0f7a4
set_option maxRecDepth 20000 in
theorem ggX11_mean_X11_commonDivisor : GoodIn wsX11_mean wsX11_commonDivisor := goodIn_r _ [156] (by decide +kernel) (by decide +kernel)
set_option maxRecDepth 20000 in
theorem gX11_mean_X11_commonDivisor : GoodIn wsX11_mean (va_wsS RX11 260 yX11_commonDivisor wsX11_commonDivisor) := goodIn_app (goodIn_of _ (by decide +kernel)) ggX11_mean_X11_commonDivisor
def fX11_mean_104  (a1 : Int32) (a2 : Int32) (x3 : Int32) (y0 : Int32) (g : c_G) : Option (c_G × Int64) :=
  (fX11_commonDivisor g x3 ((g.1 55 6))).bind fun r104001 => if r104001 = 0 then none else some (g, (((y0 / r104001)).toInt64))
set_option maxRecDepth 100000 in
set_option maxHeartbeats 4000000 in
theorem jX11_mean_104 {p : Program} {l : Launch} {e : Env} {s : State} {m : MethodId} {below : List Frame} {meth : Method} {c : Code} {D : va_G} {tc : Nat → ClassId} {ad : Nat → Nat} {A : Nat → Prop} {E : (Nat → Nat) × (Nat → Nat) × Nat} {a1 : Int32} {a2 : Int32} {g' : c_G} {r : Int64} (C : c_C p s m meth c D tc A E RX11 wsX11_mean cX11_mean 5 (some .long) ([.ref (ad 0), .int a1, .int a2] : List Value).toArray) (hD : c_D A ad TC)  : ∀ (x3 : Int32) (y0 : Int32) (g : c_G), fX11_mean_104 a1 a2 x3 y0 g = some (g', r) → ∀ (H : Heap) (locs : List Loc), va_P D vwCl (c_ws tc ad TC g) H → va_S A s.heap H locs → ∀ ls : Array Slot, lv_has ls 5 [(0, .ref (ad 0)), (3, .int x3)] → W p l e (c_rm 6) s m ([.ref (ad 0), .int a1, .int a2] : List Value).toArray below meth c H locs 0 0 (MQ below (va_Ql (fun (x : Int64) (_ : Unit) => x = r) (fun _ t => va_P D vwCl (c_ws tc ad TC g') t.heap) A) ([.ref (ad 0), .int a1, .int a2] : List Value).toArray s 0 0 A) (F0 m 104 ls [.int y0]) := by
  obtain ⟨hx, hb, hr, hml, hts, hown, hlk, hK, hE⟩ := id C
  intro x3 y0 g hf H locs hP hS ls hl
  unfold fX11_mean_104 at hf
  refine lv_iload_n hx hb dX11_mean_104 rfl (lv_at hl 1 rfl) ?_
  refine lv_aload_n hx hb dX11_mean_105 rfl (lv_at hl 0 rfl) ?_
  refine c_get hx hb hts i_X11_mean_X11 hown hK hP 0 tC0 rfl 5 (by decide) (hts _ (List.mem_of_getElem? (i := 1) rfl)) (fun _ h9 => h9) rfl (v := .ref (ad 55)) rfl dX11_mean_106 ?_
  refine c_get hx hb hts i_X11_mean_X7 hown hK hP 55 tC55 rfl 6 (by decide) (hts _ (List.mem_of_getElem? (i := 2) rfl)) (fun _ h9 => h9) rfl (v := .int (g.1 55 6)) rfl dX11_mean_109 ?_
  obtain ⟨r104001, hc104002, hf⟩ := c_bd hf
  refine c_goi (va_runS (As := [.int x3, .int (g.1 55 6)]) (rest := [.int y0]) ⟨hx, hb, hml, hown, hts⟩ (kX11_commonDivisor hD hc104002) (va_cwS 2 hts gX11_mean_X11_commonDivisor rfl rfl rfl (by decide +kernel) ⟨Nat.le_of_ble_eq_true rfl, Nat.le_of_ble_eq_true rfl⟩) (c_preS hK hP hE hS) rfl rfl hl.1 rfl (lv_room (Nat.le_of_ble_eq_true rfl)) dX11_mean_112 ⟨Nat.zero_le _, Nat.zero_le _⟩) hS (fun H locs hP hS => ?_)
  obtain ⟨hz104003, hf⟩ := c_gn hf
  refine lv_idiv hx hb dX11_mean_115 hz104003 ?_
  refine lv_i2l hx hb dX11_mean_116 rfl ?_
  exact c_lret hx hb hr hlk hP hS (c_inj hf) dX11_mean_117
def fX11_mean_55  (a1 : Int32) (a2 : Int32) : Nat → Int32 → Int32 → Int32 → c_G → Option (c_G × Int64)
  | 0, _, _, _, _ => none
  | n + 1, x2, x3, x4, g => if (g.1 101 6) ≤ x4 then (if x2 = 0 then (fX11_mean_104 a1 a2 x3 x3 g) else (fX11_mean_104 a1 a2 x3 ((g.1 55 6)) g)) else (if c_in (x4) (6) = true then c_let ((x3 + (fJ6_bitCount_0f7a4 ((g.1 108 (x4).toNatClampNeg))))) fun v55004 => c_let (x4 + (1 : Int32)) fun v55005 => (fX11_mean_55 a1 a2 n) x2 v55004 v55005 g else none)
set_option maxRecDepth 100000 in
set_option maxHeartbeats 4000000 in
theorem jX11_mean_55 {p : Program} {l : Launch} {e : Env} {s : State} {m : MethodId} {below : List Frame} {meth : Method} {c : Code} {D : va_G} {tc : Nat → ClassId} {ad : Nat → Nat} {A : Nat → Prop} {E : (Nat → Nat) × (Nat → Nat) × Nat} {a1 : Int32} {a2 : Int32} {g' : c_G} {r : Int64} (C : c_C p s m meth c D tc A E RX11 wsX11_mean cX11_mean 5 (some .long) ([.ref (ad 0), .int a1, .int a2] : List Value).toArray) (hD : c_D A ad TC)  : ∀ (n : Nat) (x2 : Int32) (x3 : Int32) (x4 : Int32) (g : c_G), fX11_mean_55 a1 a2 n x2 x3 x4 g = some (g', r) → ∀ (H : Heap) (locs : List Loc), va_P D vwCl (c_ws tc ad TC g) H → va_S A s.heap H locs → ∀ ls : Array Slot, lv_has ls 5 [(0, .ref (ad 0)), (2, .int x2), (3, .int x3), (4, .int x4)] → W p l e (c_rm 6) s m ([.ref (ad 0), .int a1, .int a2] : List Value).toArray below meth c H locs 0 0 (MQ below (va_Ql (fun (x : Int64) (_ : Unit) => x = r) (fun _ t => va_P D vwCl (c_ws tc ad TC g') t.heap) A) ([.ref (ad 0), .int a1, .int a2] : List Value).toArray s 0 0 A) (F0 m 55 ls []) := by
  obtain ⟨hx, hb, hr, hml, hts, hown, hlk, hK, hE⟩ := id C
  intro n
  induction n with
  | zero =>
    intro x2 x3 x4 g hf
    cases hf
  | succ n ih =>
    intro x2 x3 x4 g hf H locs hP hS ls hl
    unfold fX11_mean_55 at hf
    refine lv_iload hx hb dX11_mean_55 (lv_at hl 3 rfl) ?_
    refine lv_aload_n hx hb dX11_mean_57 rfl (lv_at hl 0 rfl) ?_
    refine c_get hx hb hts i_X11_mean_X11 hown hK hP 0 tC0 rfl 7 (by decide) (hts _ (List.mem_of_getElem? (i := 4) rfl)) (fun _ h9 => h9) rfl (v := .ref (ad 101)) rfl dX11_mean_58 ?_
    refine c_get hx hb hts i_X11_mean_X7 hown hK hP 101 tC101 rfl 6 (by decide) (hts _ (List.mem_of_getElem? (i := 2) rfl)) (fun _ h9 => h9) rfl (v := .int (g.1 101 6)) rfl dX11_mean_61 ?_
    refine lv_icmp_ge (tgt := 89) hx hb dX11_mean_64 (by decide) (fun c55001 => ?_) (fun c55001 => ?_)
    · have hf := c_it c55001 hf
      refine lv_iload_n hx hb dX11_mean_89 rfl (lv_at hl 1 rfl) ?_
      refine lv_if_ne (tgt := 97) hx hb dX11_mean_90 (by decide) (fun c55002 => ?_) (fun c55002 => ?_)
      · have hf := c_ie c55002 hf
        refine lv_aload_n hx hb dX11_mean_97 rfl (lv_at hl 0 rfl) ?_
        refine c_get hx hb hts i_X11_mean_X11 hown hK hP 0 tC0 rfl 5 (by decide) (hts _ (List.mem_of_getElem? (i := 1) rfl)) (fun _ h9 => h9) rfl (v := .ref (ad 55)) rfl dX11_mean_98 ?_
        refine c_get hx hb hts i_X11_mean_X7 hown hK hP 55 tC55 rfl 6 (by decide) (hts _ (List.mem_of_getElem? (i := 2) rfl)) (fun _ h9 => h9) rfl (v := .int (g.1 55 6)) rfl dX11_mean_101 ?_
        exact jX11_mean_104 C hD x3 ((g.1 55 6)) g hf _ _ hP hS _ (lv_sub hl [0, 2] rfl)
      · have hf := c_it c55002 hf
        refine lv_iload_n hx hb dX11_mean_93 rfl (lv_at hl 2 rfl) ?_
        refine lv_goto (tgt := 104) hx hb dX11_mean_94 (by decide) ?_
        exact jX11_mean_104 C hD x3 x3 g hf _ _ hP hS _ (lv_sub hl [0, 2] rfl)
    · have hf := c_ie c55001 hf
      refine lv_iload_n hx hb dX11_mean_67 rfl (lv_at hl 2 rfl) ?_
      refine lv_aload_n hx hb dX11_mean_68 rfl (lv_at hl 0 rfl) ?_
      refine c_get hx hb hts i_X11_mean_X11 hown hK hP 0 tC0 rfl 7 (by decide) (hts _ (List.mem_of_getElem? (i := 4) rfl)) (fun _ h9 => h9) rfl (v := .ref (ad 101)) rfl dX11_mean_69 ?_
      refine c_get hx hb hts i_X11_mean_X7 hown hK hP 101 tC101 rfl 9 (by decide) (hts _ (List.mem_of_getElem? (i := 6) rfl)) (fun _ h9 => h9) rfl (v := .ref (ad 108)) rfl dX11_mean_72 ?_
      refine lv_iload hx hb dX11_mean_75 (lv_at hl 3 rfl) ?_
      obtain ⟨hi55003, hf⟩ := c_gd hf
      refine c_iald (j := (x4).toNatClampNeg) hx hb hK hP 108 tC108 rfl (c_inV hi55003) dX11_mean_77 ?_
      refine c_goi (va_runS (As := [.int (g.1 108 (x4).toNatClampNeg)]) (rest := [.int x3]) ⟨hx, hb, hml, hown, hts⟩ (kJ6_bitCount_0f7a4 (T := TC) (g := g) rfl) (va_cwS 1 hts gX11_mean_J6_bitCount_0f7a4 rfl rfl rfl (by decide +kernel) ⟨Nat.le_of_ble_eq_true rfl, Nat.le_of_ble_eq_true rfl⟩) (c_preS hK hP hE hS) rfl rfl hl.1 rfl (lv_room (Nat.le_of_ble_eq_true rfl)) dX11_mean_78 ⟨Nat.zero_le _, Nat.zero_le _⟩) hS (fun H locs hP hS => ?_)
      refine lv_iadd hx hb dX11_mean_81 ?_
      obtain ⟨v55004, ev55004, hf⟩ := c_letE hf
      refine c_topi ev55004 ?_
      refine lv_istore_n (lv' := [(3, .int v55004), (0, .ref (ad 0)), (2, .int x2), (4, .int x4)]) hx hb dX11_mean_82 rfl hl (by decide) rfl (fun ls hl => ?_)
      obtain ⟨v55005, ev55005, hf⟩ := c_letE hf
      refine lv_iinc (v := v55005) (lv' := [(4, .int v55005), (3, .int v55004), (0, .ref (ad 0)), (2, .int x2)]) hx hb dX11_mean_83 hl (k := 3) rfl (by rw [ev55005]; rfl) (by decide) rfl (fun ls hl => ?_)
      refine lv_goto (tgt := 55) hx hb dX11_mean_86 (by decide) ?_
      exact ih x2 v55004 v55005 g hf _ _ hP hS _ (lv_sub hl [2, 3, 1, 0] rfl)
def fX11_mean (g : c_G) (a1 : Int32) (a2 : Int32) : Option (c_G × Int64) :=
  if (fX11_areSundays a1) = 0 then (some (g, (-9223372036854775808 : Int64))) else (if (fX11_isPart a2) = 0 then (some (g, (-9223372036854775808 : Int64))) else (if (g.1 55 6) = 0 then (some (g, (-9223372036854775808 : Int64))) else ((fX7_copyFrom g 101 55).bind fun g5 => (fX11_letGo g5 101 a1 ((1000000 : Int32))).bind fun g7 => fX11_mean_55 a1 a2 c_F a2 ((0 : Int32)) ((0 : Int32)) g7)))
set_option maxRecDepth 100000 in
set_option maxHeartbeats 4000000 in
theorem kX11_mean {l : Launch} {D : va_G} {tc : Nat → ClassId} {ad : Nat → Nat} {A : Nat → Prop} {E : (Nat → Nat) × (Nat → Nat) × Nat} (hD : c_D A ad TC) {a1 : Int32} {a2 : Int32} {g g' : c_G} {r : Int64} (hf : fX11_mean g a1 a2 = some (g', r)) : c_Ml l yX11_mean wsX11_mean (c_rm 6) D tc ad A E TC ([.ref (ad 0), .int a1, .int a2] : List Value) g g' r := by
  refine c_ofW (bytes := cX11_mean) (maxL := 5) (ret := (some .long)) (by decide) rfl (Nat.le_of_ble_eq_true rfl) ?_
  intro p e s m below meth c ls C hP hS hl
  unfold fX11_mean at hf
  obtain ⟨hx, hb, hr, hml, hts, hown, hlk, hK, hE⟩ := id C
  have hl : lv_has ls 5 [(0, .ref (ad 0)), (1, .int a1), (2, .int a2)] := hl
  refine lv_iload_n hx hb dX11_mean_0 rfl (lv_at hl 1 rfl) ?_
  refine c_goi (va_runS (As := [.int a1]) (rest := []) ⟨hx, hb, hml, hown, hts⟩ (kX11_areSundays (T := TC) (g := g) rfl) (va_cwS 1 hts gX11_mean_X11_areSundays rfl rfl rfl (by decide +kernel) ⟨Nat.le_of_ble_eq_true rfl, Nat.le_of_ble_eq_true rfl⟩) (c_preS hK hP hE hS) rfl rfl hl.1 rfl (lv_room (Nat.le_of_ble_eq_true rfl)) dX11_mean_1 ⟨Nat.zero_le _, Nat.zero_le _⟩) hS (fun H locs hP hS => ?_)
  refine lv_if_eq (tgt := 24) hx hb dX11_mean_4 (by decide) (fun c1 => ?_) (fun c1 => ?_)
  · have hf := c_it c1 hf
    refine lv_ldc2 hx hb hown (v := (-9223372036854775808 : Int64)) (hts _ (List.mem_of_getElem? (i := 3) rfl)) dX11_mean_24 ?_
    exact c_lret hx hb hr hlk hP hS (c_inj hf) dX11_mean_27
  · have hf := c_ie c1 hf
    refine lv_iload_n hx hb dX11_mean_7 rfl (lv_at hl 2 rfl) ?_
    refine c_goi (va_runS (As := [.int a2]) (rest := []) ⟨hx, hb, hml, hown, hts⟩ (kX11_isPart (T := TC) (g := g) rfl) (va_cwS 1 hts gX11_mean_X11_isPart rfl rfl rfl (by decide +kernel) ⟨Nat.le_of_ble_eq_true rfl, Nat.le_of_ble_eq_true rfl⟩) (c_preS hK hP hE hS) rfl rfl hl.1 rfl (lv_room (Nat.le_of_ble_eq_true rfl)) dX11_mean_8 ⟨Nat.zero_le _, Nat.zero_le _⟩) hS (fun H locs hP hS => ?_)
    refine lv_if_eq (tgt := 24) hx hb dX11_mean_11 (by decide) (fun c2 => ?_) (fun c2 => ?_)
    · have hf := c_it c2 hf
      refine lv_ldc2 hx hb hown (v := (-9223372036854775808 : Int64)) (hts _ (List.mem_of_getElem? (i := 3) rfl)) dX11_mean_24 ?_
      exact c_lret hx hb hr hlk hP hS (c_inj hf) dX11_mean_27
    · have hf := c_ie c2 hf
      refine lv_aload_n hx hb dX11_mean_14 rfl (lv_at hl 0 rfl) ?_
      refine c_get hx hb hts i_X11_mean_X11 hown hK hP 0 tC0 rfl 5 (by decide) (hts _ (List.mem_of_getElem? (i := 1) rfl)) (fun _ h9 => h9) rfl (v := .ref (ad 55)) rfl dX11_mean_15 ?_
      refine c_get hx hb hts i_X11_mean_X7 hown hK hP 55 tC55 rfl 6 (by decide) (hts _ (List.mem_of_getElem? (i := 2) rfl)) (fun _ h9 => h9) rfl (v := .int (g.1 55 6)) rfl dX11_mean_18 ?_
      refine lv_if_ne (tgt := 28) hx hb dX11_mean_21 (by decide) (fun c3 => ?_) (fun c3 => ?_)
      · have hf := c_ie c3 hf
        refine lv_aload_n hx hb dX11_mean_28 rfl (lv_at hl 0 rfl) ?_
        refine c_get hx hb hts i_X11_mean_X11 hown hK hP 0 tC0 rfl 7 (by decide) (hts _ (List.mem_of_getElem? (i := 4) rfl)) (fun _ h9 => h9) rfl (v := .ref (ad 101)) rfl dX11_mean_29 ?_
        refine lv_aload_n hx hb dX11_mean_32 rfl (lv_at hl 0 rfl) ?_
        refine c_get hx hb hts i_X11_mean_X11 hown hK hP 0 tC0 rfl 5 (by decide) (hts _ (List.mem_of_getElem? (i := 1) rfl)) (fun _ h9 => h9) rfl (v := .ref (ad 55)) rfl dX11_mean_33 ?_
        obtain ⟨g5, hc4, hf⟩ := c_bd hf
        refine c_gov (va_runV (As := [.ref (ad 55)]) (rest := []) ⟨hx, hb, hml, hown, hts⟩ (kX7_copyFrom hD hc4) (cwV 1 hts gX11_mean_X7_copyFrom rfl rfl rfl (by decide +kernel) ⟨Nat.le_of_ble_eq_true rfl, Nat.le_of_ble_eq_true rfl⟩) (c_preV hK hP hE hS tC101 rfl) rfl rfl hl.1 rfl (lv_room (Nat.le_of_ble_eq_true rfl)) dX11_mean_36 ⟨Nat.zero_le _, Nat.zero_le _⟩) hS (fun H locs hP hS => ?_)
        refine lv_aload_n hx hb dX11_mean_39 rfl (lv_at hl 0 rfl) ?_
        refine lv_aload_n hx hb dX11_mean_40 rfl (lv_at hl 0 rfl) ?_
        refine c_get hx hb hts i_X11_mean_X11 hown hK hP 0 tC0 rfl 7 (by decide) (hts _ (List.mem_of_getElem? (i := 4) rfl)) (fun _ h9 => h9) rfl (v := .ref (ad 101)) rfl dX11_mean_41 ?_
        refine lv_iload_n hx hb dX11_mean_44 rfl (lv_at hl 1 rfl) ?_
        refine lv_ldc hx hb hown (v := (1000000 : Int32)) (hts _ (List.mem_of_getElem? (i := 5) rfl)) dX11_mean_45 ?_
        obtain ⟨g7, hc6, hf⟩ := c_bd hf
        refine c_gov (va_runV (As := [.ref (ad 101), .int a1, .int (1000000 : Int32)]) (rest := []) ⟨hx, hb, hml, hown, hts⟩ (kX11_letGo hD hc6) (cwV 3 hts gX11_mean_X11_letGo rfl rfl rfl (by decide +kernel) ⟨Nat.le_of_ble_eq_true rfl, Nat.le_of_ble_eq_true rfl⟩) (c_preV hK hP hE hS tC0 rfl) rfl rfl hl.1 rfl (lv_room (Nat.le_of_ble_eq_true rfl)) dX11_mean_47 ⟨Nat.zero_le _, Nat.zero_le _⟩) hS (fun H locs hP hS => ?_)
        refine lv_iconst (v := (0 : Int32)) hx hb dX11_mean_50 (by decide) ?_
        refine lv_istore_n (lv' := [(3, .int (0 : Int32)), (0, .ref (ad 0)), (1, .int a1), (2, .int a2)]) hx hb dX11_mean_51 rfl hl (by decide) rfl (fun ls hl => ?_)
        refine lv_iconst (v := (0 : Int32)) hx hb dX11_mean_52 (by decide) ?_
        refine lv_istore (lv' := [(4, .int (0 : Int32)), (3, .int (0 : Int32)), (0, .ref (ad 0)), (1, .int a1), (2, .int a2)]) hx hb dX11_mean_53 hl (by decide) rfl (fun ls hl => ?_)
        exact jX11_mean_55 C hD c_F a2 ((0 : Int32)) ((0 : Int32)) g7 hf _ _ hP hS _ (lv_sub hl [2, 4, 1, 0] rfl)
      · have hf := c_it c3 hf
        refine lv_ldc2 hx hb hown (v := (-9223372036854775808 : Int64)) (hts _ (List.mem_of_getElem? (i := 3) rfl)) dX11_mean_24 ?_
        exact c_lret hx hb hr hlk hP hS (c_inj hf) dX11_mean_27
theorem i_X11_plan_X7 : ∀ w ∈ u_ws RX7 TX7 17, w ∈ wsX11_plan := c_inP [44, 45, 46, 47, 48, 49, 50, 51, 52, 53, 54, 55, 56, 57, 58, 59, 60] (by decide +kernel)
theorem i_X11_plan_X11 : ∀ w ∈ u_ws RX11 TX11 19, w ∈ wsX11_plan := c_inP [25, 26, 27, 28, 29, 30, 31, 32, 33, 34, 35, 36, 37, 38, 39, 40, 41, 42, 43] (by decide +kernel)
theorem dX11_plan_0 : decode cX11_plan 0 = .ok (.iload_n 1, 1) := by decide +kernel
theorem dX11_plan_1 : decode cX11_plan 1 = .ok (.iconst (-1), 1) := by decide +kernel
theorem dX11_plan_2 : decode cX11_plan 2 = .ok (.if_icmp .ne 14, 3) := by decide +kernel
theorem dX11_plan_5 : decode cX11_plan 5 = .ok (.aload_n 0, 1) := by decide +kernel
theorem dX11_plan_6 : decode cX11_plan 6 = .ok (.getfield 86, 3) := by decide +kernel
theorem dX11_plan_9 : decode cX11_plan 9 = .ok (.getfield 263, 3) := by decide +kernel
theorem dX11_plan_12 : decode cX11_plan 12 = .ok (.invokevirtual 236, 3) := by decide +kernel
theorem dX11_plan_15 : decode cX11_plan 15 = .ok (.ireturn, 1) := by decide +kernel
theorem dX11_plan_16 : decode cX11_plan 16 = .ok (.iload_n 1, 1) := by decide +kernel
theorem dX11_plan_17 : decode cX11_plan 17 = .ok (.ifCond .lt 8, 3) := by decide +kernel
theorem dX11_plan_20 : decode cX11_plan 20 = .ok (.iload_n 1, 1) := by decide +kernel
theorem dX11_plan_21 : decode cX11_plan 21 = .ok (.iconst 3, 1) := by decide +kernel
theorem dX11_plan_22 : decode cX11_plan 22 = .ok (.if_icmp .le 5, 3) := by decide +kernel
theorem dX11_plan_25 : decode cX11_plan 25 = .ok (.iconst (-1), 1) := by decide +kernel
theorem dX11_plan_26 : decode cX11_plan 26 = .ok (.ireturn, 1) := by decide +kernel
theorem dX11_plan_27 : decode cX11_plan 27 = .ok (.iload_n 1, 1) := by decide +kernel
theorem dX11_plan_28 : decode cX11_plan 28 = .ok (.iconst 1, 1) := by decide +kernel
theorem dX11_plan_29 : decode cX11_plan 29 = .ok (.if_icmp .ne 30, 3) := by decide +kernel
theorem dX11_plan_32 : decode cX11_plan 32 = .ok (.iload_n 2, 1) := by decide +kernel
theorem dX11_plan_33 : decode cX11_plan 33 = .ok (.ifCond .lt 24, 3) := by decide +kernel
theorem dX11_plan_36 : decode cX11_plan 36 = .ok (.aload_n 0, 1) := by decide +kernel
theorem dX11_plan_37 : decode cX11_plan 37 = .ok (.iload_n 2, 1) := by decide +kernel
theorem dX11_plan_38 : decode cX11_plan 38 = .ok (.bipush 10, 2) := by decide +kernel
theorem dX11_plan_40 : decode cX11_plan 40 = .ok (.idiv, 1) := by decide +kernel
theorem dX11_plan_41 : decode cX11_plan 41 = .ok (.invokevirtual 117, 3) := by decide +kernel
theorem dX11_plan_44 : decode cX11_plan 44 = .ok (.ifCond .eq 13, 3) := by decide +kernel
theorem dX11_plan_47 : decode cX11_plan 47 = .ok (.iload_n 2, 1) := by decide +kernel
theorem dX11_plan_48 : decode cX11_plan 48 = .ok (.bipush 10, 2) := by decide +kernel
theorem dX11_plan_50 : decode cX11_plan 50 = .ok (.irem, 1) := by decide +kernel
theorem dX11_plan_51 : decode cX11_plan 51 = .ok (.invokestatic 139, 3) := by decide +kernel
theorem dX11_plan_54 : decode cX11_plan 54 = .ok (.ifCond .ne 5, 3) := by decide +kernel
theorem dX11_plan_57 : decode cX11_plan 57 = .ok (.iconst (-1), 1) := by decide +kernel
theorem dX11_plan_58 : decode cX11_plan 58 = .ok (.ireturn, 1) := by decide +kernel
theorem dX11_plan_59 : decode cX11_plan 59 = .ok (.iload_n 1, 1) := by decide +kernel
theorem dX11_plan_60 : decode cX11_plan 60 = .ok (.iconst 1, 1) := by decide +kernel
theorem dX11_plan_61 : decode cX11_plan 61 = .ok (.if_icmp .le 12, 3) := by decide +kernel
theorem dX11_plan_64 : decode cX11_plan 64 = .ok (.iload_n 2, 1) := by decide +kernel
theorem dX11_plan_65 : decode cX11_plan 65 = .ok (.invokestatic 139, 3) := by decide +kernel
theorem dX11_plan_68 : decode cX11_plan 68 = .ok (.ifCond .ne 5, 3) := by decide +kernel
theorem dX11_plan_71 : decode cX11_plan 71 = .ok (.iconst (-1), 1) := by decide +kernel
theorem dX11_plan_72 : decode cX11_plan 72 = .ok (.ireturn, 1) := by decide +kernel
theorem dX11_plan_73 : decode cX11_plan 73 = .ok (.aload_n 0, 1) := by decide +kernel
theorem dX11_plan_74 : decode cX11_plan 74 = .ok (.getfield 86, 3) := by decide +kernel
theorem dX11_plan_77 : decode cX11_plan 77 = .ok (.getfield 263, 3) := by decide +kernel
theorem dX11_plan_80 : decode cX11_plan 80 = .ok (.iload_n 1, 1) := by decide +kernel
theorem dX11_plan_81 : decode cX11_plan 81 = .ok (.iload_n 2, 1) := by decide +kernel
theorem dX11_plan_82 : decode cX11_plan 82 = .ok (.iconst 0, 1) := by decide +kernel
theorem dX11_plan_83 : decode cX11_plan 83 = .ok (.invokevirtual 241, 3) := by decide +kernel
theorem dX11_plan_86 : decode cX11_plan 86 = .ok (.ireturn, 1) := by decide +kernel
set_option maxRecDepth 20000 in
theorem ggX11_plan_X5_clear : GoodIn wsX11_plan wsX5_clear := goodIn_r _ [7, 8, 61, 62, 63, 64] (by decide +kernel) (by decide +kernel)
set_option maxRecDepth 20000 in
theorem gX11_plan_X5_clear : GoodIn wsX11_plan (wsV RX11 236 RX5 yX5_clear wsX5_clear) := goodIn_app (goodIn_of _ (by decide +kernel)) ggX11_plan_X5_clear
set_option maxRecDepth 20000 in
theorem ggX11_plan_X11_isChild : GoodIn wsX11_plan wsX11_isChild := goodIn_r _ [13, 1, 14, 25, 26, 27, 28, 29, 30, 31, 32, 33, 34, 35, 36, 37, 38, 39, 40, 41, 42, 43, 44, 45, 46, 47, 48, 49, 50, 51, 52, 53, 54, 55, 56, 57, 58, 59, 60] (by decide +kernel) (by decide +kernel)
set_option maxRecDepth 20000 in
theorem gX11_plan_X11_isChild : GoodIn wsX11_plan (wsV RX11 117 RX11 yX11_isChild wsX11_isChild) := goodIn_app (goodIn_of _ (by decide +kernel)) ggX11_plan_X11_isChild
set_option maxRecDepth 20000 in
theorem ggX11_plan_X11_isElder : GoodIn wsX11_plan wsX11_isElder := goodIn_r _ [17] (by decide +kernel) (by decide +kernel)
set_option maxRecDepth 20000 in
theorem gX11_plan_X11_isElder : GoodIn wsX11_plan (va_wsS RX11 139 yX11_isElder wsX11_isElder) := goodIn_app (goodIn_of _ (by decide +kernel)) ggX11_plan_X11_isElder
set_option maxRecDepth 20000 in
theorem ggX11_plan_X5_add : GoodIn wsX11_plan wsX5_add := goodIn_r _ [21, 8, 22, 23, 24, 61, 62, 63, 64] (by decide +kernel) (by decide +kernel)
set_option maxRecDepth 20000 in
theorem gX11_plan_X5_add : GoodIn wsX11_plan (wsV RX11 241 RX5 yX5_add wsX5_add) := goodIn_app (goodIn_of _ (by decide +kernel)) ggX11_plan_X5_add
def fX11_plan_73  (a1 : Int32) (a2 : Int32) (x1 : Int32) (x2 : Int32) (g : c_G) : Option (c_G × Int32) :=
  c_b2 (fX5_add g 70 x1 x2 ((0 : Int32))) fun g73002 r73003 => some (g73002, r73003)
set_option maxRecDepth 100000 in
set_option maxHeartbeats 4000000 in
theorem jX11_plan_73 {p : Program} {l : Launch} {e : Env} {s : State} {m : MethodId} {below : List Frame} {meth : Method} {c : Code} {D : va_G} {tc : Nat → ClassId} {ad : Nat → Nat} {A : Nat → Prop} {E : (Nat → Nat) × (Nat → Nat) × Nat} {a1 : Int32} {a2 : Int32} {g' : c_G} {r : Int32} (C : c_C p s m meth c D tc A E RX11 wsX11_plan cX11_plan 3 (some .int) ([.ref (ad 0), .int a1, .int a2] : List Value).toArray) (hD : c_D A ad TC)  : ∀ (x1 : Int32) (x2 : Int32) (g : c_G), fX11_plan_73 a1 a2 x1 x2 g = some (g', r) → ∀ (H : Heap) (locs : List Loc), va_P D vwCl (c_ws tc ad TC g) H → va_S A s.heap H locs → ∀ ls : Array Slot, lv_has ls 3 [(0, .ref (ad 0)), (1, .int x1), (2, .int x2)] → W p l e (c_rm 1) s m ([.ref (ad 0), .int a1, .int a2] : List Value).toArray below meth c H locs 0 0 (MQ below (va_Qi (fun (x : Int32) (_ : Unit) => x = r) (fun _ t => va_P D vwCl (c_ws tc ad TC g') t.heap) A) ([.ref (ad 0), .int a1, .int a2] : List Value).toArray s 0 0 A) (F0 m 73 ls []) := by
  obtain ⟨hx, hb, hr, hml, hts, hown, hlk, hK, hE⟩ := id C
  intro x1 x2 g hf H locs hP hS ls hl
  unfold fX11_plan_73 at hf
  refine lv_aload_n hx hb dX11_plan_73 rfl (lv_at hl 0 rfl) ?_
  refine c_get hx hb hts i_X11_plan_X11 hown hK hP 0 tC0 rfl 5 (by decide) (hts _ (List.mem_of_getElem? (i := 1) rfl)) (fun _ h9 => h9) rfl (v := .ref (ad 55)) rfl dX11_plan_74 ?_
  refine c_get hx hb hts i_X11_plan_X7 hown hK hP 55 tC55 rfl 14 (by decide) (hts _ (List.mem_of_getElem? (i := 2) rfl)) (fun _ h9 => h9) rfl (v := .ref (ad 70)) rfl dX11_plan_77 ?_
  refine lv_iload_n hx hb dX11_plan_80 rfl (lv_at hl 1 rfl) ?_
  refine lv_iload_n hx hb dX11_plan_81 rfl (lv_at hl 2 rfl) ?_
  refine lv_iconst (v := (0 : Int32)) hx hb dX11_plan_82 (by decide) ?_
  obtain ⟨g73002, r73003, hc73001, hf⟩ := c_b2E hf
  refine c_goi (va_runV (As := [.int x1, .int x2, .int (0 : Int32)]) (rest := []) ⟨hx, hb, hml, hown, hts⟩ (kX5_add hD hc73001) (cwV 3 hts gX11_plan_X5_add rfl rfl rfl (by decide +kernel) ⟨Nat.le_of_ble_eq_true rfl, Nat.le_of_ble_eq_true rfl⟩) (c_preV hK hP hE hS tC70 rfl) rfl rfl hl.1 rfl (lv_room (Nat.le_of_ble_eq_true rfl)) dX11_plan_83 ⟨Nat.zero_le _, Nat.zero_le _⟩) hS (fun H locs hP hS => ?_)
  exact c_iret hx hb hr hlk hP hS rfl (c_inj hf) dX11_plan_86
def fX11_plan_59  (a1 : Int32) (a2 : Int32) (x1 : Int32) (x2 : Int32) (g : c_G) : Option (c_G × Int32) :=
  if x1 ≤ (1 : Int32) then (fX11_plan_73 a1 a2 x1 x2 g) else (if (fX11_isElder x2) = 0 then (some (g, (-1 : Int32))) else (fX11_plan_73 a1 a2 x1 x2 g))
set_option maxRecDepth 100000 in
set_option maxHeartbeats 4000000 in
theorem jX11_plan_59 {p : Program} {l : Launch} {e : Env} {s : State} {m : MethodId} {below : List Frame} {meth : Method} {c : Code} {D : va_G} {tc : Nat → ClassId} {ad : Nat → Nat} {A : Nat → Prop} {E : (Nat → Nat) × (Nat → Nat) × Nat} {a1 : Int32} {a2 : Int32} {g' : c_G} {r : Int32} (C : c_C p s m meth c D tc A E RX11 wsX11_plan cX11_plan 3 (some .int) ([.ref (ad 0), .int a1, .int a2] : List Value).toArray) (hD : c_D A ad TC)  : ∀ (x1 : Int32) (x2 : Int32) (g : c_G), fX11_plan_59 a1 a2 x1 x2 g = some (g', r) → ∀ (H : Heap) (locs : List Loc), va_P D vwCl (c_ws tc ad TC g) H → va_S A s.heap H locs → ∀ ls : Array Slot, lv_has ls 3 [(0, .ref (ad 0)), (1, .int x1), (2, .int x2)] → W p l e (c_rm 1) s m ([.ref (ad 0), .int a1, .int a2] : List Value).toArray below meth c H locs 0 0 (MQ below (va_Qi (fun (x : Int32) (_ : Unit) => x = r) (fun _ t => va_P D vwCl (c_ws tc ad TC g') t.heap) A) ([.ref (ad 0), .int a1, .int a2] : List Value).toArray s 0 0 A) (F0 m 59 ls []) := by
  obtain ⟨hx, hb, hr, hml, hts, hown, hlk, hK, hE⟩ := id C
  intro x1 x2 g hf H locs hP hS ls hl
  unfold fX11_plan_59 at hf
  refine lv_iload_n hx hb dX11_plan_59 rfl (lv_at hl 1 rfl) ?_
  refine lv_iconst (v := (1 : Int32)) hx hb dX11_plan_60 (by decide) ?_
  refine lv_icmp_le (tgt := 73) hx hb dX11_plan_61 (by decide) (fun c59001 => ?_) (fun c59001 => ?_)
  · have hf := c_it c59001 hf
    exact jX11_plan_73 C hD x1 x2 g hf _ _ hP hS _ (lv_sub hl [0, 1, 2] rfl)
  · have hf := c_ie c59001 hf
    refine lv_iload_n hx hb dX11_plan_64 rfl (lv_at hl 2 rfl) ?_
    refine c_goi (va_runS (As := [.int x2]) (rest := []) ⟨hx, hb, hml, hown, hts⟩ (kX11_isElder (T := TC) (g := g) rfl) (va_cwS 1 hts gX11_plan_X11_isElder rfl rfl rfl (by decide +kernel) ⟨Nat.le_of_ble_eq_true rfl, Nat.le_of_ble_eq_true rfl⟩) (c_preS hK hP hE hS) rfl rfl hl.1 rfl (lv_room (Nat.le_of_ble_eq_true rfl)) dX11_plan_65 ⟨Nat.zero_le _, Nat.zero_le _⟩) hS (fun H locs hP hS => ?_)
    refine lv_if_ne (tgt := 73) hx hb dX11_plan_68 (by decide) (fun c59002 => ?_) (fun c59002 => ?_)
    · have hf := c_ie c59002 hf
      exact jX11_plan_73 C hD x1 x2 g hf _ _ hP hS _ (lv_sub hl [0, 1, 2] rfl)
    · have hf := c_it c59002 hf
      refine lv_iconst (v := (-1 : Int32)) hx hb dX11_plan_71 (by decide) ?_
      exact c_iret hx hb hr hlk hP hS rfl (c_inj hf) dX11_plan_72
def fX11_plan (g : c_G) (a1 : Int32) (a2 : Int32) : Option (c_G × Int32) :=
  if a1 = (-1 : Int32) then (c_b2 (fX5_clear g 70) fun g11 r12 => some (g11, r12)) else (if a1 < 0 then (some (g, (-1 : Int32))) else (if a1 ≤ (3 : Int32) then (if a1 = (1 : Int32) then (if a2 < 0 then (some (g, (-1 : Int32))) else ((fX11_isChild g ((a2 / (10 : Int32)))).bind fun r6 => if r6 = 0 then (some (g, (-1 : Int32))) else (if (fX11_isElder ((a2 - a2 / (10 : Int32) * (10 : Int32)))) = 0 then (some (g, (-1 : Int32))) else (fX11_plan_59 a1 a2 a1 a2 g)))) else (fX11_plan_59 a1 a2 a1 a2 g)) else (some (g, (-1 : Int32)))))
set_option maxRecDepth 100000 in
set_option maxHeartbeats 4000000 in
theorem kX11_plan {l : Launch} {D : va_G} {tc : Nat → ClassId} {ad : Nat → Nat} {A : Nat → Prop} {E : (Nat → Nat) × (Nat → Nat) × Nat} (hD : c_D A ad TC) {a1 : Int32} {a2 : Int32} {g g' : c_G} {r : Int32} (hf : fX11_plan g a1 a2 = some (g', r)) : c_Mi l yX11_plan wsX11_plan (c_rm 1) D tc ad A E TC ([.ref (ad 0), .int a1, .int a2] : List Value) g g' r := by
  refine c_ofW (bytes := cX11_plan) (maxL := 3) (ret := (some .int)) (by decide) rfl (Nat.le_of_ble_eq_true rfl) ?_
  intro p e s m below meth c ls C hP hS hl
  unfold fX11_plan at hf
  obtain ⟨hx, hb, hr, hml, hts, hown, hlk, hK, hE⟩ := id C
  have hl : lv_has ls 3 [(0, .ref (ad 0)), (1, .int a1), (2, .int a2)] := hl
  refine lv_iload_n hx hb dX11_plan_0 rfl (lv_at hl 1 rfl) ?_
  refine lv_iconst (v := (-1 : Int32)) hx hb dX11_plan_1 (by decide) ?_
  refine lv_icmp_ne (tgt := 16) hx hb dX11_plan_2 (by decide) (fun c1 => ?_) (fun c1 => ?_)
  · have hf := c_ie c1 hf
    refine lv_iload_n hx hb dX11_plan_16 rfl (lv_at hl 1 rfl) ?_
    refine lv_if_lt (tgt := 25) hx hb dX11_plan_17 (by decide) (fun c2 => ?_) (fun c2 => ?_)
    · have hf := c_it c2 hf
      refine lv_iconst (v := (-1 : Int32)) hx hb dX11_plan_25 (by decide) ?_
      exact c_iret hx hb hr hlk hP hS rfl (c_inj hf) dX11_plan_26
    · have hf := c_ie c2 hf
      refine lv_iload_n hx hb dX11_plan_20 rfl (lv_at hl 1 rfl) ?_
      refine lv_iconst (v := (3 : Int32)) hx hb dX11_plan_21 (by decide) ?_
      refine lv_icmp_le (tgt := 27) hx hb dX11_plan_22 (by decide) (fun c3 => ?_) (fun c3 => ?_)
      · have hf := c_it c3 hf
        refine lv_iload_n hx hb dX11_plan_27 rfl (lv_at hl 1 rfl) ?_
        refine lv_iconst (v := (1 : Int32)) hx hb dX11_plan_28 (by decide) ?_
        refine lv_icmp_ne (tgt := 59) hx hb dX11_plan_29 (by decide) (fun c4 => ?_) (fun c4 => ?_)
        · have hf := c_ie c4 hf
          exact jX11_plan_59 C hD a1 a2 g hf _ _ hP hS _ (lv_sub hl [0, 1, 2] rfl)
        · have hf := c_it c4 hf
          refine lv_iload_n hx hb dX11_plan_32 rfl (lv_at hl 2 rfl) ?_
          refine lv_if_lt (tgt := 57) hx hb dX11_plan_33 (by decide) (fun c5 => ?_) (fun c5 => ?_)
          · have hf := c_it c5 hf
            refine lv_iconst (v := (-1 : Int32)) hx hb dX11_plan_57 (by decide) ?_
            exact c_iret hx hb hr hlk hP hS rfl (c_inj hf) dX11_plan_58
          · have hf := c_ie c5 hf
            refine lv_aload_n hx hb dX11_plan_36 rfl (lv_at hl 0 rfl) ?_
            refine lv_iload_n hx hb dX11_plan_37 rfl (lv_at hl 2 rfl) ?_
            refine lv_bipush (v := (10 : Int32)) hx hb dX11_plan_38 (by decide) ?_
            refine lv_idiv hx hb dX11_plan_40 (by decide) ?_
            obtain ⟨r6, hc7, hf⟩ := c_bd hf
            refine c_goi (va_runV (As := [.int (a2 / (10 : Int32))]) (rest := []) ⟨hx, hb, hml, hown, hts⟩ (kX11_isChild hD hc7) (cwV 1 hts gX11_plan_X11_isChild rfl rfl rfl (by decide +kernel) ⟨Nat.le_of_ble_eq_true rfl, Nat.le_of_ble_eq_true rfl⟩) (c_preV hK hP hE hS tC0 rfl) rfl rfl hl.1 rfl (lv_room (Nat.le_of_ble_eq_true rfl)) dX11_plan_41 ⟨Nat.zero_le _, Nat.zero_le _⟩) hS (fun H locs hP hS => ?_)
            refine lv_if_eq (tgt := 57) hx hb dX11_plan_44 (by decide) (fun c8 => ?_) (fun c8 => ?_)
            · have hf := c_it c8 hf
              refine lv_iconst (v := (-1 : Int32)) hx hb dX11_plan_57 (by decide) ?_
              exact c_iret hx hb hr hlk hP hS rfl (c_inj hf) dX11_plan_58
            · have hf := c_ie c8 hf
              refine lv_iload_n hx hb dX11_plan_47 rfl (lv_at hl 2 rfl) ?_
              refine lv_bipush (v := (10 : Int32)) hx hb dX11_plan_48 (by decide) ?_
              refine lv_irem hx hb dX11_plan_50 (by decide) ?_
              refine c_goi (va_runS (As := [.int (a2 - a2 / (10 : Int32) * (10 : Int32))]) (rest := []) ⟨hx, hb, hml, hown, hts⟩ (kX11_isElder (T := TC) (g := g) rfl) (va_cwS 1 hts gX11_plan_X11_isElder rfl rfl rfl (by decide +kernel) ⟨Nat.le_of_ble_eq_true rfl, Nat.le_of_ble_eq_true rfl⟩) (c_preS hK hP hE hS) rfl rfl hl.1 rfl (lv_room (Nat.le_of_ble_eq_true rfl)) dX11_plan_51 ⟨Nat.zero_le _, Nat.zero_le _⟩) hS (fun H locs hP hS => ?_)
              refine lv_if_ne (tgt := 59) hx hb dX11_plan_54 (by decide) (fun c9 => ?_) (fun c9 => ?_)
              · have hf := c_ie c9 hf
                exact jX11_plan_59 C hD a1 a2 g hf _ _ hP hS _ (lv_sub hl [0, 1, 2] rfl)
              · have hf := c_it c9 hf
                refine lv_iconst (v := (-1 : Int32)) hx hb dX11_plan_57 (by decide) ?_
                exact c_iret hx hb hr hlk hP hS rfl (c_inj hf) dX11_plan_58
      · have hf := c_ie c3 hf
        refine lv_iconst (v := (-1 : Int32)) hx hb dX11_plan_25 (by decide) ?_
        exact c_iret hx hb hr hlk hP hS rfl (c_inj hf) dX11_plan_26
  · have hf := c_it c1 hf
    refine lv_aload_n hx hb dX11_plan_5 rfl (lv_at hl 0 rfl) ?_
    refine c_get hx hb hts i_X11_plan_X11 hown hK hP 0 tC0 rfl 5 (by decide) (hts _ (List.mem_of_getElem? (i := 1) rfl)) (fun _ h9 => h9) rfl (v := .ref (ad 55)) rfl dX11_plan_6 ?_
    refine c_get hx hb hts i_X11_plan_X7 hown hK hP 55 tC55 rfl 14 (by decide) (hts _ (List.mem_of_getElem? (i := 2) rfl)) (fun _ h9 => h9) rfl (v := .ref (ad 70)) rfl dX11_plan_9 ?_
    obtain ⟨g11, r12, hc10, hf⟩ := c_b2E hf
    refine c_goi (va_runV (As := []) (rest := []) ⟨hx, hb, hml, hown, hts⟩ (kX5_clear hD hc10) (cwV 0 hts gX11_plan_X5_clear rfl rfl rfl (by decide +kernel) ⟨Nat.le_of_ble_eq_true rfl, Nat.le_of_ble_eq_true rfl⟩) (c_preV hK hP hE hS tC70 rfl) rfl rfl hl.1 rfl (lv_room (Nat.le_of_ble_eq_true rfl)) dX11_plan_12 ⟨Nat.zero_le _, Nat.zero_le _⟩) hS (fun H locs hP hS => ?_)
    exact c_iret hx hb hr hlk hP hS rfl (c_inj hf) dX11_plan_15
theorem i_X11_ends_X5 : ∀ w ∈ u_ws RX5 TX5 4, w ∈ wsX11_ends := c_inP [189, 190, 191, 192] (by decide +kernel)
theorem i_X11_ends_X7 : ∀ w ∈ u_ws RX7 TX7 17, w ∈ wsX11_ends := c_inP [172, 173, 174, 175, 176, 177, 178, 179, 180, 181, 182, 183, 184, 185, 186, 187, 188] (by decide +kernel)
theorem i_X11_ends_X11 : ∀ w ∈ u_ws RX11 TX11 19, w ∈ wsX11_ends := c_inP [153, 154, 155, 156, 157, 158, 159, 160, 161, 162, 163, 164, 165, 166, 167, 168, 169, 170, 171] (by decide +kernel)
theorem dX11_ends_0 : decode cX11_ends 0 = .ok (.iload_n 1, 1) := by decide +kernel
theorem dX11_ends_1 : decode cX11_ends 1 = .ok (.ifCond .lt 8, 3) := by decide +kernel
theorem dX11_ends_4 : decode cX11_ends 4 = .ok (.iload_n 1, 1) := by decide +kernel
theorem dX11_ends_5 : decode cX11_ends 5 = .ok (.iconst 1, 1) := by decide +kernel
theorem dX11_ends_6 : decode cX11_ends 6 = .ok (.if_icmp .le 5, 3) := by decide +kernel
theorem dX11_ends_9 : decode cX11_ends 9 = .ok (.iconst (-1), 1) := by decide +kernel
theorem dX11_ends_10 : decode cX11_ends 10 = .ok (.ireturn, 1) := by decide +kernel
theorem dX11_ends_11 : decode cX11_ends 11 = .ok (.aload_n 0, 1) := by decide +kernel
theorem dX11_ends_12 : decode cX11_ends 12 = .ok (.getfield 93, 3) := by decide +kernel
theorem dX11_ends_15 : decode cX11_ends 15 = .ok (.aload_n 0, 1) := by decide +kernel
theorem dX11_ends_16 : decode cX11_ends 16 = .ok (.getfield 86, 3) := by decide +kernel
theorem dX11_ends_19 : decode cX11_ends 19 = .ok (.invokevirtual 223, 3) := by decide +kernel
theorem dX11_ends_22 : decode cX11_ends 22 = .ok (.iconst 0, 1) := by decide +kernel
theorem dX11_ends_23 : decode cX11_ends 23 = .ok (.istore_n 2, 1) := by decide +kernel
theorem dX11_ends_24 : decode cX11_ends 24 = .ok (.iload_n 2, 1) := by decide +kernel
theorem dX11_ends_25 : decode cX11_ends 25 = .ok (.aload_n 0, 1) := by decide +kernel
theorem dX11_ends_26 : decode cX11_ends 26 = .ok (.getfield 86, 3) := by decide +kernel
theorem dX11_ends_29 : decode cX11_ends 29 = .ok (.getfield 263, 3) := by decide +kernel
theorem dX11_ends_32 : decode cX11_ends 32 = .ok (.getfield 266, 3) := by decide +kernel
theorem dX11_ends_35 : decode cX11_ends 35 = .ok (.if_icmp .ge 114, 3) := by decide +kernel
theorem dX11_ends_38 : decode cX11_ends 38 = .ok (.aload_n 0, 1) := by decide +kernel
theorem dX11_ends_39 : decode cX11_ends 39 = .ok (.getfield 86, 3) := by decide +kernel
theorem dX11_ends_42 : decode cX11_ends 42 = .ok (.getfield 263, 3) := by decide +kernel
theorem dX11_ends_45 : decode cX11_ends 45 = .ok (.getfield 269, 3) := by decide +kernel
theorem dX11_ends_48 : decode cX11_ends 48 = .ok (.iload_n 2, 1) := by decide +kernel
theorem dX11_ends_49 : decode cX11_ends 49 = .ok (.iaload, 1) := by decide +kernel
theorem dX11_ends_50 : decode cX11_ends 50 = .ok (.istore_n 3, 1) := by decide +kernel
theorem dX11_ends_51 : decode cX11_ends 51 = .ok (.aload_n 0, 1) := by decide +kernel
theorem dX11_ends_52 : decode cX11_ends 52 = .ok (.getfield 86, 3) := by decide +kernel
theorem dX11_ends_55 : decode cX11_ends 55 = .ok (.getfield 263, 3) := by decide +kernel
theorem dX11_ends_58 : decode cX11_ends 58 = .ok (.getfield 272, 3) := by decide +kernel
theorem dX11_ends_61 : decode cX11_ends 61 = .ok (.iload_n 2, 1) := by decide +kernel
theorem dX11_ends_62 : decode cX11_ends 62 = .ok (.iaload, 1) := by decide +kernel
theorem dX11_ends_63 : decode cX11_ends 63 = .ok (.tableswitch 70 0 2 #[25, 39, 59], 25) := by decide +kernel
theorem dX11_ends_88 : decode cX11_ends 88 = .ok (.aload_n 0, 1) := by decide +kernel
theorem dX11_ends_89 : decode cX11_ends 89 = .ok (.aload_n 0, 1) := by decide +kernel
theorem dX11_ends_90 : decode cX11_ends 90 = .ok (.getfield 93, 3) := by decide +kernel
theorem dX11_ends_93 : decode cX11_ends 93 = .ok (.iconst 1, 1) := by decide +kernel
theorem dX11_ends_94 : decode cX11_ends 94 = .ok (.ldc 227, 2) := by decide +kernel
theorem dX11_ends_96 : decode cX11_ends 96 = .ok (.invokevirtual 219, 3) := by decide +kernel
theorem dX11_ends_99 : decode cX11_ends 99 = .ok (.goto 44, 3) := by decide +kernel
theorem dX11_ends_102 : decode cX11_ends 102 = .ok (.aload_n 0, 1) := by decide +kernel
theorem dX11_ends_103 : decode cX11_ends 103 = .ok (.aload_n 0, 1) := by decide +kernel
theorem dX11_ends_104 : decode cX11_ends 104 = .ok (.getfield 93, 3) := by decide +kernel
theorem dX11_ends_107 : decode cX11_ends 107 = .ok (.iload_n 3, 1) := by decide +kernel
theorem dX11_ends_108 : decode cX11_ends 108 = .ok (.bipush 10, 2) := by decide +kernel
theorem dX11_ends_110 : decode cX11_ends 110 = .ok (.idiv, 1) := by decide +kernel
theorem dX11_ends_111 : decode cX11_ends 111 = .ok (.iload_n 3, 1) := by decide +kernel
theorem dX11_ends_112 : decode cX11_ends 112 = .ok (.bipush 10, 2) := by decide +kernel
theorem dX11_ends_114 : decode cX11_ends 114 = .ok (.irem, 1) := by decide +kernel
theorem dX11_ends_115 : decode cX11_ends 115 = .ok (.invokevirtual 169, 3) := by decide +kernel
theorem dX11_ends_118 : decode cX11_ends 118 = .ok (.pop, 1) := by decide +kernel
theorem dX11_ends_119 : decode cX11_ends 119 = .ok (.goto 24, 3) := by decide +kernel
theorem dX11_ends_122 : decode cX11_ends 122 = .ok (.aload_n 0, 1) := by decide +kernel
theorem dX11_ends_123 : decode cX11_ends 123 = .ok (.getfield 93, 3) := by decide +kernel
theorem dX11_ends_126 : decode cX11_ends 126 = .ok (.iload_n 3, 1) := by decide +kernel
theorem dX11_ends_127 : decode cX11_ends 127 = .ok (.invokevirtual 173, 3) := by decide +kernel
theorem dX11_ends_130 : decode cX11_ends 130 = .ok (.goto 13, 3) := by decide +kernel
theorem dX11_ends_133 : decode cX11_ends 133 = .ok (.aload_n 0, 1) := by decide +kernel
theorem dX11_ends_134 : decode cX11_ends 134 = .ok (.getfield 93, 3) := by decide +kernel
theorem dX11_ends_137 : decode cX11_ends 137 = .ok (.getfield 155, 3) := by decide +kernel
theorem dX11_ends_140 : decode cX11_ends 140 = .ok (.iload_n 3, 1) := by decide +kernel
theorem dX11_ends_141 : decode cX11_ends 141 = .ok (.iconst 1, 1) := by decide +kernel
theorem dX11_ends_142 : decode cX11_ends 142 = .ok (.iastore, 1) := by decide +kernel
theorem dX11_ends_143 : decode cX11_ends 143 = .ok (.iinc 2 1, 3) := by decide +kernel
theorem dX11_ends_146 : decode cX11_ends 146 = .ok (.goto (-122), 3) := by decide +kernel
theorem dX11_ends_149 : decode cX11_ends 149 = .ok (.iload_n 1, 1) := by decide +kernel
theorem dX11_ends_150 : decode cX11_ends 150 = .ok (.ifCond .ne 13, 3) := by decide +kernel
theorem dX11_ends_153 : decode cX11_ends 153 = .ok (.aload_n 0, 1) := by decide +kernel
theorem dX11_ends_154 : decode cX11_ends 154 = .ok (.getfield 93, 3) := by decide +kernel
theorem dX11_ends_157 : decode cX11_ends 157 = .ok (.invokevirtual 207, 3) := by decide +kernel
theorem dX11_ends_160 : decode cX11_ends 160 = .ok (.goto 10, 3) := by decide +kernel
theorem dX11_ends_163 : decode cX11_ends 163 = .ok (.aload_n 0, 1) := by decide +kernel
theorem dX11_ends_164 : decode cX11_ends 164 = .ok (.getfield 93, 3) := by decide +kernel
theorem dX11_ends_167 : decode cX11_ends 167 = .ok (.invokevirtual 203, 3) := by decide +kernel
theorem dX11_ends_170 : decode cX11_ends 170 = .ok (.ireturn, 1) := by decide +kernel
set_option maxRecDepth 20000 in
theorem ggX11_ends_X7_copyFrom : GoodIn wsX11_ends wsX7_copyFrom := goodIn_r _ [13, 14, 15, 16, 17, 18, 19, 20, 21, 22, 23, 24, 25, 26, 27, 28, 29, 30, 31, 32, 33, 34, 35, 36, 37, 38, 39, 40, 41, 42, 43, 44, 172, 173, 174, 175, 176, 177, 178, 179, 180, 181, 182, 183, 184, 185, 186, 187, 188, 189, 190, 191, 192] (by decide +kernel) (by decide +kernel)
set_option maxRecDepth 20000 in
theorem gX11_ends_X7_copyFrom : GoodIn wsX11_ends (wsV RX11 223 RX7 yX7_copyFrom wsX7_copyFrom) := goodIn_app (goodIn_of _ (by decide +kernel)) ggX11_ends_X7_copyFrom
set_option maxRecDepth 20000 in
theorem ggX11_ends_X11_letGo : GoodIn wsX11_ends wsX11_letGo := goodIn_r _ [49, 50, 51, 52, 53, 54, 48, 55, 56, 57, 58, 59, 60, 61, 62, 63, 64, 65, 66, 67, 12, 68, 19, 21, 69, 70, 71, 72, 73, 74, 75, 76, 77, 78, 79, 80, 81, 82, 83, 84, 85, 86, 87, 88, 89, 90, 91, 92, 93, 94, 95, 96, 97, 98, 99, 100, 101, 102, 103, 104, 105, 106, 107, 108, 109, 110, 111, 112, 113, 114, 115, 116, 117, 118, 119, 120, 121, 122, 123, 124, 125, 126, 127, 128, 129, 130, 131, 132, 133, 134, 135, 136, 22, 137, 138, 139, 140, 141, 142, 143, 34, 144, 24, 28, 27, 23, 172, 173, 174, 175, 176, 177, 178, 179, 180, 181, 182, 183, 184, 185, 186, 187, 188, 153, 154, 155, 156, 157, 158, 159, 160, 161, 162, 163, 164, 165, 166, 167, 168, 169, 170, 171, 193, 194, 195, 196, 197, 198, 199, 200] (by decide +kernel) (by decide +kernel)
set_option maxRecDepth 20000 in
theorem gX11_ends_X11_letGo : GoodIn wsX11_ends (wsV RX11 219 RX11 yX11_letGo wsX11_letGo) := goodIn_app (goodIn_of _ (by decide +kernel)) ggX11_ends_X11_letGo
set_option maxRecDepth 20000 in
theorem ggX11_ends_X11_takeTo : GoodIn wsX11_ends wsX11_takeTo := goodIn_r _ [55, 56, 57, 58, 59, 60, 61, 62, 48, 63, 64, 65, 66, 67, 12, 68, 19, 21, 69, 70, 71, 72, 73, 74, 75, 76, 77, 78, 79, 80, 81, 82, 83, 84, 85, 86, 87, 88, 89, 90, 91, 92, 93, 94, 95, 96, 97, 98, 99, 100, 101, 102, 103, 104, 105, 106, 107, 108, 109, 110, 111, 112, 113, 114, 115, 116, 117, 118, 119, 120, 121, 122, 123, 124, 125, 126, 127, 128, 129, 130, 131, 132, 133, 134, 135, 136, 22, 137, 138, 139, 172, 173, 174, 175, 176, 177, 178, 179, 180, 181, 182, 183, 184, 185, 186, 187, 188, 153, 154, 155, 156, 157, 158, 159, 160, 161, 162, 163, 164, 165, 166, 167, 168, 169, 170, 171, 193, 194, 195, 196, 197, 198, 199, 200] (by decide +kernel) (by decide +kernel)
set_option maxRecDepth 20000 in
theorem gX11_ends_X11_takeTo : GoodIn wsX11_ends (wsV RX11 169 RX11 yX11_takeTo wsX11_takeTo) := goodIn_app (goodIn_of _ (by decide +kernel)) ggX11_ends_X11_takeTo
set_option maxRecDepth 20000 in
theorem ggX11_ends_X7_unname : GoodIn wsX11_ends wsX7_unname := goodIn_r _ [148, 19, 20, 172, 173, 174, 175, 176, 177, 178, 179, 180, 181, 182, 183, 184, 185, 186, 187, 188] (by decide +kernel) (by decide +kernel)
set_option maxRecDepth 20000 in
theorem gX11_ends_X7_unname : GoodIn wsX11_ends (wsV RX11 173 RX7 yX7_unname wsX7_unname) := goodIn_app (goodIn_of _ (by decide +kernel)) ggX11_ends_X7_unname
set_option maxRecDepth 20000 in
theorem ggX11_ends_X7_named : GoodIn wsX11_ends wsX7_named := goodIn_r _ [152, 19, 172, 173, 174, 175, 176, 177, 178, 179, 180, 181, 182, 183, 184, 185, 186, 187, 188] (by decide +kernel) (by decide +kernel)
set_option maxRecDepth 20000 in
theorem gX11_ends_X7_named : GoodIn wsX11_ends (wsV RX11 207 RX7 yX7_named wsX7_named) := goodIn_app (goodIn_of _ (by decide +kernel)) ggX11_ends_X7_named
set_option maxRecDepth 20000 in
theorem ggX11_ends_X7_used : GoodIn wsX11_ends wsX7_used := goodIn_r _ [136, 22, 19, 172, 173, 174, 175, 176, 177, 178, 179, 180, 181, 182, 183, 184, 185, 186, 187, 188] (by decide +kernel) (by decide +kernel)
set_option maxRecDepth 20000 in
theorem gX11_ends_X7_used : GoodIn wsX11_ends (wsV RX11 203 RX7 yX7_used wsX7_used) := goodIn_app (goodIn_of _ (by decide +kernel)) ggX11_ends_X7_used
def fX11_ends_143 (rec24 : Int32 → Int32 → c_G → Option (c_G × Int32)) (a1 : Int32) (x1 : Int32) (x2 : Int32) (g : c_G) : Option (c_G × Int32) :=
  c_let (x2 + (1 : Int32)) fun v143001 => rec24 x1 v143001 g
set_option maxRecDepth 100000 in
set_option maxHeartbeats 4000000 in
theorem jX11_ends_143 {p : Program} {l : Launch} {e : Env} {s : State} {m : MethodId} {below : List Frame} {meth : Method} {c : Code} {D : va_G} {tc : Nat → ClassId} {ad : Nat → Nat} {A : Nat → Prop} {E : (Nat → Nat) × (Nat → Nat) × Nat} {a1 : Int32} {g' : c_G} {r : Int32} (C : c_C p s m meth c D tc A E RX11 wsX11_ends cX11_ends 4 (some .int) ([.ref (ad 0), .int a1] : List Value).toArray) (hD : c_D A ad TC) {rec24 : Int32 → Int32 → c_G → Option (c_G × Int32)} (hrec24 : ∀ (x1 : Int32) (x2 : Int32) (g : c_G), rec24 x1 x2 g = some (g', r) → ∀ (H : Heap) (locs : List Loc), va_P D vwCl (c_ws tc ad TC g) H → va_S A s.heap H locs → ∀ ls : Array Slot, lv_has ls 4 [(0, .ref (ad 0)), (1, .int x1), (2, .int x2)] → W p l e (c_rm 6) s m ([.ref (ad 0), .int a1] : List Value).toArray below meth c H locs 0 0 (MQ below (va_Qi (fun (x : Int32) (_ : Unit) => x = r) (fun _ t => va_P D vwCl (c_ws tc ad TC g') t.heap) A) ([.ref (ad 0), .int a1] : List Value).toArray s 0 0 A) (F0 m 24 ls [])) : ∀ (x1 : Int32) (x2 : Int32) (g : c_G), fX11_ends_143 rec24 a1 x1 x2 g = some (g', r) → ∀ (H : Heap) (locs : List Loc), va_P D vwCl (c_ws tc ad TC g) H → va_S A s.heap H locs → ∀ ls : Array Slot, lv_has ls 4 [(0, .ref (ad 0)), (1, .int x1), (2, .int x2)] → W p l e (c_rm 6) s m ([.ref (ad 0), .int a1] : List Value).toArray below meth c H locs 0 0 (MQ below (va_Qi (fun (x : Int32) (_ : Unit) => x = r) (fun _ t => va_P D vwCl (c_ws tc ad TC g') t.heap) A) ([.ref (ad 0), .int a1] : List Value).toArray s 0 0 A) (F0 m 143 ls []) := by
  obtain ⟨hx, hb, hr, hml, hts, hown, hlk, hK, hE⟩ := id C
  intro x1 x2 g hf H locs hP hS ls hl
  unfold fX11_ends_143 at hf
  obtain ⟨v143001, ev143001, hf⟩ := c_letE hf
  refine lv_iinc (v := v143001) (lv' := [(2, .int v143001), (0, .ref (ad 0)), (1, .int x1)]) hx hb dX11_ends_143 hl (k := 2) rfl (by rw [ev143001]; rfl) (by decide) rfl (fun ls hl => ?_)
  refine lv_goto (tgt := 24) hx hb dX11_ends_146 (by decide) ?_
  exact hrec24 x1 v143001 g hf _ _ hP hS _ (lv_sub hl [1, 2, 0] rfl)
def fX11_ends_24  (a1 : Int32) : Nat → Int32 → Int32 → c_G → Option (c_G × Int32)
  | 0, _, _, _ => none
  | n + 1, x1, x2, g => if (g.1 70 3) ≤ x2 then (if x1 = 0 then ((fX7_named g 101).bind fun r24005 => some (g, r24005)) else ((fX7_used g 101).bind fun r24003 => some (g, r24003))) else (if c_in (x2) (10) = true then if (g.1 71 (x2).toNatClampNeg) = (0 : Int32) then ((fX11_letGo g 101 ((1 : Int32)) ((1000000 : Int32))).bind fun g24010 => fX11_ends_143 (fX11_ends_24 a1 n) a1 x1 x2 g24010) else if (g.1 71 (x2).toNatClampNeg) = (1 : Int32) then (c_b2 (fX11_takeTo g 101 (((g.1 72 (x2).toNatClampNeg) / (10 : Int32))) (((g.1 72 (x2).toNatClampNeg) - (g.1 72 (x2).toNatClampNeg) / (10 : Int32) * (10 : Int32)))) fun g24013 r24014 => fX11_ends_143 (fX11_ends_24 a1 n) a1 x1 x2 g24013) else if (g.1 71 (x2).toNatClampNeg) = (2 : Int32) then ((fX7_unname g 101 ((g.1 72 (x2).toNatClampNeg))).bind fun g24017 => fX11_ends_143 (fX11_ends_24 a1 n) a1 x1 x2 g24017) else (if c_in ((g.1 72 (x2).toNatClampNeg)) (6) = true then c_let (c_si g 105 ((g.1 72 (x2).toNatClampNeg)).toNatClampNeg (1 : Int32)) fun g24019 => fX11_ends_143 (fX11_ends_24 a1 n) a1 x1 x2 g24019 else none) else none)
set_option maxRecDepth 100000 in
set_option maxHeartbeats 4000000 in
theorem jX11_ends_24 {p : Program} {l : Launch} {e : Env} {s : State} {m : MethodId} {below : List Frame} {meth : Method} {c : Code} {D : va_G} {tc : Nat → ClassId} {ad : Nat → Nat} {A : Nat → Prop} {E : (Nat → Nat) × (Nat → Nat) × Nat} {a1 : Int32} {g' : c_G} {r : Int32} (C : c_C p s m meth c D tc A E RX11 wsX11_ends cX11_ends 4 (some .int) ([.ref (ad 0), .int a1] : List Value).toArray) (hD : c_D A ad TC)  : ∀ (n : Nat) (x1 : Int32) (x2 : Int32) (g : c_G), fX11_ends_24 a1 n x1 x2 g = some (g', r) → ∀ (H : Heap) (locs : List Loc), va_P D vwCl (c_ws tc ad TC g) H → va_S A s.heap H locs → ∀ ls : Array Slot, lv_has ls 4 [(0, .ref (ad 0)), (1, .int x1), (2, .int x2)] → W p l e (c_rm 6) s m ([.ref (ad 0), .int a1] : List Value).toArray below meth c H locs 0 0 (MQ below (va_Qi (fun (x : Int32) (_ : Unit) => x = r) (fun _ t => va_P D vwCl (c_ws tc ad TC g') t.heap) A) ([.ref (ad 0), .int a1] : List Value).toArray s 0 0 A) (F0 m 24 ls []) := by
  obtain ⟨hx, hb, hr, hml, hts, hown, hlk, hK, hE⟩ := id C
  intro n
  induction n with
  | zero =>
    intro x1 x2 g hf
    cases hf
  | succ n ih =>
    intro x1 x2 g hf H locs hP hS ls hl
    unfold fX11_ends_24 at hf
    refine lv_iload_n hx hb dX11_ends_24 rfl (lv_at hl 2 rfl) ?_
    refine lv_aload_n hx hb dX11_ends_25 rfl (lv_at hl 0 rfl) ?_
    refine c_get hx hb hts i_X11_ends_X11 hown hK hP 0 tC0 rfl 5 (by decide) (hts _ (List.mem_of_getElem? (i := 2) rfl)) (fun _ h9 => h9) rfl (v := .ref (ad 55)) rfl dX11_ends_26 ?_
    refine c_get hx hb hts i_X11_ends_X7 hown hK hP 55 tC55 rfl 14 (by decide) (hts _ (List.mem_of_getElem? (i := 3) rfl)) (fun _ h9 => h9) rfl (v := .ref (ad 70)) rfl dX11_ends_29 ?_
    refine c_get hx hb hts i_X11_ends_X5 hown hK hP 70 tC70 rfl 3 (by decide) (hts _ (List.mem_of_getElem? (i := 4) rfl)) (fun _ h9 => h9) rfl (v := .int (g.1 70 3)) rfl dX11_ends_32 ?_
    refine lv_icmp_ge (tgt := 149) hx hb dX11_ends_35 (by decide) (fun c24001 => ?_) (fun c24001 => ?_)
    · have hf := c_it c24001 hf
      refine lv_iload_n hx hb dX11_ends_149 rfl (lv_at hl 1 rfl) ?_
      refine lv_if_ne (tgt := 163) hx hb dX11_ends_150 (by decide) (fun c24002 => ?_) (fun c24002 => ?_)
      · have hf := c_ie c24002 hf
        refine lv_aload_n hx hb dX11_ends_163 rfl (lv_at hl 0 rfl) ?_
        refine c_get hx hb hts i_X11_ends_X11 hown hK hP 0 tC0 rfl 7 (by decide) (hts _ (List.mem_of_getElem? (i := 1) rfl)) (fun _ h9 => h9) rfl (v := .ref (ad 101)) rfl dX11_ends_164 ?_
        obtain ⟨r24003, hc24004, hf⟩ := c_bd hf
        refine c_goi (va_runV (As := []) (rest := []) ⟨hx, hb, hml, hown, hts⟩ (kX7_used hD hc24004) (cwV 0 hts gX11_ends_X7_used rfl rfl rfl (by decide +kernel) ⟨Nat.le_of_ble_eq_true rfl, Nat.le_of_ble_eq_true rfl⟩) (c_preV hK hP hE hS tC101 rfl) rfl rfl hl.1 rfl (lv_room (Nat.le_of_ble_eq_true rfl)) dX11_ends_167 ⟨Nat.zero_le _, Nat.zero_le _⟩) hS (fun H locs hP hS => ?_)
        exact c_iret hx hb hr hlk hP hS rfl (c_inj hf) dX11_ends_170
      · have hf := c_it c24002 hf
        refine lv_aload_n hx hb dX11_ends_153 rfl (lv_at hl 0 rfl) ?_
        refine c_get hx hb hts i_X11_ends_X11 hown hK hP 0 tC0 rfl 7 (by decide) (hts _ (List.mem_of_getElem? (i := 1) rfl)) (fun _ h9 => h9) rfl (v := .ref (ad 101)) rfl dX11_ends_154 ?_
        obtain ⟨r24005, hc24006, hf⟩ := c_bd hf
        refine c_goi (va_runV (As := []) (rest := []) ⟨hx, hb, hml, hown, hts⟩ (kX7_named hD hc24006) (cwV 0 hts gX11_ends_X7_named rfl rfl rfl (by decide +kernel) ⟨Nat.le_of_ble_eq_true rfl, Nat.le_of_ble_eq_true rfl⟩) (c_preV hK hP hE hS tC101 rfl) rfl rfl hl.1 rfl (lv_room (Nat.le_of_ble_eq_true rfl)) dX11_ends_157 ⟨Nat.zero_le _, Nat.zero_le _⟩) hS (fun H locs hP hS => ?_)
        refine lv_goto (tgt := 170) hx hb dX11_ends_160 (by decide) ?_
        exact c_iret hx hb hr hlk hP hS rfl (c_inj hf) dX11_ends_170
    · have hf := c_ie c24001 hf
      refine lv_aload_n hx hb dX11_ends_38 rfl (lv_at hl 0 rfl) ?_
      refine c_get hx hb hts i_X11_ends_X11 hown hK hP 0 tC0 rfl 5 (by decide) (hts _ (List.mem_of_getElem? (i := 2) rfl)) (fun _ h9 => h9) rfl (v := .ref (ad 55)) rfl dX11_ends_39 ?_
      refine c_get hx hb hts i_X11_ends_X7 hown hK hP 55 tC55 rfl 14 (by decide) (hts _ (List.mem_of_getElem? (i := 3) rfl)) (fun _ h9 => h9) rfl (v := .ref (ad 70)) rfl dX11_ends_42 ?_
      refine c_get hx hb hts i_X11_ends_X5 hown hK hP 70 tC70 rfl 1 (by decide) (hts _ (List.mem_of_getElem? (i := 5) rfl)) (fun _ h9 => h9) rfl (v := .ref (ad 72)) rfl dX11_ends_45 ?_
      refine lv_iload_n hx hb dX11_ends_48 rfl (lv_at hl 2 rfl) ?_
      obtain ⟨hi24007, hf⟩ := c_gd hf
      refine c_iald (j := (x2).toNatClampNeg) hx hb hK hP 72 tC72 rfl (c_inV hi24007) dX11_ends_49 ?_
      refine lv_istore_n (lv' := [(3, .int (g.1 72 (x2).toNatClampNeg)), (0, .ref (ad 0)), (1, .int x1), (2, .int x2)]) hx hb dX11_ends_50 rfl hl (by decide) rfl (fun ls hl => ?_)
      refine lv_aload_n hx hb dX11_ends_51 rfl (lv_at hl 1 rfl) ?_
      refine c_get hx hb hts i_X11_ends_X11 hown hK hP 0 tC0 rfl 5 (by decide) (hts _ (List.mem_of_getElem? (i := 2) rfl)) (fun _ h9 => h9) rfl (v := .ref (ad 55)) rfl dX11_ends_52 ?_
      refine c_get hx hb hts i_X11_ends_X7 hown hK hP 55 tC55 rfl 14 (by decide) (hts _ (List.mem_of_getElem? (i := 3) rfl)) (fun _ h9 => h9) rfl (v := .ref (ad 70)) rfl dX11_ends_55 ?_
      refine c_get hx hb hts i_X11_ends_X5 hown hK hP 70 tC70 rfl 0 (by decide) (hts _ (List.mem_of_getElem? (i := 6) rfl)) (fun _ h9 => h9) rfl (v := .ref (ad 71)) rfl dX11_ends_58 ?_
      refine lv_iload_n hx hb dX11_ends_61 rfl (lv_at hl 3 rfl) ?_
      refine c_iald (j := (x2).toNatClampNeg) hx hb hK hP 71 tC71 rfl (c_inV hi24007) dX11_ends_62 ?_
      by_cases c24008 : (g.1 71 (x2).toNatClampNeg) = (0 : Int32)
      · have hf := c_it c24008 hf
        refine lv_tableIn (off := 25) (tgt := 88) hx hb dX11_ends_63 (by rw [c24008]; decide) (by rw [c24008]; decide) (by rw [c24008]; rfl) (by decide) ?_
        refine lv_aload_n hx hb dX11_ends_88 rfl (lv_at hl 1 rfl) ?_
        refine lv_aload_n hx hb dX11_ends_89 rfl (lv_at hl 1 rfl) ?_
        refine c_get hx hb hts i_X11_ends_X11 hown hK hP 0 tC0 rfl 7 (by decide) (hts _ (List.mem_of_getElem? (i := 1) rfl)) (fun _ h9 => h9) rfl (v := .ref (ad 101)) rfl dX11_ends_90 ?_
        refine lv_iconst (v := (1 : Int32)) hx hb dX11_ends_93 (by decide) ?_
        refine lv_ldc hx hb hown (v := (1000000 : Int32)) (hts _ (List.mem_of_getElem? (i := 7) rfl)) dX11_ends_94 ?_
        obtain ⟨g24010, hc24009, hf⟩ := c_bd hf
        refine c_gov (va_runV (As := [.ref (ad 101), .int (1 : Int32), .int (1000000 : Int32)]) (rest := []) ⟨hx, hb, hml, hown, hts⟩ (kX11_letGo hD hc24009) (cwV 3 hts gX11_ends_X11_letGo rfl rfl rfl (by decide +kernel) ⟨Nat.le_of_ble_eq_true rfl, Nat.le_of_ble_eq_true rfl⟩) (c_preV hK hP hE hS tC0 rfl) rfl rfl hl.1 rfl (lv_room (Nat.le_of_ble_eq_true rfl)) dX11_ends_96 ⟨Nat.zero_le _, Nat.zero_le _⟩) hS (fun H locs hP hS => ?_)
        refine lv_goto (tgt := 143) hx hb dX11_ends_99 (by decide) ?_
        exact jX11_ends_143 C hD ih x1 x2 g24010 hf _ _ hP hS _ (lv_sub hl [1, 2, 3] rfl)
      have hf := c_ie c24008 hf
      by_cases c24011 : (g.1 71 (x2).toNatClampNeg) = (1 : Int32)
      · have hf := c_it c24011 hf
        refine lv_tableIn (off := 39) (tgt := 102) hx hb dX11_ends_63 (by rw [c24011]; decide) (by rw [c24011]; decide) (by rw [c24011]; rfl) (by decide) ?_
        refine lv_aload_n hx hb dX11_ends_102 rfl (lv_at hl 1 rfl) ?_
        refine lv_aload_n hx hb dX11_ends_103 rfl (lv_at hl 1 rfl) ?_
        refine c_get hx hb hts i_X11_ends_X11 hown hK hP 0 tC0 rfl 7 (by decide) (hts _ (List.mem_of_getElem? (i := 1) rfl)) (fun _ h9 => h9) rfl (v := .ref (ad 101)) rfl dX11_ends_104 ?_
        refine lv_iload_n hx hb dX11_ends_107 rfl (lv_at hl 0 rfl) ?_
        refine lv_bipush (v := (10 : Int32)) hx hb dX11_ends_108 (by decide) ?_
        refine lv_idiv hx hb dX11_ends_110 (by decide) ?_
        refine lv_iload_n hx hb dX11_ends_111 rfl (lv_at hl 0 rfl) ?_
        refine lv_bipush (v := (10 : Int32)) hx hb dX11_ends_112 (by decide) ?_
        refine lv_irem hx hb dX11_ends_114 (by decide) ?_
        obtain ⟨g24013, r24014, hc24012, hf⟩ := c_b2E hf
        refine c_goi (va_runV (As := [.ref (ad 101), .int ((g.1 72 (x2).toNatClampNeg) / (10 : Int32)), .int ((g.1 72 (x2).toNatClampNeg) - (g.1 72 (x2).toNatClampNeg) / (10 : Int32) * (10 : Int32))]) (rest := []) ⟨hx, hb, hml, hown, hts⟩ (kX11_takeTo hD hc24012) (cwV 3 hts gX11_ends_X11_takeTo rfl rfl rfl (by decide +kernel) ⟨Nat.le_of_ble_eq_true rfl, Nat.le_of_ble_eq_true rfl⟩) (c_preV hK hP hE hS tC0 rfl) rfl rfl hl.1 rfl (lv_room (Nat.le_of_ble_eq_true rfl)) dX11_ends_115 ⟨Nat.zero_le _, Nat.zero_le _⟩) hS (fun H locs hP hS => ?_)
        refine lv_pop hx hb dX11_ends_118 rfl ?_
        refine lv_goto (tgt := 143) hx hb dX11_ends_119 (by decide) ?_
        exact jX11_ends_143 C hD ih x1 x2 g24013 hf _ _ hP hS _ (lv_sub hl [1, 2, 3] rfl)
      have hf := c_ie c24011 hf
      by_cases c24015 : (g.1 71 (x2).toNatClampNeg) = (2 : Int32)
      · have hf := c_it c24015 hf
        refine lv_tableIn (off := 59) (tgt := 122) hx hb dX11_ends_63 (by rw [c24015]; decide) (by rw [c24015]; decide) (by rw [c24015]; rfl) (by decide) ?_
        refine lv_aload_n hx hb dX11_ends_122 rfl (lv_at hl 1 rfl) ?_
        refine c_get hx hb hts i_X11_ends_X11 hown hK hP 0 tC0 rfl 7 (by decide) (hts _ (List.mem_of_getElem? (i := 1) rfl)) (fun _ h9 => h9) rfl (v := .ref (ad 101)) rfl dX11_ends_123 ?_
        refine lv_iload_n hx hb dX11_ends_126 rfl (lv_at hl 0 rfl) ?_
        obtain ⟨g24017, hc24016, hf⟩ := c_bd hf
        refine c_gov (va_runV (As := [.int (g.1 72 (x2).toNatClampNeg)]) (rest := []) ⟨hx, hb, hml, hown, hts⟩ (kX7_unname hD hc24016) (cwV 1 hts gX11_ends_X7_unname rfl rfl rfl (by decide +kernel) ⟨Nat.le_of_ble_eq_true rfl, Nat.le_of_ble_eq_true rfl⟩) (c_preV hK hP hE hS tC101 rfl) rfl rfl hl.1 rfl (lv_room (Nat.le_of_ble_eq_true rfl)) dX11_ends_127 ⟨Nat.zero_le _, Nat.zero_le _⟩) hS (fun H locs hP hS => ?_)
        refine lv_goto (tgt := 143) hx hb dX11_ends_130 (by decide) ?_
        exact jX11_ends_143 C hD ih x1 x2 g24017 hf _ _ hP hS _ (lv_sub hl [1, 2, 3] rfl)
      have hf := c_ie c24015 hf
      have h9 := c_sw (x := (g.1 71 (x2).toNatClampNeg)) (lo := 0) (n := 2) (by decide) (fun k hj hk => by rcases (show k = 0 ∨ k = 1 ∨ k = 2 by omega) with rfl | rfl | rfl <;> assumption)
      refine lv_tableOut (tgt := 133) hx hb dX11_ends_63 (by omega) (by decide) ?_
      refine lv_aload_n hx hb dX11_ends_133 rfl (lv_at hl 1 rfl) ?_
      refine c_get hx hb hts i_X11_ends_X11 hown hK hP 0 tC0 rfl 7 (by decide) (hts _ (List.mem_of_getElem? (i := 1) rfl)) (fun _ h9 => h9) rfl (v := .ref (ad 101)) rfl dX11_ends_134 ?_
      refine c_get hx hb hts i_X11_ends_X7 hown hK hP 101 tC101 rfl 3 (by decide) (hts _ (List.mem_of_getElem? (i := 8) rfl)) (fun _ h9 => h9) rfl (v := .ref (ad 105)) rfl dX11_ends_137 ?_
      refine lv_iload_n hx hb dX11_ends_140 rfl (lv_at hl 0 rfl) ?_
      refine lv_iconst (v := (1 : Int32)) hx hb dX11_ends_141 (by decide) ?_
      obtain ⟨hi24018, hf⟩ := c_gd hf
      obtain ⟨g24019, eg24019, hf⟩ := c_letE hf
      refine c_iast (j := ((g.1 72 (x2).toNatClampNeg)).toNatClampNeg) hx hb hK hP hD hS 105 tC105 rfl (c_inV hi24018) eg24019 dX11_ends_142 (fun H locs hP hS => ?_)
      exact jX11_ends_143 C hD ih x1 x2 g24019 hf _ _ hP hS _ (lv_sub hl [1, 2, 3] rfl)
def fX11_ends (g : c_G) (a1 : Int32) : Option (c_G × Int32) :=
  if a1 < 0 then (some (g, (-1 : Int32))) else (if a1 ≤ (1 : Int32) then ((fX7_copyFrom g 101 55).bind fun g4 => fX11_ends_24 a1 c_F a1 ((0 : Int32)) g4) else (some (g, (-1 : Int32))))
set_option maxRecDepth 100000 in
set_option maxHeartbeats 4000000 in
theorem kX11_ends {l : Launch} {D : va_G} {tc : Nat → ClassId} {ad : Nat → Nat} {A : Nat → Prop} {E : (Nat → Nat) × (Nat → Nat) × Nat} (hD : c_D A ad TC) {a1 : Int32} {g g' : c_G} {r : Int32} (hf : fX11_ends g a1 = some (g', r)) : c_Mi l yX11_ends wsX11_ends (c_rm 6) D tc ad A E TC ([.ref (ad 0), .int a1] : List Value) g g' r := by
  refine c_ofW (bytes := cX11_ends) (maxL := 4) (ret := (some .int)) (by decide) rfl (Nat.le_of_ble_eq_true rfl) ?_
  intro p e s m below meth c ls C hP hS hl
  unfold fX11_ends at hf
  obtain ⟨hx, hb, hr, hml, hts, hown, hlk, hK, hE⟩ := id C
  have hl : lv_has ls 4 [(0, .ref (ad 0)), (1, .int a1)] := hl
  refine lv_iload_n hx hb dX11_ends_0 rfl (lv_at hl 1 rfl) ?_
  refine lv_if_lt (tgt := 9) hx hb dX11_ends_1 (by decide) (fun c1 => ?_) (fun c1 => ?_)
  · have hf := c_it c1 hf
    refine lv_iconst (v := (-1 : Int32)) hx hb dX11_ends_9 (by decide) ?_
    exact c_iret hx hb hr hlk hP hS rfl (c_inj hf) dX11_ends_10
  · have hf := c_ie c1 hf
    refine lv_iload_n hx hb dX11_ends_4 rfl (lv_at hl 1 rfl) ?_
    refine lv_iconst (v := (1 : Int32)) hx hb dX11_ends_5 (by decide) ?_
    refine lv_icmp_le (tgt := 11) hx hb dX11_ends_6 (by decide) (fun c2 => ?_) (fun c2 => ?_)
    · have hf := c_it c2 hf
      refine lv_aload_n hx hb dX11_ends_11 rfl (lv_at hl 0 rfl) ?_
      refine c_get hx hb hts i_X11_ends_X11 hown hK hP 0 tC0 rfl 7 (by decide) (hts _ (List.mem_of_getElem? (i := 1) rfl)) (fun _ h9 => h9) rfl (v := .ref (ad 101)) rfl dX11_ends_12 ?_
      refine lv_aload_n hx hb dX11_ends_15 rfl (lv_at hl 0 rfl) ?_
      refine c_get hx hb hts i_X11_ends_X11 hown hK hP 0 tC0 rfl 5 (by decide) (hts _ (List.mem_of_getElem? (i := 2) rfl)) (fun _ h9 => h9) rfl (v := .ref (ad 55)) rfl dX11_ends_16 ?_
      obtain ⟨g4, hc3, hf⟩ := c_bd hf
      refine c_gov (va_runV (As := [.ref (ad 55)]) (rest := []) ⟨hx, hb, hml, hown, hts⟩ (kX7_copyFrom hD hc3) (cwV 1 hts gX11_ends_X7_copyFrom rfl rfl rfl (by decide +kernel) ⟨Nat.le_of_ble_eq_true rfl, Nat.le_of_ble_eq_true rfl⟩) (c_preV hK hP hE hS tC101 rfl) rfl rfl hl.1 rfl (lv_room (Nat.le_of_ble_eq_true rfl)) dX11_ends_19 ⟨Nat.zero_le _, Nat.zero_le _⟩) hS (fun H locs hP hS => ?_)
      refine lv_iconst (v := (0 : Int32)) hx hb dX11_ends_22 (by decide) ?_
      refine lv_istore_n (lv' := [(2, .int (0 : Int32)), (0, .ref (ad 0)), (1, .int a1)]) hx hb dX11_ends_23 rfl hl (by decide) rfl (fun ls hl => ?_)
      exact jX11_ends_24 C hD c_F a1 ((0 : Int32)) g4 hf _ _ hP hS _ (lv_sub hl [1, 2, 0] rfl)
    · have hf := c_ie c2 hf
      refine lv_iconst (v := (-1 : Int32)) hx hb dX11_ends_9 (by decide) ?_
      exact c_iret hx hb hr hlk hP hS rfl (c_inj hf) dX11_ends_10
theorem i_X11_book_X7 : ∀ w ∈ u_ws RX7 TX7 17, w ∈ wsX11_book := c_inP [42, 43, 44, 45, 46, 47, 48, 49, 50, 51, 52, 53, 54, 55, 56, 57, 58] (by decide +kernel)
theorem i_X11_book_X11 : ∀ w ∈ u_ws RX11 TX11 19, w ∈ wsX11_book := c_inP [23, 24, 25, 26, 27, 28, 29, 30, 31, 32, 33, 34, 35, 36, 37, 38, 39, 40, 41] (by decide +kernel)
theorem dX11_book_0 : decode cX11_book 0 = .ok (.iload_n 1, 1) := by decide +kernel
theorem dX11_book_1 : decode cX11_book 1 = .ok (.iconst (-1), 1) := by decide +kernel
theorem dX11_book_2 : decode cX11_book 2 = .ok (.if_icmp .ne 14, 3) := by decide +kernel
theorem dX11_book_5 : decode cX11_book 5 = .ok (.aload_n 0, 1) := by decide +kernel
theorem dX11_book_6 : decode cX11_book 6 = .ok (.getfield 86, 3) := by decide +kernel
theorem dX11_book_9 : decode cX11_book 9 = .ok (.getfield 275, 3) := by decide +kernel
theorem dX11_book_12 : decode cX11_book 12 = .ok (.invokevirtual 236, 3) := by decide +kernel
theorem dX11_book_15 : decode cX11_book 15 = .ok (.ireturn, 1) := by decide +kernel
theorem dX11_book_16 : decode cX11_book 16 = .ok (.iload_n 1, 1) := by decide +kernel
theorem dX11_book_17 : decode cX11_book 17 = .ok (.invokestatic 139, 3) := by decide +kernel
theorem dX11_book_20 : decode cX11_book 20 = .ok (.ifCond .eq 15, 3) := by decide +kernel
theorem dX11_book_23 : decode cX11_book 23 = .ok (.iload_n 2, 1) := by decide +kernel
theorem dX11_book_24 : decode cX11_book 24 = .ok (.iconst (-1), 1) := by decide +kernel
theorem dX11_book_25 : decode cX11_book 25 = .ok (.if_icmp .eq 12, 3) := by decide +kernel
theorem dX11_book_28 : decode cX11_book 28 = .ok (.iload_n 2, 1) := by decide +kernel
theorem dX11_book_29 : decode cX11_book 29 = .ok (.invokestatic 162, 3) := by decide +kernel
theorem dX11_book_32 : decode cX11_book 32 = .ok (.ifCond .ne 5, 3) := by decide +kernel
theorem dX11_book_35 : decode cX11_book 35 = .ok (.iconst (-1), 1) := by decide +kernel
theorem dX11_book_36 : decode cX11_book 36 = .ok (.ireturn, 1) := by decide +kernel
theorem dX11_book_37 : decode cX11_book 37 = .ok (.aload_n 0, 1) := by decide +kernel
theorem dX11_book_38 : decode cX11_book 38 = .ok (.getfield 86, 3) := by decide +kernel
theorem dX11_book_41 : decode cX11_book 41 = .ok (.getfield 275, 3) := by decide +kernel
theorem dX11_book_44 : decode cX11_book 44 = .ok (.iload_n 1, 1) := by decide +kernel
theorem dX11_book_45 : decode cX11_book 45 = .ok (.iload_n 2, 1) := by decide +kernel
theorem dX11_book_46 : decode cX11_book 46 = .ok (.ifCond .ge 8, 3) := by decide +kernel
theorem dX11_book_49 : decode cX11_book 49 = .ok (.bipush (-5), 2) := by decide +kernel
theorem dX11_book_51 : decode cX11_book 51 = .ok (.goto 4, 3) := by decide +kernel
theorem dX11_book_54 : decode cX11_book 54 = .ok (.iload_n 2, 1) := by decide +kernel
theorem dX11_book_55 : decode cX11_book 55 = .ok (.iconst 0, 1) := by decide +kernel
theorem dX11_book_56 : decode cX11_book 56 = .ok (.invokevirtual 241, 3) := by decide +kernel
theorem dX11_book_59 : decode cX11_book 59 = .ok (.ireturn, 1) := by decide +kernel
set_option maxRecDepth 20000 in
theorem ggX11_book_X5_clear : GoodIn wsX11_book wsX5_clear := goodIn_r _ [7, 8, 59, 60, 61, 62] (by decide +kernel) (by decide +kernel)
set_option maxRecDepth 20000 in
theorem gX11_book_X5_clear : GoodIn wsX11_book (wsV RX11 236 RX5 yX5_clear wsX5_clear) := goodIn_app (goodIn_of _ (by decide +kernel)) ggX11_book_X5_clear
set_option maxRecDepth 20000 in
theorem ggX11_book_X11_isElder : GoodIn wsX11_book wsX11_isElder := goodIn_r _ [12] (by decide +kernel) (by decide +kernel)
set_option maxRecDepth 20000 in
theorem gX11_book_X11_isElder : GoodIn wsX11_book (va_wsS RX11 139 yX11_isElder wsX11_isElder) := goodIn_app (goodIn_of _ (by decide +kernel)) ggX11_book_X11_isElder
set_option maxRecDepth 20000 in
theorem ggX11_book_X11_isWord : GoodIn wsX11_book wsX11_isWord := goodIn_r _ [15] (by decide +kernel) (by decide +kernel)
set_option maxRecDepth 20000 in
theorem gX11_book_X11_isWord : GoodIn wsX11_book (va_wsS RX11 162 yX11_isWord wsX11_isWord) := goodIn_app (goodIn_of _ (by decide +kernel)) ggX11_book_X11_isWord
set_option maxRecDepth 20000 in
theorem ggX11_book_X5_add : GoodIn wsX11_book wsX5_add := goodIn_r _ [19, 8, 20, 21, 22, 59, 60, 61, 62] (by decide +kernel) (by decide +kernel)
set_option maxRecDepth 20000 in
theorem gX11_book_X5_add : GoodIn wsX11_book (wsV RX11 241 RX5 yX5_add wsX5_add) := goodIn_app (goodIn_of _ (by decide +kernel)) ggX11_book_X5_add
def fX11_book_55  (a1 : Int32) (a2 : Int32) (y1 : Int32) (y2 : Int32) (g : c_G) : Option (c_G × Int32) :=
  c_b2 (fX5_add g 74 y1 y2 ((0 : Int32))) fun g55002 r55003 => some (g55002, r55003)
set_option maxRecDepth 100000 in
set_option maxHeartbeats 4000000 in
theorem jX11_book_55 {p : Program} {l : Launch} {e : Env} {s : State} {m : MethodId} {below : List Frame} {meth : Method} {c : Code} {D : va_G} {tc : Nat → ClassId} {ad : Nat → Nat} {A : Nat → Prop} {E : (Nat → Nat) × (Nat → Nat) × Nat} {a1 : Int32} {a2 : Int32} {g' : c_G} {r : Int32} (C : c_C p s m meth c D tc A E RX11 wsX11_book cX11_book 3 (some .int) ([.ref (ad 0), .int a1, .int a2] : List Value).toArray) (hD : c_D A ad TC)  : ∀ (y1 : Int32) (y2 : Int32) (g : c_G), fX11_book_55 a1 a2 y1 y2 g = some (g', r) → ∀ (H : Heap) (locs : List Loc), va_P D vwCl (c_ws tc ad TC g) H → va_S A s.heap H locs → ∀ ls : Array Slot, lv_has ls 3 [] → W p l e (c_rm 1) s m ([.ref (ad 0), .int a1, .int a2] : List Value).toArray below meth c H locs 0 0 (MQ below (va_Qi (fun (x : Int32) (_ : Unit) => x = r) (fun _ t => va_P D vwCl (c_ws tc ad TC g') t.heap) A) ([.ref (ad 0), .int a1, .int a2] : List Value).toArray s 0 0 A) (F0 m 55 ls [.int y2, .int y1, .ref (ad 74)]) := by
  obtain ⟨hx, hb, hr, hml, hts, hown, hlk, hK, hE⟩ := id C
  intro y1 y2 g hf H locs hP hS ls hl
  unfold fX11_book_55 at hf
  refine lv_iconst (v := (0 : Int32)) hx hb dX11_book_55 (by decide) ?_
  obtain ⟨g55002, r55003, hc55001, hf⟩ := c_b2E hf
  refine c_goi (va_runV (As := [.int y1, .int y2, .int (0 : Int32)]) (rest := []) ⟨hx, hb, hml, hown, hts⟩ (kX5_add hD hc55001) (cwV 3 hts gX11_book_X5_add rfl rfl rfl (by decide +kernel) ⟨Nat.le_of_ble_eq_true rfl, Nat.le_of_ble_eq_true rfl⟩) (c_preV hK hP hE hS tC74 rfl) rfl rfl hl.1 rfl (lv_room (Nat.le_of_ble_eq_true rfl)) dX11_book_56 ⟨Nat.zero_le _, Nat.zero_le _⟩) hS (fun H locs hP hS => ?_)
  exact c_iret hx hb hr hlk hP hS rfl (c_inj hf) dX11_book_59
def fX11_book_37  (a1 : Int32) (a2 : Int32) (x1 : Int32) (x2 : Int32) (g : c_G) : Option (c_G × Int32) :=
  if 0 ≤ x2 then (fX11_book_55 a1 a2 x1 x2 g) else (fX11_book_55 a1 a2 x1 ((-5 : Int32)) g)
set_option maxRecDepth 100000 in
set_option maxHeartbeats 4000000 in
theorem jX11_book_37 {p : Program} {l : Launch} {e : Env} {s : State} {m : MethodId} {below : List Frame} {meth : Method} {c : Code} {D : va_G} {tc : Nat → ClassId} {ad : Nat → Nat} {A : Nat → Prop} {E : (Nat → Nat) × (Nat → Nat) × Nat} {a1 : Int32} {a2 : Int32} {g' : c_G} {r : Int32} (C : c_C p s m meth c D tc A E RX11 wsX11_book cX11_book 3 (some .int) ([.ref (ad 0), .int a1, .int a2] : List Value).toArray) (hD : c_D A ad TC)  : ∀ (x1 : Int32) (x2 : Int32) (g : c_G), fX11_book_37 a1 a2 x1 x2 g = some (g', r) → ∀ (H : Heap) (locs : List Loc), va_P D vwCl (c_ws tc ad TC g) H → va_S A s.heap H locs → ∀ ls : Array Slot, lv_has ls 3 [(0, .ref (ad 0)), (1, .int x1), (2, .int x2)] → W p l e (c_rm 1) s m ([.ref (ad 0), .int a1, .int a2] : List Value).toArray below meth c H locs 0 0 (MQ below (va_Qi (fun (x : Int32) (_ : Unit) => x = r) (fun _ t => va_P D vwCl (c_ws tc ad TC g') t.heap) A) ([.ref (ad 0), .int a1, .int a2] : List Value).toArray s 0 0 A) (F0 m 37 ls []) := by
  obtain ⟨hx, hb, hr, hml, hts, hown, hlk, hK, hE⟩ := id C
  intro x1 x2 g hf H locs hP hS ls hl
  unfold fX11_book_37 at hf
  refine lv_aload_n hx hb dX11_book_37 rfl (lv_at hl 0 rfl) ?_
  refine c_get hx hb hts i_X11_book_X11 hown hK hP 0 tC0 rfl 5 (by decide) (hts _ (List.mem_of_getElem? (i := 1) rfl)) (fun _ h9 => h9) rfl (v := .ref (ad 55)) rfl dX11_book_38 ?_
  refine c_get hx hb hts i_X11_book_X7 hown hK hP 55 tC55 rfl 15 (by decide) (hts _ (List.mem_of_getElem? (i := 2) rfl)) (fun _ h9 => h9) rfl (v := .ref (ad 74)) rfl dX11_book_41 ?_
  refine lv_iload_n hx hb dX11_book_44 rfl (lv_at hl 1 rfl) ?_
  refine lv_iload_n hx hb dX11_book_45 rfl (lv_at hl 2 rfl) ?_
  refine lv_if_ge (tgt := 54) hx hb dX11_book_46 (by decide) (fun c37001 => ?_) (fun c37001 => ?_)
  · have hf := c_it c37001 hf
    refine lv_iload_n hx hb dX11_book_54 rfl (lv_at hl 2 rfl) ?_
    exact jX11_book_55 C hD x1 x2 g hf _ _ hP hS _ (lv_sub hl [] rfl)
  · have hf := c_ie c37001 hf
    refine lv_bipush (v := (-5 : Int32)) hx hb dX11_book_49 (by decide) ?_
    refine lv_goto (tgt := 55) hx hb dX11_book_51 (by decide) ?_
    exact jX11_book_55 C hD x1 ((-5 : Int32)) g hf _ _ hP hS _ (lv_sub hl [] rfl)
def fX11_book (g : c_G) (a1 : Int32) (a2 : Int32) : Option (c_G × Int32) :=
  if a1 = (-1 : Int32) then (c_b2 (fX5_clear g 74) fun g6 r7 => some (g6, r7)) else (if (fX11_isElder a1) = 0 then (some (g, (-1 : Int32))) else (if a2 = (-1 : Int32) then (fX11_book_37 a1 a2 a1 a2 g) else (if (fX11_isWord a2) = 0 then (some (g, (-1 : Int32))) else (fX11_book_37 a1 a2 a1 a2 g))))
set_option maxRecDepth 100000 in
set_option maxHeartbeats 4000000 in
theorem kX11_book {l : Launch} {D : va_G} {tc : Nat → ClassId} {ad : Nat → Nat} {A : Nat → Prop} {E : (Nat → Nat) × (Nat → Nat) × Nat} (hD : c_D A ad TC) {a1 : Int32} {a2 : Int32} {g g' : c_G} {r : Int32} (hf : fX11_book g a1 a2 = some (g', r)) : c_Mi l yX11_book wsX11_book (c_rm 1) D tc ad A E TC ([.ref (ad 0), .int a1, .int a2] : List Value) g g' r := by
  refine c_ofW (bytes := cX11_book) (maxL := 3) (ret := (some .int)) (by decide) rfl (Nat.le_of_ble_eq_true rfl) ?_
  intro p e s m below meth c ls C hP hS hl
  unfold fX11_book at hf
  obtain ⟨hx, hb, hr, hml, hts, hown, hlk, hK, hE⟩ := id C
  have hl : lv_has ls 3 [(0, .ref (ad 0)), (1, .int a1), (2, .int a2)] := hl
  refine lv_iload_n hx hb dX11_book_0 rfl (lv_at hl 1 rfl) ?_
  refine lv_iconst (v := (-1 : Int32)) hx hb dX11_book_1 (by decide) ?_
  refine lv_icmp_ne (tgt := 16) hx hb dX11_book_2 (by decide) (fun c1 => ?_) (fun c1 => ?_)
  · have hf := c_ie c1 hf
    refine lv_iload_n hx hb dX11_book_16 rfl (lv_at hl 1 rfl) ?_
    refine c_goi (va_runS (As := [.int a1]) (rest := []) ⟨hx, hb, hml, hown, hts⟩ (kX11_isElder (T := TC) (g := g) rfl) (va_cwS 1 hts gX11_book_X11_isElder rfl rfl rfl (by decide +kernel) ⟨Nat.le_of_ble_eq_true rfl, Nat.le_of_ble_eq_true rfl⟩) (c_preS hK hP hE hS) rfl rfl hl.1 rfl (lv_room (Nat.le_of_ble_eq_true rfl)) dX11_book_17 ⟨Nat.zero_le _, Nat.zero_le _⟩) hS (fun H locs hP hS => ?_)
    refine lv_if_eq (tgt := 35) hx hb dX11_book_20 (by decide) (fun c2 => ?_) (fun c2 => ?_)
    · have hf := c_it c2 hf
      refine lv_iconst (v := (-1 : Int32)) hx hb dX11_book_35 (by decide) ?_
      exact c_iret hx hb hr hlk hP hS rfl (c_inj hf) dX11_book_36
    · have hf := c_ie c2 hf
      refine lv_iload_n hx hb dX11_book_23 rfl (lv_at hl 2 rfl) ?_
      refine lv_iconst (v := (-1 : Int32)) hx hb dX11_book_24 (by decide) ?_
      refine lv_icmp_eq (tgt := 37) hx hb dX11_book_25 (by decide) (fun c3 => ?_) (fun c3 => ?_)
      · have hf := c_it c3 hf
        exact jX11_book_37 C hD a1 a2 g hf _ _ hP hS _ (lv_sub hl [0, 1, 2] rfl)
      · have hf := c_ie c3 hf
        refine lv_iload_n hx hb dX11_book_28 rfl (lv_at hl 2 rfl) ?_
        refine c_goi (va_runS (As := [.int a2]) (rest := []) ⟨hx, hb, hml, hown, hts⟩ (kX11_isWord (T := TC) (g := g) rfl) (va_cwS 1 hts gX11_book_X11_isWord rfl rfl rfl (by decide +kernel) ⟨Nat.le_of_ble_eq_true rfl, Nat.le_of_ble_eq_true rfl⟩) (c_preS hK hP hE hS) rfl rfl hl.1 rfl (lv_room (Nat.le_of_ble_eq_true rfl)) dX11_book_29 ⟨Nat.zero_le _, Nat.zero_le _⟩) hS (fun H locs hP hS => ?_)
        refine lv_if_ne (tgt := 37) hx hb dX11_book_32 (by decide) (fun c4 => ?_) (fun c4 => ?_)
        · have hf := c_ie c4 hf
          exact jX11_book_37 C hD a1 a2 g hf _ _ hP hS _ (lv_sub hl [0, 1, 2] rfl)
        · have hf := c_it c4 hf
          refine lv_iconst (v := (-1 : Int32)) hx hb dX11_book_35 (by decide) ?_
          exact c_iret hx hb hr hlk hP hS rfl (c_inj hf) dX11_book_36
  · have hf := c_it c1 hf
    refine lv_aload_n hx hb dX11_book_5 rfl (lv_at hl 0 rfl) ?_
    refine c_get hx hb hts i_X11_book_X11 hown hK hP 0 tC0 rfl 5 (by decide) (hts _ (List.mem_of_getElem? (i := 1) rfl)) (fun _ h9 => h9) rfl (v := .ref (ad 55)) rfl dX11_book_6 ?_
    refine c_get hx hb hts i_X11_book_X7 hown hK hP 55 tC55 rfl 15 (by decide) (hts _ (List.mem_of_getElem? (i := 2) rfl)) (fun _ h9 => h9) rfl (v := .ref (ad 74)) rfl dX11_book_9 ?_
    obtain ⟨g6, r7, hc5, hf⟩ := c_b2E hf
    refine c_goi (va_runV (As := []) (rest := []) ⟨hx, hb, hml, hown, hts⟩ (kX5_clear hD hc5) (cwV 0 hts gX11_book_X5_clear rfl rfl rfl (by decide +kernel) ⟨Nat.le_of_ble_eq_true rfl, Nat.le_of_ble_eq_true rfl⟩) (c_preV hK hP hE hS tC74 rfl) rfl rfl hl.1 rfl (lv_room (Nat.le_of_ble_eq_true rfl)) dX11_book_12 ⟨Nat.zero_le _, Nat.zero_le _⟩) hS (fun H locs hP hS => ?_)
    exact c_iret hx hb hr hlk hP hS rfl (c_inj hf) dX11_book_15
theorem i_X11_looked_X5 : ∀ w ∈ u_ws RX5 TX5 4, w ∈ wsX11_looked := c_inP [43, 44, 45, 46] (by decide +kernel)
theorem i_X11_looked_X7 : ∀ w ∈ u_ws RX7 TX7 17, w ∈ wsX11_looked := c_inP [26, 27, 28, 29, 30, 31, 32, 33, 34, 35, 36, 37, 38, 39, 40, 41, 42] (by decide +kernel)
theorem i_X11_looked_X11 : ∀ w ∈ u_ws RX11 TX11 19, w ∈ wsX11_looked := c_inP [7, 8, 9, 10, 11, 12, 13, 14, 15, 16, 17, 18, 19, 20, 21, 22, 23, 24, 25] (by decide +kernel)
theorem dX11_looked_0 : decode cX11_looked 0 = .ok (.iconst 0, 1) := by decide +kernel
theorem dX11_looked_1 : decode cX11_looked 1 = .ok (.istore_n 1, 1) := by decide +kernel
theorem dX11_looked_2 : decode cX11_looked 2 = .ok (.iload_n 1, 1) := by decide +kernel
theorem dX11_looked_3 : decode cX11_looked 3 = .ok (.aload_n 0, 1) := by decide +kernel
theorem dX11_looked_4 : decode cX11_looked 4 = .ok (.getfield 86, 3) := by decide +kernel
theorem dX11_looked_7 : decode cX11_looked 7 = .ok (.getfield 275, 3) := by decide +kernel
theorem dX11_looked_10 : decode cX11_looked 10 = .ok (.getfield 266, 3) := by decide +kernel
theorem dX11_looked_13 : decode cX11_looked 13 = .ok (.if_icmp .ge 46, 3) := by decide +kernel
theorem dX11_looked_16 : decode cX11_looked 16 = .ok (.aload_n 0, 1) := by decide +kernel
theorem dX11_looked_17 : decode cX11_looked 17 = .ok (.getfield 86, 3) := by decide +kernel
theorem dX11_looked_20 : decode cX11_looked 20 = .ok (.getfield 149, 3) := by decide +kernel
theorem dX11_looked_23 : decode cX11_looked 23 = .ok (.aload_n 0, 1) := by decide +kernel
theorem dX11_looked_24 : decode cX11_looked 24 = .ok (.getfield 86, 3) := by decide +kernel
theorem dX11_looked_27 : decode cX11_looked 27 = .ok (.getfield 275, 3) := by decide +kernel
theorem dX11_looked_30 : decode cX11_looked 30 = .ok (.getfield 272, 3) := by decide +kernel
theorem dX11_looked_33 : decode cX11_looked 33 = .ok (.iload_n 1, 1) := by decide +kernel
theorem dX11_looked_34 : decode cX11_looked 34 = .ok (.iaload, 1) := by decide +kernel
theorem dX11_looked_35 : decode cX11_looked 35 = .ok (.iaload, 1) := by decide +kernel
theorem dX11_looked_36 : decode cX11_looked 36 = .ok (.aload_n 0, 1) := by decide +kernel
theorem dX11_looked_37 : decode cX11_looked 37 = .ok (.getfield 86, 3) := by decide +kernel
theorem dX11_looked_40 : decode cX11_looked 40 = .ok (.getfield 275, 3) := by decide +kernel
theorem dX11_looked_43 : decode cX11_looked 43 = .ok (.getfield 269, 3) := by decide +kernel
theorem dX11_looked_46 : decode cX11_looked 46 = .ok (.iload_n 1, 1) := by decide +kernel
theorem dX11_looked_47 : decode cX11_looked 47 = .ok (.iaload, 1) := by decide +kernel
theorem dX11_looked_48 : decode cX11_looked 48 = .ok (.if_icmp .eq 5, 3) := by decide +kernel
theorem dX11_looked_51 : decode cX11_looked 51 = .ok (.iload_n 1, 1) := by decide +kernel
theorem dX11_looked_52 : decode cX11_looked 52 = .ok (.ireturn, 1) := by decide +kernel
theorem dX11_looked_53 : decode cX11_looked 53 = .ok (.iinc 1 1, 3) := by decide +kernel
theorem dX11_looked_56 : decode cX11_looked 56 = .ok (.goto (-54), 3) := by decide +kernel
theorem dX11_looked_59 : decode cX11_looked 59 = .ok (.bipush (-5), 2) := by decide +kernel
theorem dX11_looked_61 : decode cX11_looked 61 = .ok (.ireturn, 1) := by decide +kernel
def fX11_looked_2   : Nat → Int32 → c_G → Option (Int32)
  | 0, _, _ => none
  | n + 1, x1, g => if (g.1 74 3) ≤ x1 then (some (-5 : Int32)) else (if c_in (x1) (8) = true then if c_in ((g.1 75 (x1).toNatClampNeg)) (6) = true then if (g.1 57 ((g.1 75 (x1).toNatClampNeg)).toNatClampNeg) = (g.1 76 (x1).toNatClampNeg) then (c_let (x1 + (1 : Int32)) fun v2005 => (fX11_looked_2 n) v2005 g) else (some x1) else none else none)
set_option maxRecDepth 100000 in
set_option maxHeartbeats 4000000 in
theorem jX11_looked_2 {p : Program} {l : Launch} {e : Env} {s : State} {m : MethodId} {below : List Frame} {meth : Method} {c : Code} {D : va_G} {tc : Nat → ClassId} {ad : Nat → Nat} {A : Nat → Prop} {E : (Nat → Nat) × (Nat → Nat) × Nat} {r : Int32} (C : c_C p s m meth c D tc A E RX11 wsX11_looked cX11_looked 2 (some .int) ([.ref (ad 0)] : List Value).toArray) (hD : c_D A ad TC)  : ∀ (n : Nat) (x1 : Int32) (g : c_G), fX11_looked_2 n x1 g = some r → ∀ (H : Heap) (locs : List Loc), va_P D vwCl (c_ws tc ad TC g) H → va_S A s.heap H locs → ∀ ls : Array Slot, lv_has ls 2 [(0, .ref (ad 0)), (1, .int x1)] → W p l e (c_rm 0) s m ([.ref (ad 0)] : List Value).toArray below meth c H locs 0 0 (MQ below (va_Qi (fun (x : Int32) (_ : Unit) => x = r) (fun _ t => va_P D vwCl (c_ws tc ad TC g) t.heap) A) ([.ref (ad 0)] : List Value).toArray s 0 0 A) (F0 m 2 ls []) := by
  obtain ⟨hx, hb, hr, hml, hts, hown, hlk, hK, hE⟩ := id C
  intro n
  induction n with
  | zero =>
    intro x1 g hf
    cases hf
  | succ n ih =>
    intro x1 g hf H locs hP hS ls hl
    unfold fX11_looked_2 at hf
    refine lv_iload_n hx hb dX11_looked_2 rfl (lv_at hl 1 rfl) ?_
    refine lv_aload_n hx hb dX11_looked_3 rfl (lv_at hl 0 rfl) ?_
    refine c_get hx hb hts i_X11_looked_X11 hown hK hP 0 tC0 rfl 5 (by decide) (hts _ (List.mem_of_getElem? (i := 1) rfl)) (fun _ h9 => h9) rfl (v := .ref (ad 55)) rfl dX11_looked_4 ?_
    refine c_get hx hb hts i_X11_looked_X7 hown hK hP 55 tC55 rfl 15 (by decide) (hts _ (List.mem_of_getElem? (i := 2) rfl)) (fun _ h9 => h9) rfl (v := .ref (ad 74)) rfl dX11_looked_7 ?_
    refine c_get hx hb hts i_X11_looked_X5 hown hK hP 74 tC74 rfl 3 (by decide) (hts _ (List.mem_of_getElem? (i := 3) rfl)) (fun _ h9 => h9) rfl (v := .int (g.1 74 3)) rfl dX11_looked_10 ?_
    refine lv_icmp_ge (tgt := 59) hx hb dX11_looked_13 (by decide) (fun c2001 => ?_) (fun c2001 => ?_)
    · have hf := c_it c2001 hf
      refine lv_bipush (v := (-5 : Int32)) hx hb dX11_looked_59 (by decide) ?_
      exact c_iret hx hb hr hlk hP hS rfl ⟨rfl, Option.some.inj hf⟩ dX11_looked_61
    · have hf := c_ie c2001 hf
      refine lv_aload_n hx hb dX11_looked_16 rfl (lv_at hl 0 rfl) ?_
      refine c_get hx hb hts i_X11_looked_X11 hown hK hP 0 tC0 rfl 5 (by decide) (hts _ (List.mem_of_getElem? (i := 1) rfl)) (fun _ h9 => h9) rfl (v := .ref (ad 55)) rfl dX11_looked_17 ?_
      refine c_get hx hb hts i_X11_looked_X7 hown hK hP 55 tC55 rfl 1 (by decide) (hts _ (List.mem_of_getElem? (i := 4) rfl)) (fun _ h9 => h9) rfl (v := .ref (ad 57)) rfl dX11_looked_20 ?_
      refine lv_aload_n hx hb dX11_looked_23 rfl (lv_at hl 0 rfl) ?_
      refine c_get hx hb hts i_X11_looked_X11 hown hK hP 0 tC0 rfl 5 (by decide) (hts _ (List.mem_of_getElem? (i := 1) rfl)) (fun _ h9 => h9) rfl (v := .ref (ad 55)) rfl dX11_looked_24 ?_
      refine c_get hx hb hts i_X11_looked_X7 hown hK hP 55 tC55 rfl 15 (by decide) (hts _ (List.mem_of_getElem? (i := 2) rfl)) (fun _ h9 => h9) rfl (v := .ref (ad 74)) rfl dX11_looked_27 ?_
      refine c_get hx hb hts i_X11_looked_X5 hown hK hP 74 tC74 rfl 0 (by decide) (hts _ (List.mem_of_getElem? (i := 5) rfl)) (fun _ h9 => h9) rfl (v := .ref (ad 75)) rfl dX11_looked_30 ?_
      refine lv_iload_n hx hb dX11_looked_33 rfl (lv_at hl 1 rfl) ?_
      obtain ⟨hi2002, hf⟩ := c_gd hf
      refine c_iald (j := (x1).toNatClampNeg) hx hb hK hP 75 tC75 rfl (c_inV hi2002) dX11_looked_34 ?_
      obtain ⟨hi2003, hf⟩ := c_gd hf
      refine c_iald (j := ((g.1 75 (x1).toNatClampNeg)).toNatClampNeg) hx hb hK hP 57 tC57 rfl (c_inV hi2003) dX11_looked_35 ?_
      refine lv_aload_n hx hb dX11_looked_36 rfl (lv_at hl 0 rfl) ?_
      refine c_get hx hb hts i_X11_looked_X11 hown hK hP 0 tC0 rfl 5 (by decide) (hts _ (List.mem_of_getElem? (i := 1) rfl)) (fun _ h9 => h9) rfl (v := .ref (ad 55)) rfl dX11_looked_37 ?_
      refine c_get hx hb hts i_X11_looked_X7 hown hK hP 55 tC55 rfl 15 (by decide) (hts _ (List.mem_of_getElem? (i := 2) rfl)) (fun _ h9 => h9) rfl (v := .ref (ad 74)) rfl dX11_looked_40 ?_
      refine c_get hx hb hts i_X11_looked_X5 hown hK hP 74 tC74 rfl 1 (by decide) (hts _ (List.mem_of_getElem? (i := 6) rfl)) (fun _ h9 => h9) rfl (v := .ref (ad 76)) rfl dX11_looked_43 ?_
      refine lv_iload_n hx hb dX11_looked_46 rfl (lv_at hl 1 rfl) ?_
      refine c_iald (j := (x1).toNatClampNeg) hx hb hK hP 76 tC76 rfl (c_inV hi2002) dX11_looked_47 ?_
      refine lv_icmp_eq (tgt := 53) hx hb dX11_looked_48 (by decide) (fun c2004 => ?_) (fun c2004 => ?_)
      · have hf := c_it c2004 hf
        obtain ⟨v2005, ev2005, hf⟩ := c_letE hf
        refine lv_iinc (v := v2005) (lv' := [(1, .int v2005), (0, .ref (ad 0))]) hx hb dX11_looked_53 hl (k := 1) rfl (by rw [ev2005]; rfl) (by decide) rfl (fun ls hl => ?_)
        refine lv_goto (tgt := 2) hx hb dX11_looked_56 (by decide) ?_
        exact ih v2005 g hf _ _ hP hS _ (lv_sub hl [1, 0] rfl)
      · have hf := c_ie c2004 hf
        refine lv_iload_n hx hb dX11_looked_51 rfl (lv_at hl 1 rfl) ?_
        exact c_iret hx hb hr hlk hP hS rfl ⟨rfl, Option.some.inj hf⟩ dX11_looked_52
def fX11_looked (g : c_G)  : Option (Int32) :=
  fX11_looked_2 c_F ((0 : Int32)) g
set_option maxRecDepth 100000 in
set_option maxHeartbeats 4000000 in
theorem kX11_looked {l : Launch} {D : va_G} {tc : Nat → ClassId} {ad : Nat → Nat} {A : Nat → Prop} {E : (Nat → Nat) × (Nat → Nat) × Nat} (hD : c_D A ad TC)  {g : c_G} {r : Int32} (hf : fX11_looked g  = some r) : c_Mi l yX11_looked wsX11_looked (c_rm 0) D tc ad A E TC ([.ref (ad 0)] : List Value) g g r := by
  refine c_ofW (bytes := cX11_looked) (maxL := 2) (ret := (some .int)) (by decide) rfl (Nat.le_of_ble_eq_true rfl) ?_
  intro p e s m below meth c ls C hP hS hl
  unfold fX11_looked at hf
  obtain ⟨hx, hb, hr, hml, hts, hown, hlk, hK, hE⟩ := id C
  have hl : lv_has ls 2 [(0, .ref (ad 0))] := hl
  refine lv_iconst (v := (0 : Int32)) hx hb dX11_looked_0 (by decide) ?_
  refine lv_istore_n (lv' := [(1, .int (0 : Int32)), (0, .ref (ad 0))]) hx hb dX11_looked_1 rfl hl (by decide) rfl (fun ls hl => ?_)
  exact jX11_looked_2 C hD c_F ((0 : Int32)) g hf _ _ hP hS _ (lv_sub hl [1, 0] rfl)
theorem dX11_isTape_0 : decode cX11_isTape 0 = .ok (.iload_n 0, 1) := by decide +kernel
theorem dX11_isTape_1 : decode cX11_isTape 1 = .ok (.ifCond .lt 13, 3) := by decide +kernel
theorem dX11_isTape_4 : decode cX11_isTape 4 = .ok (.iload_n 0, 1) := by decide +kernel
theorem dX11_isTape_5 : decode cX11_isTape 5 = .ok (.bipush 6, 2) := by decide +kernel
theorem dX11_isTape_7 : decode cX11_isTape 7 = .ok (.if_icmp .ge 7, 3) := by decide +kernel
theorem dX11_isTape_10 : decode cX11_isTape 10 = .ok (.iconst 1, 1) := by decide +kernel
theorem dX11_isTape_11 : decode cX11_isTape 11 = .ok (.goto 4, 3) := by decide +kernel
theorem dX11_isTape_14 : decode cX11_isTape 14 = .ok (.iconst 0, 1) := by decide +kernel
theorem dX11_isTape_15 : decode cX11_isTape 15 = .ok (.ireturn, 1) := by decide +kernel
def fX11_isTape (a1 : Int32) : Int32 :=
  if a1 < 0 then ((0 : Int32)) else (if (6 : Int32) ≤ a1 then ((0 : Int32)) else ((1 : Int32)))
set_option maxRecDepth 100000 in
set_option maxHeartbeats 4000000 in
theorem kX11_isTape {l : Launch} {D : va_G} {tc : Nat → ClassId} {ad : Nat → Nat} {A : Nat → Prop} {E : (Nat → Nat) × (Nat → Nat) × Nat} {T : List c_T} {a1 : Int32} {g : c_G} {r : Int32} (hf : fX11_isTape a1 = r) : c_Mi l yX11_isTape wsX11_isTape (c_rm 0) D tc ad A E T ([.int a1] : List Value) g g r := by
  refine c_ofW (bytes := cX11_isTape) (maxL := 1) (ret := (some .boolean)) (by decide) rfl (Nat.le_of_ble_eq_true rfl) ?_
  intro p e s m below meth c ls C hP hS hl
  unfold fX11_isTape at hf
  obtain ⟨hx, hb, hr, hml, hts, hown, hlk, hK, hE⟩ := id C
  have hl : lv_has ls 1 [(0, .int a1)] := hl
  refine lv_iload_n hx hb dX11_isTape_0 rfl (lv_at hl 0 rfl) ?_
  refine lv_if_lt (tgt := 14) hx hb dX11_isTape_1 (by decide) (fun c1 => ?_) (fun c1 => ?_)
  · have hf := c_it c1 hf
    refine lv_iconst (v := (0 : Int32)) hx hb dX11_isTape_14 (by decide) ?_
    exact c_iret hx hb hr hlk hP hS rfl ⟨rfl, hf⟩ dX11_isTape_15
  · have hf := c_ie c1 hf
    refine lv_iload_n hx hb dX11_isTape_4 rfl (lv_at hl 0 rfl) ?_
    refine lv_bipush (v := (6 : Int32)) hx hb dX11_isTape_5 (by decide) ?_
    refine lv_icmp_ge (tgt := 14) hx hb dX11_isTape_7 (by decide) (fun c2 => ?_) (fun c2 => ?_)
    · have hf := c_it c2 hf
      refine lv_iconst (v := (0 : Int32)) hx hb dX11_isTape_14 (by decide) ?_
      exact c_iret hx hb hr hlk hP hS rfl ⟨rfl, hf⟩ dX11_isTape_15
    · have hf := c_ie c2 hf
      refine lv_iconst (v := (1 : Int32)) hx hb dX11_isTape_10 (by decide) ?_
      refine lv_goto (tgt := 15) hx hb dX11_isTape_11 (by decide) ?_
      exact c_iret hx hb hr hlk hP hS rfl ⟨rfl, hf⟩ dX11_isTape_15
theorem bX11_isTape (a1 : Int32) : fX11_isTape a1 = 0 ∨ fX11_isTape a1 = 1 := by
  unfold fX11_isTape
  first | (repeat' split) <;> first | exact Or.inl rfl | exact Or.inr rfl
theorem i_X11_judge_X7 : ∀ w ∈ u_ws RX7 TX7 17, w ∈ wsX11_judge := c_inP [29, 30, 31, 32, 33, 34, 35, 36, 37, 38, 39, 40, 41, 42, 43, 44, 45] (by decide +kernel)
theorem i_X11_judge_X11 : ∀ w ∈ u_ws RX11 TX11 19, w ∈ wsX11_judge := c_inP [10, 11, 12, 13, 14, 15, 16, 17, 18, 19, 20, 21, 22, 23, 24, 25, 26, 27, 28] (by decide +kernel)
theorem dX11_judge_0 : decode cX11_judge 0 = .ok (.iload_n 1, 1) := by decide +kernel
theorem dX11_judge_1 : decode cX11_judge 1 = .ok (.invokestatic 278, 3) := by decide +kernel
theorem dX11_judge_4 : decode cX11_judge 4 = .ok (.ifCond .ne 5, 3) := by decide +kernel
theorem dX11_judge_7 : decode cX11_judge 7 = .ok (.iconst (-1), 1) := by decide +kernel
theorem dX11_judge_8 : decode cX11_judge 8 = .ok (.ireturn, 1) := by decide +kernel
theorem dX11_judge_9 : decode cX11_judge 9 = .ok (.aload_n 0, 1) := by decide +kernel
theorem dX11_judge_10 : decode cX11_judge 10 = .ok (.getfield 44, 3) := by decide +kernel
theorem dX11_judge_13 : decode cX11_judge 13 = .ok (.iload_n 1, 1) := by decide +kernel
theorem dX11_judge_14 : decode cX11_judge 14 = .ok (.iaload, 1) := by decide +kernel
theorem dX11_judge_15 : decode cX11_judge 15 = .ok (.bipush (-5), 2) := by decide +kernel
theorem dX11_judge_17 : decode cX11_judge 17 = .ok (.if_icmp .ne 6, 3) := by decide +kernel
theorem dX11_judge_20 : decode cX11_judge 20 = .ok (.bipush 100, 2) := by decide +kernel
theorem dX11_judge_22 : decode cX11_judge 22 = .ok (.ireturn, 1) := by decide +kernel
theorem dX11_judge_23 : decode cX11_judge 23 = .ok (.aload_n 0, 1) := by decide +kernel
theorem dX11_judge_24 : decode cX11_judge 24 = .ok (.getfield 44, 3) := by decide +kernel
theorem dX11_judge_27 : decode cX11_judge 27 = .ok (.iload_n 1, 1) := by decide +kernel
theorem dX11_judge_28 : decode cX11_judge 28 = .ok (.iaload, 1) := by decide +kernel
theorem dX11_judge_29 : decode cX11_judge 29 = .ok (.iconst 4, 1) := by decide +kernel
theorem dX11_judge_30 : decode cX11_judge 30 = .ok (.if_icmp .eq 6, 3) := by decide +kernel
theorem dX11_judge_33 : decode cX11_judge 33 = .ok (.bipush (-12), 2) := by decide +kernel
theorem dX11_judge_35 : decode cX11_judge 35 = .ok (.ireturn, 1) := by decide +kernel
theorem dX11_judge_36 : decode cX11_judge 36 = .ok (.iload_n 2, 1) := by decide +kernel
theorem dX11_judge_37 : decode cX11_judge 37 = .ok (.ifCond .lt 13, 3) := by decide +kernel
theorem dX11_judge_40 : decode cX11_judge 40 = .ok (.iload_n 2, 1) := by decide +kernel
theorem dX11_judge_41 : decode cX11_judge 41 = .ok (.aload_n 0, 1) := by decide +kernel
theorem dX11_judge_42 : decode cX11_judge 42 = .ok (.getfield 47, 3) := by decide +kernel
theorem dX11_judge_45 : decode cX11_judge 45 = .ok (.iload_n 1, 1) := by decide +kernel
theorem dX11_judge_46 : decode cX11_judge 46 = .ok (.iaload, 1) := by decide +kernel
theorem dX11_judge_47 : decode cX11_judge 47 = .ok (.if_icmp .le 6, 3) := by decide +kernel
theorem dX11_judge_50 : decode cX11_judge 50 = .ok (.bipush 100, 2) := by decide +kernel
theorem dX11_judge_52 : decode cX11_judge 52 = .ok (.ireturn, 1) := by decide +kernel
theorem dX11_judge_53 : decode cX11_judge 53 = .ok (.iconst 0, 1) := by decide +kernel
theorem dX11_judge_54 : decode cX11_judge 54 = .ok (.istore_n 3, 1) := by decide +kernel
theorem dX11_judge_55 : decode cX11_judge 55 = .ok (.iload_n 3, 1) := by decide +kernel
theorem dX11_judge_56 : decode cX11_judge 56 = .ok (.bipush 6, 2) := by decide +kernel
theorem dX11_judge_58 : decode cX11_judge 58 = .ok (.if_icmp .ge 68, 3) := by decide +kernel
theorem dX11_judge_61 : decode cX11_judge 61 = .ok (.iload_n 2, 1) := by decide +kernel
theorem dX11_judge_62 : decode cX11_judge 62 = .ok (.iload_n 3, 1) := by decide +kernel
theorem dX11_judge_63 : decode cX11_judge 63 = .ok (.iadd, 1) := by decide +kernel
theorem dX11_judge_64 : decode cX11_judge 64 = .ok (.aload_n 0, 1) := by decide +kernel
theorem dX11_judge_65 : decode cX11_judge 65 = .ok (.getfield 47, 3) := by decide +kernel
theorem dX11_judge_68 : decode cX11_judge 68 = .ok (.iload_n 1, 1) := by decide +kernel
theorem dX11_judge_69 : decode cX11_judge 69 = .ok (.iaload, 1) := by decide +kernel
theorem dX11_judge_70 : decode cX11_judge 70 = .ok (.if_icmp .lt 8, 3) := by decide +kernel
theorem dX11_judge_73 : decode cX11_judge 73 = .ok (.bipush 100, 2) := by decide +kernel
theorem dX11_judge_75 : decode cX11_judge 75 = .ok (.iload_n 3, 1) := by decide +kernel
theorem dX11_judge_76 : decode cX11_judge 76 = .ok (.iadd, 1) := by decide +kernel
theorem dX11_judge_77 : decode cX11_judge 77 = .ok (.ireturn, 1) := by decide +kernel
theorem dX11_judge_78 : decode cX11_judge 78 = .ok (.aload_n 0, 1) := by decide +kernel
theorem dX11_judge_79 : decode cX11_judge 79 = .ok (.getfield 86, 3) := by decide +kernel
theorem dX11_judge_82 : decode cX11_judge 82 = .ok (.getfield 149, 3) := by decide +kernel
theorem dX11_judge_85 : decode cX11_judge 85 = .ok (.iload_n 3, 1) := by decide +kernel
theorem dX11_judge_86 : decode cX11_judge 86 = .ok (.iaload, 1) := by decide +kernel
theorem dX11_judge_87 : decode cX11_judge 87 = .ok (.ifCond .lt 7, 3) := by decide +kernel
theorem dX11_judge_90 : decode cX11_judge 90 = .ok (.iconst 1, 1) := by decide +kernel
theorem dX11_judge_91 : decode cX11_judge 91 = .ok (.goto 4, 3) := by decide +kernel
theorem dX11_judge_94 : decode cX11_judge 94 = .ok (.iconst 0, 1) := by decide +kernel
theorem dX11_judge_95 : decode cX11_judge 95 = .ok (.aload_n 0, 1) := by decide +kernel
theorem dX11_judge_96 : decode cX11_judge 96 = .ok (.getfield 52, 3) := by decide +kernel
theorem dX11_judge_99 : decode cX11_judge 99 = .ok (.iload_n 1, 1) := by decide +kernel
theorem dX11_judge_100 : decode cX11_judge 100 = .ok (.aaload, 1) := by decide +kernel
theorem dX11_judge_101 : decode cX11_judge 101 = .ok (.iload_n 2, 1) := by decide +kernel
theorem dX11_judge_102 : decode cX11_judge 102 = .ok (.iload_n 3, 1) := by decide +kernel
theorem dX11_judge_103 : decode cX11_judge 103 = .ok (.iadd, 1) := by decide +kernel
theorem dX11_judge_104 : decode cX11_judge 104 = .ok (.laload, 1) := by decide +kernel
theorem dX11_judge_105 : decode cX11_judge 105 = .ok (.lconst 1, 1) := by decide +kernel
theorem dX11_judge_106 : decode cX11_judge 106 = .ok (.lcmp, 1) := by decide +kernel
theorem dX11_judge_107 : decode cX11_judge 107 = .ok (.ifCond .ne 7, 3) := by decide +kernel
theorem dX11_judge_110 : decode cX11_judge 110 = .ok (.iconst 1, 1) := by decide +kernel
theorem dX11_judge_111 : decode cX11_judge 111 = .ok (.goto 4, 3) := by decide +kernel
theorem dX11_judge_114 : decode cX11_judge 114 = .ok (.iconst 0, 1) := by decide +kernel
theorem dX11_judge_115 : decode cX11_judge 115 = .ok (.if_icmp .eq 5, 3) := by decide +kernel
theorem dX11_judge_118 : decode cX11_judge 118 = .ok (.iload_n 3, 1) := by decide +kernel
theorem dX11_judge_119 : decode cX11_judge 119 = .ok (.ireturn, 1) := by decide +kernel
theorem dX11_judge_120 : decode cX11_judge 120 = .ok (.iinc 3 1, 3) := by decide +kernel
theorem dX11_judge_123 : decode cX11_judge 123 = .ok (.goto (-68), 3) := by decide +kernel
theorem dX11_judge_126 : decode cX11_judge 126 = .ok (.bipush (-5), 2) := by decide +kernel
theorem dX11_judge_128 : decode cX11_judge 128 = .ok (.ireturn, 1) := by decide +kernel
set_option maxRecDepth 20000 in
theorem ggX11_judge_X11_isTape : GoodIn wsX11_judge wsX11_isTape := goodIn_r _ [9] (by decide +kernel) (by decide +kernel)
set_option maxRecDepth 20000 in
theorem gX11_judge_X11_isTape : GoodIn wsX11_judge (va_wsS RX11 278 yX11_isTape wsX11_isTape) := goodIn_app (goodIn_of _ (by decide +kernel)) ggX11_judge_X11_isTape
def fX11_judge_115 (rec55 : Int32 → Int32 → Int32 → c_G → Option (Int32)) (a1 : Int32) (a2 : Int32) (x1 : Int32) (x2 : Int32) (x3 : Int32) (y0 : Int32) (y1 : Int32) (g : c_G) : Option (Int32) :=
  if y0 = y1 then (c_let (x3 + (1 : Int32)) fun v115002 => rec55 x1 x2 v115002 g) else (some x3)
set_option maxRecDepth 100000 in
set_option maxHeartbeats 4000000 in
theorem jX11_judge_115 {p : Program} {l : Launch} {e : Env} {s : State} {m : MethodId} {below : List Frame} {meth : Method} {c : Code} {D : va_G} {tc : Nat → ClassId} {ad : Nat → Nat} {A : Nat → Prop} {E : (Nat → Nat) × (Nat → Nat) × Nat} {a1 : Int32} {a2 : Int32} {r : Int32} (C : c_C p s m meth c D tc A E RX11 wsX11_judge cX11_judge 4 (some .int) ([.ref (ad 0), .int a1, .int a2] : List Value).toArray) (hD : c_D A ad TC) {rec55 : Int32 → Int32 → Int32 → c_G → Option (Int32)} (hrec55 : ∀ (x1 : Int32) (x2 : Int32) (x3 : Int32) (g : c_G), rec55 x1 x2 x3 g = some r → ∀ (H : Heap) (locs : List Loc), va_P D vwCl (c_ws tc ad TC g) H → va_S A s.heap H locs → ∀ ls : Array Slot, lv_has ls 4 [(0, .ref (ad 0)), (1, .int x1), (2, .int x2), (3, .int x3)] → W p l e (c_rm 1) s m ([.ref (ad 0), .int a1, .int a2] : List Value).toArray below meth c H locs 0 0 (MQ below (va_Qi (fun (x : Int32) (_ : Unit) => x = r) (fun _ t => va_P D vwCl (c_ws tc ad TC g) t.heap) A) ([.ref (ad 0), .int a1, .int a2] : List Value).toArray s 0 0 A) (F0 m 55 ls [])) : ∀ (x1 : Int32) (x2 : Int32) (x3 : Int32) (y0 : Int32) (y1 : Int32) (g : c_G), fX11_judge_115 rec55 a1 a2 x1 x2 x3 y0 y1 g = some r → ∀ (H : Heap) (locs : List Loc), va_P D vwCl (c_ws tc ad TC g) H → va_S A s.heap H locs → ∀ ls : Array Slot, lv_has ls 4 [(0, .ref (ad 0)), (1, .int x1), (2, .int x2), (3, .int x3)] → W p l e (c_rm 1) s m ([.ref (ad 0), .int a1, .int a2] : List Value).toArray below meth c H locs 0 0 (MQ below (va_Qi (fun (x : Int32) (_ : Unit) => x = r) (fun _ t => va_P D vwCl (c_ws tc ad TC g) t.heap) A) ([.ref (ad 0), .int a1, .int a2] : List Value).toArray s 0 0 A) (F0 m 115 ls [.int y1, .int y0]) := by
  obtain ⟨hx, hb, hr, hml, hts, hown, hlk, hK, hE⟩ := id C
  intro x1 x2 x3 y0 y1 g hf H locs hP hS ls hl
  unfold fX11_judge_115 at hf
  refine lv_icmp_eq (tgt := 120) hx hb dX11_judge_115 (by decide) (fun c115001 => ?_) (fun c115001 => ?_)
  · have hf := c_it c115001 hf
    obtain ⟨v115002, ev115002, hf⟩ := c_letE hf
    refine lv_iinc (v := v115002) (lv' := [(3, .int v115002), (0, .ref (ad 0)), (1, .int x1), (2, .int x2)]) hx hb dX11_judge_120 hl (k := 3) rfl (by rw [ev115002]; rfl) (by decide) rfl (fun ls hl => ?_)
    refine lv_goto (tgt := 55) hx hb dX11_judge_123 (by decide) ?_
    exact hrec55 x1 x2 v115002 g hf _ _ hP hS _ (lv_sub hl [1, 2, 3, 0] rfl)
  · have hf := c_ie c115001 hf
    refine lv_iload_n hx hb dX11_judge_118 rfl (lv_at hl 3 rfl) ?_
    exact c_iret hx hb hr hlk hP hS rfl ⟨rfl, Option.some.inj hf⟩ dX11_judge_119
def fX11_judge_95 (rec55 : Int32 → Int32 → Int32 → c_G → Option (Int32)) (a1 : Int32) (a2 : Int32) (x1 : Int32) (x2 : Int32) (x3 : Int32) (y0 : Int32) (g : c_G) : Option (Int32) :=
  if c_in (x1) (6) = true then if c_in ((x2 + x3)) (60) = true then if (lg_cmp (g.2.1 (13 + (x1).toNatClampNeg) ((x2 + x3)).toNatClampNeg) (1 : Int64)) = 0 then (fX11_judge_115 rec55 a1 a2 x1 x2 x3 y0 ((1 : Int32)) g) else (fX11_judge_115 rec55 a1 a2 x1 x2 x3 y0 ((0 : Int32)) g) else none else none
set_option maxRecDepth 100000 in
set_option maxHeartbeats 4000000 in
theorem jX11_judge_95 {p : Program} {l : Launch} {e : Env} {s : State} {m : MethodId} {below : List Frame} {meth : Method} {c : Code} {D : va_G} {tc : Nat → ClassId} {ad : Nat → Nat} {A : Nat → Prop} {E : (Nat → Nat) × (Nat → Nat) × Nat} {a1 : Int32} {a2 : Int32} {r : Int32} (C : c_C p s m meth c D tc A E RX11 wsX11_judge cX11_judge 4 (some .int) ([.ref (ad 0), .int a1, .int a2] : List Value).toArray) (hD : c_D A ad TC) {rec55 : Int32 → Int32 → Int32 → c_G → Option (Int32)} (hrec55 : ∀ (x1 : Int32) (x2 : Int32) (x3 : Int32) (g : c_G), rec55 x1 x2 x3 g = some r → ∀ (H : Heap) (locs : List Loc), va_P D vwCl (c_ws tc ad TC g) H → va_S A s.heap H locs → ∀ ls : Array Slot, lv_has ls 4 [(0, .ref (ad 0)), (1, .int x1), (2, .int x2), (3, .int x3)] → W p l e (c_rm 1) s m ([.ref (ad 0), .int a1, .int a2] : List Value).toArray below meth c H locs 0 0 (MQ below (va_Qi (fun (x : Int32) (_ : Unit) => x = r) (fun _ t => va_P D vwCl (c_ws tc ad TC g) t.heap) A) ([.ref (ad 0), .int a1, .int a2] : List Value).toArray s 0 0 A) (F0 m 55 ls [])) : ∀ (x1 : Int32) (x2 : Int32) (x3 : Int32) (y0 : Int32) (g : c_G), fX11_judge_95 rec55 a1 a2 x1 x2 x3 y0 g = some r → ∀ (H : Heap) (locs : List Loc), va_P D vwCl (c_ws tc ad TC g) H → va_S A s.heap H locs → ∀ ls : Array Slot, lv_has ls 4 [(0, .ref (ad 0)), (1, .int x1), (2, .int x2), (3, .int x3)] → W p l e (c_rm 1) s m ([.ref (ad 0), .int a1, .int a2] : List Value).toArray below meth c H locs 0 0 (MQ below (va_Qi (fun (x : Int32) (_ : Unit) => x = r) (fun _ t => va_P D vwCl (c_ws tc ad TC g) t.heap) A) ([.ref (ad 0), .int a1, .int a2] : List Value).toArray s 0 0 A) (F0 m 95 ls [.int y0]) := by
  obtain ⟨hx, hb, hr, hml, hts, hown, hlk, hK, hE⟩ := id C
  intro x1 x2 x3 y0 g hf H locs hP hS ls hl
  unfold fX11_judge_95 at hf
  refine lv_aload_n hx hb dX11_judge_95 rfl (lv_at hl 0 rfl) ?_
  refine c_get hx hb hts i_X11_judge_X11 hown hK hP 0 tC0 rfl 18 (by decide) (hts _ (List.mem_of_getElem? (i := 5) rfl)) (fun _ h9 => h9) rfl (v := .ref (ad 12)) rfl dX11_judge_96 ?_
  refine lv_iload_n hx hb dX11_judge_99 rfl (lv_at hl 1 rfl) ?_
  obtain ⟨hi95001, hf⟩ := c_gd hf
  refine c_aald7 hx hb hK hP 12 tC12 (c_inV hi95001) (y := (13 + (x1).toNatClampNeg)) (c_tA (c_iN hi95001)) dX11_judge_100 ?_
  refine lv_iload_n hx hb dX11_judge_101 rfl (lv_at hl 2 rfl) ?_
  refine lv_iload_n hx hb dX11_judge_102 rfl (lv_at hl 3 rfl) ?_
  refine lv_iadd hx hb dX11_judge_103 ?_
  obtain ⟨hi95002, hf⟩ := c_gd hf
  refine c_lald (j := ((x2 + x3)).toNatClampNeg) hx hb hK hP (13 + (x1).toNatClampNeg) (c_tB (c_iN hi95001)) rfl (c_inV hi95002) dX11_judge_104 ?_
  refine lv_lconst (v := (1 : Int64)) hx hb dX11_judge_105 (by decide) ?_
  refine W.lcmp hx hb dX11_judge_106 ?_
  refine lv_if_ne (tgt := 114) hx hb dX11_judge_107 (by decide) (fun c95003 => ?_) (fun c95003 => ?_)
  · have hf := c_ie c95003 hf
    refine lv_iconst (v := (0 : Int32)) hx hb dX11_judge_114 (by decide) ?_
    exact jX11_judge_115 C hD hrec55 x1 x2 x3 y0 ((0 : Int32)) g hf _ _ hP hS _ (lv_sub hl [0, 1, 2, 3] rfl)
  · have hf := c_it c95003 hf
    refine lv_iconst (v := (1 : Int32)) hx hb dX11_judge_110 (by decide) ?_
    refine lv_goto (tgt := 115) hx hb dX11_judge_111 (by decide) ?_
    exact jX11_judge_115 C hD hrec55 x1 x2 x3 y0 ((1 : Int32)) g hf _ _ hP hS _ (lv_sub hl [0, 1, 2, 3] rfl)
def fX11_judge_55  (a1 : Int32) (a2 : Int32) : Nat → Int32 → Int32 → Int32 → c_G → Option (Int32)
  | 0, _, _, _, _ => none
  | n + 1, x1, x2, x3, g => if (6 : Int32) ≤ x3 then (some (-5 : Int32)) else (if c_in (x1) (6) = true then if (x2 + x3) < (g.1 11 (x1).toNatClampNeg) then (if c_in (x3) (6) = true then if (g.1 57 (x3).toNatClampNeg) < 0 then (fX11_judge_95 (fX11_judge_55 a1 a2 n) a1 a2 x1 x2 x3 ((0 : Int32)) g) else (fX11_judge_95 (fX11_judge_55 a1 a2 n) a1 a2 x1 x2 x3 ((1 : Int32)) g) else none) else (some ((100 : Int32) + x3)) else none)
set_option maxRecDepth 100000 in
set_option maxHeartbeats 4000000 in
theorem jX11_judge_55 {p : Program} {l : Launch} {e : Env} {s : State} {m : MethodId} {below : List Frame} {meth : Method} {c : Code} {D : va_G} {tc : Nat → ClassId} {ad : Nat → Nat} {A : Nat → Prop} {E : (Nat → Nat) × (Nat → Nat) × Nat} {a1 : Int32} {a2 : Int32} {r : Int32} (C : c_C p s m meth c D tc A E RX11 wsX11_judge cX11_judge 4 (some .int) ([.ref (ad 0), .int a1, .int a2] : List Value).toArray) (hD : c_D A ad TC)  : ∀ (n : Nat) (x1 : Int32) (x2 : Int32) (x3 : Int32) (g : c_G), fX11_judge_55 a1 a2 n x1 x2 x3 g = some r → ∀ (H : Heap) (locs : List Loc), va_P D vwCl (c_ws tc ad TC g) H → va_S A s.heap H locs → ∀ ls : Array Slot, lv_has ls 4 [(0, .ref (ad 0)), (1, .int x1), (2, .int x2), (3, .int x3)] → W p l e (c_rm 1) s m ([.ref (ad 0), .int a1, .int a2] : List Value).toArray below meth c H locs 0 0 (MQ below (va_Qi (fun (x : Int32) (_ : Unit) => x = r) (fun _ t => va_P D vwCl (c_ws tc ad TC g) t.heap) A) ([.ref (ad 0), .int a1, .int a2] : List Value).toArray s 0 0 A) (F0 m 55 ls []) := by
  obtain ⟨hx, hb, hr, hml, hts, hown, hlk, hK, hE⟩ := id C
  intro n
  induction n with
  | zero =>
    intro x1 x2 x3 g hf
    cases hf
  | succ n ih =>
    intro x1 x2 x3 g hf H locs hP hS ls hl
    unfold fX11_judge_55 at hf
    refine lv_iload_n hx hb dX11_judge_55 rfl (lv_at hl 3 rfl) ?_
    refine lv_bipush (v := (6 : Int32)) hx hb dX11_judge_56 (by decide) ?_
    refine lv_icmp_ge (tgt := 126) hx hb dX11_judge_58 (by decide) (fun c55001 => ?_) (fun c55001 => ?_)
    · have hf := c_it c55001 hf
      refine lv_bipush (v := (-5 : Int32)) hx hb dX11_judge_126 (by decide) ?_
      exact c_iret hx hb hr hlk hP hS rfl ⟨rfl, Option.some.inj hf⟩ dX11_judge_128
    · have hf := c_ie c55001 hf
      refine lv_iload_n hx hb dX11_judge_61 rfl (lv_at hl 2 rfl) ?_
      refine lv_iload_n hx hb dX11_judge_62 rfl (lv_at hl 3 rfl) ?_
      refine lv_iadd hx hb dX11_judge_63 ?_
      refine lv_aload_n hx hb dX11_judge_64 rfl (lv_at hl 0 rfl) ?_
      refine c_get hx hb hts i_X11_judge_X11 hown hK hP 0 tC0 rfl 17 (by decide) (hts _ (List.mem_of_getElem? (i := 2) rfl)) (fun _ h9 => h9) rfl (v := .ref (ad 11)) rfl dX11_judge_65 ?_
      refine lv_iload_n hx hb dX11_judge_68 rfl (lv_at hl 1 rfl) ?_
      obtain ⟨hi55002, hf⟩ := c_gd hf
      refine c_iald (j := (x1).toNatClampNeg) hx hb hK hP 11 tC11 rfl (c_inV hi55002) dX11_judge_69 ?_
      refine lv_icmp_lt (tgt := 78) hx hb dX11_judge_70 (by decide) (fun c55003 => ?_) (fun c55003 => ?_)
      · have hf := c_it c55003 hf
        refine lv_aload_n hx hb dX11_judge_78 rfl (lv_at hl 0 rfl) ?_
        refine c_get hx hb hts i_X11_judge_X11 hown hK hP 0 tC0 rfl 5 (by decide) (hts _ (List.mem_of_getElem? (i := 3) rfl)) (fun _ h9 => h9) rfl (v := .ref (ad 55)) rfl dX11_judge_79 ?_
        refine c_get hx hb hts i_X11_judge_X7 hown hK hP 55 tC55 rfl 1 (by decide) (hts _ (List.mem_of_getElem? (i := 4) rfl)) (fun _ h9 => h9) rfl (v := .ref (ad 57)) rfl dX11_judge_82 ?_
        refine lv_iload_n hx hb dX11_judge_85 rfl (lv_at hl 3 rfl) ?_
        obtain ⟨hi55004, hf⟩ := c_gd hf
        refine c_iald (j := (x3).toNatClampNeg) hx hb hK hP 57 tC57 rfl (c_inV hi55004) dX11_judge_86 ?_
        refine lv_if_lt (tgt := 94) hx hb dX11_judge_87 (by decide) (fun c55005 => ?_) (fun c55005 => ?_)
        · have hf := c_it c55005 hf
          refine lv_iconst (v := (0 : Int32)) hx hb dX11_judge_94 (by decide) ?_
          exact jX11_judge_95 C hD ih x1 x2 x3 ((0 : Int32)) g hf _ _ hP hS _ (lv_sub hl [0, 1, 2, 3] rfl)
        · have hf := c_ie c55005 hf
          refine lv_iconst (v := (1 : Int32)) hx hb dX11_judge_90 (by decide) ?_
          refine lv_goto (tgt := 95) hx hb dX11_judge_91 (by decide) ?_
          exact jX11_judge_95 C hD ih x1 x2 x3 ((1 : Int32)) g hf _ _ hP hS _ (lv_sub hl [0, 1, 2, 3] rfl)
      · have hf := c_ie c55003 hf
        refine lv_bipush (v := (100 : Int32)) hx hb dX11_judge_73 (by decide) ?_
        refine lv_iload_n hx hb dX11_judge_75 rfl (lv_at hl 3 rfl) ?_
        refine lv_iadd hx hb dX11_judge_76 ?_
        exact c_iret hx hb hr hlk hP hS rfl ⟨rfl, Option.some.inj hf⟩ dX11_judge_77
def fX11_judge (g : c_G) (a1 : Int32) (a2 : Int32) : Option (Int32) :=
  if (fX11_isTape a1) = 0 then (some (-1 : Int32)) else (if c_in (a1) (6) = true then if (g.1 10 (a1).toNatClampNeg) = (-5 : Int32) then (some (100 : Int32)) else (if (g.1 10 (a1).toNatClampNeg) = (4 : Int32) then (if a2 < 0 then (some (100 : Int32)) else (if a2 ≤ (g.1 11 (a1).toNatClampNeg) then (fX11_judge_55 a1 a2 c_F a1 a2 ((0 : Int32)) g) else (some (100 : Int32)))) else (some (-12 : Int32))) else none)
set_option maxRecDepth 100000 in
set_option maxHeartbeats 4000000 in
theorem kX11_judge {l : Launch} {D : va_G} {tc : Nat → ClassId} {ad : Nat → Nat} {A : Nat → Prop} {E : (Nat → Nat) × (Nat → Nat) × Nat} (hD : c_D A ad TC) {a1 : Int32} {a2 : Int32} {g : c_G} {r : Int32} (hf : fX11_judge g a1 a2 = some r) : c_Mi l yX11_judge wsX11_judge (c_rm 1) D tc ad A E TC ([.ref (ad 0), .int a1, .int a2] : List Value) g g r := by
  refine c_ofW (bytes := cX11_judge) (maxL := 4) (ret := (some .int)) (by decide) rfl (Nat.le_of_ble_eq_true rfl) ?_
  intro p e s m below meth c ls C hP hS hl
  unfold fX11_judge at hf
  obtain ⟨hx, hb, hr, hml, hts, hown, hlk, hK, hE⟩ := id C
  have hl : lv_has ls 4 [(0, .ref (ad 0)), (1, .int a1), (2, .int a2)] := hl
  refine lv_iload_n hx hb dX11_judge_0 rfl (lv_at hl 1 rfl) ?_
  refine c_goi (va_runS (As := [.int a1]) (rest := []) ⟨hx, hb, hml, hown, hts⟩ (kX11_isTape (T := TC) (g := g) rfl) (va_cwS 1 hts gX11_judge_X11_isTape rfl rfl rfl (by decide +kernel) ⟨Nat.le_of_ble_eq_true rfl, Nat.le_of_ble_eq_true rfl⟩) (c_preS hK hP hE hS) rfl rfl hl.1 rfl (lv_room (Nat.le_of_ble_eq_true rfl)) dX11_judge_1 ⟨Nat.zero_le _, Nat.zero_le _⟩) hS (fun H locs hP hS => ?_)
  refine lv_if_ne (tgt := 9) hx hb dX11_judge_4 (by decide) (fun c1 => ?_) (fun c1 => ?_)
  · have hf := c_ie c1 hf
    refine lv_aload_n hx hb dX11_judge_9 rfl (lv_at hl 0 rfl) ?_
    refine c_get hx hb hts i_X11_judge_X11 hown hK hP 0 tC0 rfl 16 (by decide) (hts _ (List.mem_of_getElem? (i := 1) rfl)) (fun _ h9 => h9) rfl (v := .ref (ad 10)) rfl dX11_judge_10 ?_
    refine lv_iload_n hx hb dX11_judge_13 rfl (lv_at hl 1 rfl) ?_
    obtain ⟨hi2, hf⟩ := c_gd hf
    refine c_iald (j := (a1).toNatClampNeg) hx hb hK hP 10 tC10 rfl (c_inV hi2) dX11_judge_14 ?_
    refine lv_bipush (v := (-5 : Int32)) hx hb dX11_judge_15 (by decide) ?_
    refine lv_icmp_ne (tgt := 23) hx hb dX11_judge_17 (by decide) (fun c3 => ?_) (fun c3 => ?_)
    · have hf := c_ie c3 hf
      refine lv_aload_n hx hb dX11_judge_23 rfl (lv_at hl 0 rfl) ?_
      refine c_get hx hb hts i_X11_judge_X11 hown hK hP 0 tC0 rfl 16 (by decide) (hts _ (List.mem_of_getElem? (i := 1) rfl)) (fun _ h9 => h9) rfl (v := .ref (ad 10)) rfl dX11_judge_24 ?_
      refine lv_iload_n hx hb dX11_judge_27 rfl (lv_at hl 1 rfl) ?_
      refine c_iald (j := (a1).toNatClampNeg) hx hb hK hP 10 tC10 rfl (c_inV hi2) dX11_judge_28 ?_
      refine lv_iconst (v := (4 : Int32)) hx hb dX11_judge_29 (by decide) ?_
      refine lv_icmp_eq (tgt := 36) hx hb dX11_judge_30 (by decide) (fun c4 => ?_) (fun c4 => ?_)
      · have hf := c_it c4 hf
        refine lv_iload_n hx hb dX11_judge_36 rfl (lv_at hl 2 rfl) ?_
        refine lv_if_lt (tgt := 50) hx hb dX11_judge_37 (by decide) (fun c5 => ?_) (fun c5 => ?_)
        · have hf := c_it c5 hf
          refine lv_bipush (v := (100 : Int32)) hx hb dX11_judge_50 (by decide) ?_
          exact c_iret hx hb hr hlk hP hS rfl ⟨rfl, Option.some.inj hf⟩ dX11_judge_52
        · have hf := c_ie c5 hf
          refine lv_iload_n hx hb dX11_judge_40 rfl (lv_at hl 2 rfl) ?_
          refine lv_aload_n hx hb dX11_judge_41 rfl (lv_at hl 0 rfl) ?_
          refine c_get hx hb hts i_X11_judge_X11 hown hK hP 0 tC0 rfl 17 (by decide) (hts _ (List.mem_of_getElem? (i := 2) rfl)) (fun _ h9 => h9) rfl (v := .ref (ad 11)) rfl dX11_judge_42 ?_
          refine lv_iload_n hx hb dX11_judge_45 rfl (lv_at hl 1 rfl) ?_
          refine c_iald (j := (a1).toNatClampNeg) hx hb hK hP 11 tC11 rfl (c_inV hi2) dX11_judge_46 ?_
          refine lv_icmp_le (tgt := 53) hx hb dX11_judge_47 (by decide) (fun c6 => ?_) (fun c6 => ?_)
          · have hf := c_it c6 hf
            refine lv_iconst (v := (0 : Int32)) hx hb dX11_judge_53 (by decide) ?_
            refine lv_istore_n (lv' := [(3, .int (0 : Int32)), (0, .ref (ad 0)), (1, .int a1), (2, .int a2)]) hx hb dX11_judge_54 rfl hl (by decide) rfl (fun ls hl => ?_)
            exact jX11_judge_55 C hD c_F a1 a2 ((0 : Int32)) g hf _ _ hP hS _ (lv_sub hl [1, 2, 3, 0] rfl)
          · have hf := c_ie c6 hf
            refine lv_bipush (v := (100 : Int32)) hx hb dX11_judge_50 (by decide) ?_
            exact c_iret hx hb hr hlk hP hS rfl ⟨rfl, Option.some.inj hf⟩ dX11_judge_52
      · have hf := c_ie c4 hf
        refine lv_bipush (v := (-12 : Int32)) hx hb dX11_judge_33 (by decide) ?_
        exact c_iret hx hb hr hlk hP hS rfl ⟨rfl, Option.some.inj hf⟩ dX11_judge_35
    · have hf := c_it c3 hf
      refine lv_bipush (v := (100 : Int32)) hx hb dX11_judge_20 (by decide) ?_
      exact c_iret hx hb hr hlk hP hS rfl ⟨rfl, Option.some.inj hf⟩ dX11_judge_22
  · have hf := c_it c1 hf
    refine lv_iconst (v := (-1 : Int32)) hx hb dX11_judge_7 (by decide) ?_
    exact c_iret hx hb hr hlk hP hS rfl ⟨rfl, Option.some.inj hf⟩ dX11_judge_8
theorem i_X11_image_X7 : ∀ w ∈ u_ws RX7 TX7 17, w ∈ wsX11_image := c_inP [60, 61, 62, 63, 64, 65, 66, 67, 68, 69, 70, 71, 72, 73, 74, 75, 76] (by decide +kernel)
theorem i_X11_image_X11 : ∀ w ∈ u_ws RX11 TX11 19, w ∈ wsX11_image := c_inP [41, 42, 43, 44, 45, 46, 47, 48, 49, 50, 51, 52, 53, 54, 55, 56, 57, 58, 59] (by decide +kernel)
theorem dX11_image_0 : decode cX11_image 0 = .ok (.aload_n 0, 1) := by decide +kernel
theorem dX11_image_1 : decode cX11_image 1 = .ok (.getfield 90, 3) := by decide +kernel
theorem dX11_image_4 : decode cX11_image 4 = .ok (.aload_n 0, 1) := by decide +kernel
theorem dX11_image_5 : decode cX11_image 5 = .ok (.getfield 86, 3) := by decide +kernel
theorem dX11_image_8 : decode cX11_image 8 = .ok (.invokevirtual 223, 3) := by decide +kernel
theorem dX11_image_11 : decode cX11_image 11 = .ok (.aload_n 0, 1) := by decide +kernel
theorem dX11_image_12 : decode cX11_image 12 = .ok (.iconst 1, 1) := by decide +kernel
theorem dX11_image_13 : decode cX11_image 13 = .ok (.putfield 281, 3) := by decide +kernel
theorem dX11_image_16 : decode cX11_image 16 = .ok (.aload_n 0, 1) := by decide +kernel
theorem dX11_image_17 : decode cX11_image 17 = .ok (.getfield 86, 3) := by decide +kernel
theorem dX11_image_20 : decode cX11_image 20 = .ok (.getfield 109, 3) := by decide +kernel
theorem dX11_image_23 : decode cX11_image 23 = .ok (.ireturn, 1) := by decide +kernel
set_option maxRecDepth 20000 in
theorem ggX11_image_X7_copyFrom : GoodIn wsX11_image wsX7_copyFrom := goodIn_r _ [9, 10, 11, 12, 13, 14, 15, 16, 17, 18, 19, 20, 21, 22, 23, 24, 25, 26, 27, 28, 29, 30, 31, 32, 33, 34, 35, 36, 37, 38, 39, 40, 60, 61, 62, 63, 64, 65, 66, 67, 68, 69, 70, 71, 72, 73, 74, 75, 76, 77, 78, 79, 80] (by decide +kernel) (by decide +kernel)
set_option maxRecDepth 20000 in
theorem gX11_image_X7_copyFrom : GoodIn wsX11_image (wsV RX11 223 RX7 yX7_copyFrom wsX7_copyFrom) := goodIn_app (goodIn_of _ (by decide +kernel)) ggX11_image_X7_copyFrom
def fX11_image (g : c_G)  : Option (c_G × Int32) :=
  (fX7_copyFrom g 78 55).bind fun g2 => c_let (c_si g2 0 8 (1 : Int32)) fun g3 => some (g3, (g3.1 55 6))
set_option maxRecDepth 100000 in
set_option maxHeartbeats 4000000 in
theorem kX11_image {l : Launch} {D : va_G} {tc : Nat → ClassId} {ad : Nat → Nat} {A : Nat → Prop} {E : (Nat → Nat) × (Nat → Nat) × Nat} (hD : c_D A ad TC)  {g g' : c_G} {r : Int32} (hf : fX11_image g  = some (g', r)) : c_Mi l yX11_image wsX11_image (c_rm 3) D tc ad A E TC ([.ref (ad 0)] : List Value) g g' r := by
  refine c_ofW (bytes := cX11_image) (maxL := 1) (ret := (some .int)) (by decide) rfl (Nat.le_of_ble_eq_true rfl) ?_
  intro p e s m below meth c ls C hP hS hl
  unfold fX11_image at hf
  obtain ⟨hx, hb, hr, hml, hts, hown, hlk, hK, hE⟩ := id C
  have hl : lv_has ls 1 [(0, .ref (ad 0))] := hl
  refine lv_aload_n hx hb dX11_image_0 rfl (lv_at hl 0 rfl) ?_
  refine c_get hx hb hts i_X11_image_X11 hown hK hP 0 tC0 rfl 6 (by decide) (hts _ (List.mem_of_getElem? (i := 1) rfl)) (fun _ h9 => h9) rfl (v := .ref (ad 78)) rfl dX11_image_1 ?_
  refine lv_aload_n hx hb dX11_image_4 rfl (lv_at hl 0 rfl) ?_
  refine c_get hx hb hts i_X11_image_X11 hown hK hP 0 tC0 rfl 5 (by decide) (hts _ (List.mem_of_getElem? (i := 2) rfl)) (fun _ h9 => h9) rfl (v := .ref (ad 55)) rfl dX11_image_5 ?_
  obtain ⟨g2, hc1, hf⟩ := c_bd hf
  refine c_gov (va_runV (As := [.ref (ad 55)]) (rest := []) ⟨hx, hb, hml, hown, hts⟩ (kX7_copyFrom hD hc1) (cwV 1 hts gX11_image_X7_copyFrom rfl rfl rfl (by decide +kernel) ⟨Nat.le_of_ble_eq_true rfl, Nat.le_of_ble_eq_true rfl⟩) (c_preV hK hP hE hS tC78 rfl) rfl rfl hl.1 rfl (lv_room (Nat.le_of_ble_eq_true rfl)) dX11_image_8 ⟨Nat.zero_le _, Nat.zero_le _⟩) hS (fun H locs hP hS => ?_)
  refine lv_aload_n hx hb dX11_image_11 rfl (lv_at hl 0 rfl) ?_
  refine lv_iconst (v := (1 : Int32)) hx hb dX11_image_12 (by decide) ?_
  obtain ⟨g3, eg3, hf⟩ := c_letE hf
  refine c_put hx hb hts i_X11_image_X11 tyX11 tyX11_ok nmX11 hown hK hP hD hS 0 tC0 rfl 8 (by decide) (hts _ (List.mem_of_getElem? (i := 3) rfl)) (fun _ h9 => h9) rfl (ty := .boolean) (by decide +kernel) rfl rfl rfl eg3 dX11_image_13 (fun H locs hP hS => ?_)
  refine lv_aload_n hx hb dX11_image_16 rfl (lv_at hl 0 rfl) ?_
  refine c_get hx hb hts i_X11_image_X11 hown hK hP 0 tC0 rfl 5 (by decide) (hts _ (List.mem_of_getElem? (i := 2) rfl)) (fun _ h9 => h9) rfl (v := .ref (ad 55)) rfl dX11_image_17 ?_
  refine c_get hx hb hts i_X11_image_X7 hown hK hP 55 tC55 rfl 6 (by decide) (hts _ (List.mem_of_getElem? (i := 4) rfl)) (fun _ h9 => h9) rfl (v := .int (g3.1 55 6)) rfl dX11_image_20 ?_
  exact c_iret hx hb hr hlk hP hS rfl (c_inj hf) dX11_image_23
theorem i_X11_undo_X7 : ∀ w ∈ u_ws RX7 TX7 17, w ∈ wsX11_undo := c_inP [60, 61, 62, 63, 64, 65, 66, 67, 68, 69, 70, 71, 72, 73, 74, 75, 76] (by decide +kernel)
theorem i_X11_undo_X11 : ∀ w ∈ u_ws RX11 TX11 19, w ∈ wsX11_undo := c_inP [41, 42, 43, 44, 45, 46, 47, 48, 49, 50, 51, 52, 53, 54, 55, 56, 57, 58, 59] (by decide +kernel)
theorem dX11_undo_0 : decode cX11_undo 0 = .ok (.aload_n 0, 1) := by decide +kernel
theorem dX11_undo_1 : decode cX11_undo 1 = .ok (.getfield 281, 3) := by decide +kernel
theorem dX11_undo_4 : decode cX11_undo 4 = .ok (.ifCond .ne 6, 3) := by decide +kernel
theorem dX11_undo_7 : decode cX11_undo 7 = .ok (.bipush (-3), 2) := by decide +kernel
theorem dX11_undo_9 : decode cX11_undo 9 = .ok (.ireturn, 1) := by decide +kernel
theorem dX11_undo_10 : decode cX11_undo 10 = .ok (.aload_n 0, 1) := by decide +kernel
theorem dX11_undo_11 : decode cX11_undo 11 = .ok (.getfield 86, 3) := by decide +kernel
theorem dX11_undo_14 : decode cX11_undo 14 = .ok (.aload_n 0, 1) := by decide +kernel
theorem dX11_undo_15 : decode cX11_undo 15 = .ok (.getfield 90, 3) := by decide +kernel
theorem dX11_undo_18 : decode cX11_undo 18 = .ok (.invokevirtual 223, 3) := by decide +kernel
theorem dX11_undo_21 : decode cX11_undo 21 = .ok (.aload_n 0, 1) := by decide +kernel
theorem dX11_undo_22 : decode cX11_undo 22 = .ok (.getfield 86, 3) := by decide +kernel
theorem dX11_undo_25 : decode cX11_undo 25 = .ok (.getfield 109, 3) := by decide +kernel
theorem dX11_undo_28 : decode cX11_undo 28 = .ok (.ireturn, 1) := by decide +kernel
set_option maxRecDepth 20000 in
theorem ggX11_undo_X7_copyFrom : GoodIn wsX11_undo wsX7_copyFrom := goodIn_r _ [9, 10, 11, 12, 13, 14, 15, 16, 17, 18, 19, 20, 21, 22, 23, 24, 25, 26, 27, 28, 29, 30, 31, 32, 33, 34, 35, 36, 37, 38, 39, 40, 60, 61, 62, 63, 64, 65, 66, 67, 68, 69, 70, 71, 72, 73, 74, 75, 76, 77, 78, 79, 80] (by decide +kernel) (by decide +kernel)
set_option maxRecDepth 20000 in
theorem gX11_undo_X7_copyFrom : GoodIn wsX11_undo (wsV RX11 223 RX7 yX7_copyFrom wsX7_copyFrom) := goodIn_app (goodIn_of _ (by decide +kernel)) ggX11_undo_X7_copyFrom
def fX11_undo (g : c_G)  : Option (c_G × Int32) :=
  if (g.1 0 8) = 0 then (some (g, (-3 : Int32))) else ((fX7_copyFrom g 55 78).bind fun g3 => some (g3, (g3.1 55 6)))
set_option maxRecDepth 100000 in
set_option maxHeartbeats 4000000 in
theorem kX11_undo {l : Launch} {D : va_G} {tc : Nat → ClassId} {ad : Nat → Nat} {A : Nat → Prop} {E : (Nat → Nat) × (Nat → Nat) × Nat} (hD : c_D A ad TC)  {g g' : c_G} {r : Int32} (hf : fX11_undo g  = some (g', r)) : c_Mi l yX11_undo wsX11_undo (c_rm 3) D tc ad A E TC ([.ref (ad 0)] : List Value) g g' r := by
  refine c_ofW (bytes := cX11_undo) (maxL := 1) (ret := (some .int)) (by decide) rfl (Nat.le_of_ble_eq_true rfl) ?_
  intro p e s m below meth c ls C hP hS hl
  unfold fX11_undo at hf
  obtain ⟨hx, hb, hr, hml, hts, hown, hlk, hK, hE⟩ := id C
  have hl : lv_has ls 1 [(0, .ref (ad 0))] := hl
  refine lv_aload_n hx hb dX11_undo_0 rfl (lv_at hl 0 rfl) ?_
  refine c_get hx hb hts i_X11_undo_X11 hown hK hP 0 tC0 rfl 8 (by decide) (hts _ (List.mem_of_getElem? (i := 1) rfl)) (fun _ h9 => h9) rfl (v := .int (g.1 0 8)) rfl dX11_undo_1 ?_
  refine lv_if_ne (tgt := 10) hx hb dX11_undo_4 (by decide) (fun c1 => ?_) (fun c1 => ?_)
  · have hf := c_ie c1 hf
    refine lv_aload_n hx hb dX11_undo_10 rfl (lv_at hl 0 rfl) ?_
    refine c_get hx hb hts i_X11_undo_X11 hown hK hP 0 tC0 rfl 5 (by decide) (hts _ (List.mem_of_getElem? (i := 2) rfl)) (fun _ h9 => h9) rfl (v := .ref (ad 55)) rfl dX11_undo_11 ?_
    refine lv_aload_n hx hb dX11_undo_14 rfl (lv_at hl 0 rfl) ?_
    refine c_get hx hb hts i_X11_undo_X11 hown hK hP 0 tC0 rfl 6 (by decide) (hts _ (List.mem_of_getElem? (i := 3) rfl)) (fun _ h9 => h9) rfl (v := .ref (ad 78)) rfl dX11_undo_15 ?_
    obtain ⟨g3, hc2, hf⟩ := c_bd hf
    refine c_gov (va_runV (As := [.ref (ad 78)]) (rest := []) ⟨hx, hb, hml, hown, hts⟩ (kX7_copyFrom hD hc2) (cwV 1 hts gX11_undo_X7_copyFrom rfl rfl rfl (by decide +kernel) ⟨Nat.le_of_ble_eq_true rfl, Nat.le_of_ble_eq_true rfl⟩) (c_preV hK hP hE hS tC55 rfl) rfl rfl hl.1 rfl (lv_room (Nat.le_of_ble_eq_true rfl)) dX11_undo_18 ⟨Nat.zero_le _, Nat.zero_le _⟩) hS (fun H locs hP hS => ?_)
    refine lv_aload_n hx hb dX11_undo_21 rfl (lv_at hl 0 rfl) ?_
    refine c_get hx hb hts i_X11_undo_X11 hown hK hP 0 tC0 rfl 5 (by decide) (hts _ (List.mem_of_getElem? (i := 2) rfl)) (fun _ h9 => h9) rfl (v := .ref (ad 55)) rfl dX11_undo_22 ?_
    refine c_get hx hb hts i_X11_undo_X7 hown hK hP 55 tC55 rfl 6 (by decide) (hts _ (List.mem_of_getElem? (i := 4) rfl)) (fun _ h9 => h9) rfl (v := .int (g3.1 55 6)) rfl dX11_undo_25 ?_
    exact c_iret hx hb hr hlk hP hS rfl (c_inj hf) dX11_undo_28
  · have hf := c_it c1 hf
    refine lv_bipush (v := (-3 : Int32)) hx hb dX11_undo_7 (by decide) ?_
    exact c_iret hx hb hr hlk hP hS rfl (c_inj hf) dX11_undo_9
theorem i_X11_trace_X0 : ∀ w ∈ u_ws RX0 TX0 4, w ∈ wsX11_trace := c_inP [23, 24, 25, 26] (by decide +kernel)
theorem i_X11_trace_X11 : ∀ w ∈ u_ws RX11 TX11 19, w ∈ wsX11_trace := c_inP [4, 5, 6, 7, 8, 9, 10, 11, 12, 13, 14, 15, 16, 17, 18, 19, 20, 21, 22] (by decide +kernel)
theorem dX11_trace_0 : decode cX11_trace 0 = .ok (.iload_n 1, 1) := by decide +kernel
theorem dX11_trace_1 : decode cX11_trace 1 = .ok (.ifCond .lt 26, 3) := by decide +kernel
theorem dX11_trace_4 : decode cX11_trace 4 = .ok (.iload_n 1, 1) := by decide +kernel
theorem dX11_trace_5 : decode cX11_trace 5 = .ok (.aload_n 0, 1) := by decide +kernel
theorem dX11_trace_6 : decode cX11_trace 6 = .ok (.getfield 40, 3) := by decide +kernel
theorem dX11_trace_9 : decode cX11_trace 9 = .ok (.getfield 285, 3) := by decide +kernel
theorem dX11_trace_12 : decode cX11_trace 12 = .ok (.if_icmp .ge 15, 3) := by decide +kernel
theorem dX11_trace_15 : decode cX11_trace 15 = .ok (.iload_n 1, 1) := by decide +kernel
theorem dX11_trace_16 : decode cX11_trace 16 = .ok (.aload_n 0, 1) := by decide +kernel
theorem dX11_trace_17 : decode cX11_trace 17 = .ok (.getfield 40, 3) := by decide +kernel
theorem dX11_trace_20 : decode cX11_trace 20 = .ok (.getfield 303, 3) := by decide +kernel
theorem dX11_trace_23 : decode cX11_trace 23 = .ok (.arraylength, 1) := by decide +kernel
theorem dX11_trace_24 : decode cX11_trace 24 = .ok (.if_icmp .lt 7, 3) := by decide +kernel
theorem dX11_trace_27 : decode cX11_trace 27 = .ok (.iconst (-1), 1) := by decide +kernel
theorem dX11_trace_28 : decode cX11_trace 28 = .ok (.goto 12, 3) := by decide +kernel
theorem dX11_trace_31 : decode cX11_trace 31 = .ok (.aload_n 0, 1) := by decide +kernel
theorem dX11_trace_32 : decode cX11_trace 32 = .ok (.getfield 40, 3) := by decide +kernel
theorem dX11_trace_35 : decode cX11_trace 35 = .ok (.getfield 303, 3) := by decide +kernel
theorem dX11_trace_38 : decode cX11_trace 38 = .ok (.iload_n 1, 1) := by decide +kernel
theorem dX11_trace_39 : decode cX11_trace 39 = .ok (.iaload, 1) := by decide +kernel
theorem dX11_trace_40 : decode cX11_trace 40 = .ok (.ireturn, 1) := by decide +kernel
def fX11_trace (g : c_G) (a1 : Int32) : Option (Int32) :=
  if a1 < 0 then (some (-1 : Int32)) else (if (g.1 8 2) ≤ a1 then (some (-1 : Int32)) else (if a1 < (20 : Int32) then (if c_in (a1) (20) = true then some (g.1 9 (a1).toNatClampNeg) else none) else (some (-1 : Int32))))
set_option maxRecDepth 100000 in
set_option maxHeartbeats 4000000 in
theorem kX11_trace {l : Launch} {D : va_G} {tc : Nat → ClassId} {ad : Nat → Nat} {A : Nat → Prop} {E : (Nat → Nat) × (Nat → Nat) × Nat} (hD : c_D A ad TC) {a1 : Int32} {g : c_G} {r : Int32} (hf : fX11_trace g a1 = some r) : c_Mi l yX11_trace wsX11_trace (c_rm 0) D tc ad A E TC ([.ref (ad 0), .int a1] : List Value) g g r := by
  refine c_ofW (bytes := cX11_trace) (maxL := 2) (ret := (some .int)) (by decide) rfl (Nat.le_of_ble_eq_true rfl) ?_
  intro p e s m below meth c ls C hP hS hl
  unfold fX11_trace at hf
  obtain ⟨hx, hb, hr, hml, hts, hown, hlk, hK, hE⟩ := id C
  have hl : lv_has ls 2 [(0, .ref (ad 0)), (1, .int a1)] := hl
  refine lv_iload_n hx hb dX11_trace_0 rfl (lv_at hl 1 rfl) ?_
  refine lv_if_lt (tgt := 27) hx hb dX11_trace_1 (by decide) (fun c1 => ?_) (fun c1 => ?_)
  · have hf := c_it c1 hf
    refine lv_iconst (v := (-1 : Int32)) hx hb dX11_trace_27 (by decide) ?_
    refine lv_goto (tgt := 40) hx hb dX11_trace_28 (by decide) ?_
    exact c_iret hx hb hr hlk hP hS rfl ⟨rfl, Option.some.inj hf⟩ dX11_trace_40
  · have hf := c_ie c1 hf
    refine lv_iload_n hx hb dX11_trace_4 rfl (lv_at hl 1 rfl) ?_
    refine lv_aload_n hx hb dX11_trace_5 rfl (lv_at hl 0 rfl) ?_
    refine c_get hx hb hts i_X11_trace_X11 hown hK hP 0 tC0 rfl 15 (by decide) (hts _ (List.mem_of_getElem? (i := 1) rfl)) (fun _ h9 => h9) rfl (v := .ref (ad 8)) rfl dX11_trace_6 ?_
    refine c_get hx hb hts i_X11_trace_X0 hown hK hP 8 tC8 rfl 2 (by decide) (hts _ (List.mem_of_getElem? (i := 2) rfl)) (fun _ h9 => h9) rfl (v := .int (g.1 8 2)) rfl dX11_trace_9 ?_
    refine lv_icmp_ge (tgt := 27) hx hb dX11_trace_12 (by decide) (fun c2 => ?_) (fun c2 => ?_)
    · have hf := c_it c2 hf
      refine lv_iconst (v := (-1 : Int32)) hx hb dX11_trace_27 (by decide) ?_
      refine lv_goto (tgt := 40) hx hb dX11_trace_28 (by decide) ?_
      exact c_iret hx hb hr hlk hP hS rfl ⟨rfl, Option.some.inj hf⟩ dX11_trace_40
    · have hf := c_ie c2 hf
      refine lv_iload_n hx hb dX11_trace_15 rfl (lv_at hl 1 rfl) ?_
      refine lv_aload_n hx hb dX11_trace_16 rfl (lv_at hl 0 rfl) ?_
      refine c_get hx hb hts i_X11_trace_X11 hown hK hP 0 tC0 rfl 15 (by decide) (hts _ (List.mem_of_getElem? (i := 1) rfl)) (fun _ h9 => h9) rfl (v := .ref (ad 8)) rfl dX11_trace_17 ?_
      refine c_get hx hb hts i_X11_trace_X0 hown hK hP 8 tC8 rfl 3 (by decide) (hts _ (List.mem_of_getElem? (i := 3) rfl)) (fun _ h9 => h9) rfl (v := .ref (ad 9)) rfl dX11_trace_20 ?_
      refine c_alen hx hb hK hP 9 tC9 dX11_trace_23 ?_
      refine c_topi (y := (20 : Int32)) (by decide) ?_
      refine lv_icmp_lt (tgt := 31) hx hb dX11_trace_24 (by decide) (fun c3 => ?_) (fun c3 => ?_)
      · have hf := c_it c3 hf
        refine lv_aload_n hx hb dX11_trace_31 rfl (lv_at hl 0 rfl) ?_
        refine c_get hx hb hts i_X11_trace_X11 hown hK hP 0 tC0 rfl 15 (by decide) (hts _ (List.mem_of_getElem? (i := 1) rfl)) (fun _ h9 => h9) rfl (v := .ref (ad 8)) rfl dX11_trace_32 ?_
        refine c_get hx hb hts i_X11_trace_X0 hown hK hP 8 tC8 rfl 3 (by decide) (hts _ (List.mem_of_getElem? (i := 3) rfl)) (fun _ h9 => h9) rfl (v := .ref (ad 9)) rfl dX11_trace_35 ?_
        refine lv_iload_n hx hb dX11_trace_38 rfl (lv_at hl 1 rfl) ?_
        obtain ⟨hi4, hf⟩ := c_gd hf
        refine c_iald (j := (a1).toNatClampNeg) hx hb hK hP 9 tC9 rfl (c_inV hi4) dX11_trace_39 ?_
        exact c_iret hx hb hr hlk hP hS rfl ⟨rfl, Option.some.inj hf⟩ dX11_trace_40
      · have hf := c_ie c3 hf
        refine lv_iconst (v := (-1 : Int32)) hx hb dX11_trace_27 (by decide) ?_
        refine lv_goto (tgt := 40) hx hb dX11_trace_28 (by decide) ?_
        exact c_iret hx hb hr hlk hP hS rfl ⟨rfl, Option.some.inj hf⟩ dX11_trace_40
theorem i_X11_taken_X7 : ∀ w ∈ u_ws RX7 TX7 17, w ∈ wsX11_taken := c_inP [29, 30, 31, 32, 33, 34, 35, 36, 37, 38, 39, 40, 41, 42, 43, 44, 45] (by decide +kernel)
theorem i_X11_taken_X11 : ∀ w ∈ u_ws RX11 TX11 19, w ∈ wsX11_taken := c_inP [10, 11, 12, 13, 14, 15, 16, 17, 18, 19, 20, 21, 22, 23, 24, 25, 26, 27, 28] (by decide +kernel)
theorem dX11_taken_0 : decode cX11_taken 0 = .ok (.iload_n 2, 1) := by decide +kernel
theorem dX11_taken_1 : decode cX11_taken 1 = .ok (.ifCond .lt 9, 3) := by decide +kernel
theorem dX11_taken_4 : decode cX11_taken 4 = .ok (.iload_n 2, 1) := by decide +kernel
theorem dX11_taken_5 : decode cX11_taken 5 = .ok (.bipush 7, 2) := by decide +kernel
theorem dX11_taken_7 : decode cX11_taken 7 = .ok (.if_icmp .lt 6, 3) := by decide +kernel
theorem dX11_taken_10 : decode cX11_taken 10 = .ok (.bipush (-2), 2) := by decide +kernel
theorem dX11_taken_12 : decode cX11_taken 12 = .ok (.ireturn, 1) := by decide +kernel
theorem dX11_taken_13 : decode cX11_taken 13 = .ok (.aload_n 0, 1) := by decide +kernel
theorem dX11_taken_14 : decode cX11_taken 14 = .ok (.iload_n 1, 1) := by decide +kernel
theorem dX11_taken_15 : decode cX11_taken 15 = .ok (.invokevirtual 117, 3) := by decide +kernel
theorem dX11_taken_18 : decode cX11_taken 18 = .ok (.ifCond .ne 6, 3) := by decide +kernel
theorem dX11_taken_21 : decode cX11_taken 21 = .ok (.bipush (-11), 2) := by decide +kernel
theorem dX11_taken_23 : decode cX11_taken 23 = .ok (.ireturn, 1) := by decide +kernel
theorem dX11_taken_24 : decode cX11_taken 24 = .ok (.aload_n 0, 1) := by decide +kernel
theorem dX11_taken_25 : decode cX11_taken 25 = .ok (.getfield 86, 3) := by decide +kernel
theorem dX11_taken_28 : decode cX11_taken 28 = .ok (.getfield 120, 3) := by decide +kernel
theorem dX11_taken_31 : decode cX11_taken 31 = .ok (.iload_n 1, 1) := by decide +kernel
theorem dX11_taken_32 : decode cX11_taken 32 = .ok (.iaload, 1) := by decide +kernel
theorem dX11_taken_33 : decode cX11_taken 33 = .ok (.istore_n 3, 1) := by decide +kernel
theorem dX11_taken_34 : decode cX11_taken 34 = .ok (.iload_n 2, 1) := by decide +kernel
theorem dX11_taken_35 : decode cX11_taken 35 = .ok (.ifCond .eq 17, 3) := by decide +kernel
theorem dX11_taken_38 : decode cX11_taken 38 = .ok (.iload_n 2, 1) := by decide +kernel
theorem dX11_taken_39 : decode cX11_taken 39 = .ok (.iload_n 3, 1) := by decide +kernel
theorem dX11_taken_40 : decode cX11_taken 40 = .ok (.if_icmp .eq 12, 3) := by decide +kernel
theorem dX11_taken_43 : decode cX11_taken 43 = .ok (.iload_n 2, 1) := by decide +kernel
theorem dX11_taken_44 : decode cX11_taken 44 = .ok (.getstatic 306, 3) := by decide +kernel
theorem dX11_taken_47 : decode cX11_taken 47 = .ok (.iload_n 3, 1) := by decide +kernel
theorem dX11_taken_48 : decode cX11_taken 48 = .ok (.iaload, 1) := by decide +kernel
theorem dX11_taken_49 : decode cX11_taken 49 = .ok (.if_icmp .ne 7, 3) := by decide +kernel
theorem dX11_taken_52 : decode cX11_taken 52 = .ok (.iload_n 3, 1) := by decide +kernel
theorem dX11_taken_53 : decode cX11_taken 53 = .ok (.goto 5, 3) := by decide +kernel
theorem dX11_taken_56 : decode cX11_taken 56 = .ok (.bipush (-12), 2) := by decide +kernel
theorem dX11_taken_58 : decode cX11_taken 58 = .ok (.ireturn, 1) := by decide +kernel
set_option maxRecDepth 20000 in
theorem ggX11_taken_X11_isChild : GoodIn wsX11_taken wsX11_isChild := goodIn_r _ [8, 1, 9, 10, 11, 12, 13, 14, 15, 16, 17, 18, 19, 20, 21, 22, 23, 24, 25, 26, 27, 28, 29, 30, 31, 32, 33, 34, 35, 36, 37, 38, 39, 40, 41, 42, 43, 44, 45] (by decide +kernel) (by decide +kernel)
set_option maxRecDepth 20000 in
theorem gX11_taken_X11_isChild : GoodIn wsX11_taken (wsV RX11 117 RX11 yX11_isChild wsX11_isChild) := goodIn_app (goodIn_of _ (by decide +kernel)) ggX11_taken_X11_isChild
def fX11_taken (g : c_G) (a1 : Int32) (a2 : Int32) : Option (Int32) :=
  if a2 < 0 then (some (-2 : Int32)) else (if a2 < (7 : Int32) then ((fX11_isChild g a1).bind fun r3 => if r3 = 0 then (some (-11 : Int32)) else (if c_in (a1) (6) = true then if a2 = 0 then (some (g.1 60 (a1).toNatClampNeg)) else (if a2 = (g.1 60 (a1).toNatClampNeg) then (some (g.1 60 (a1).toNatClampNeg)) else (if c_in ((g.1 60 (a1).toNatClampNeg)) (7) = true then if a2 = (c_abv ((g.1 60 (a1).toNatClampNeg)).toNatClampNeg) then (some (g.1 60 (a1).toNatClampNeg)) else (some (-12 : Int32)) else none)) else none)) else (some (-2 : Int32)))
set_option maxRecDepth 100000 in
set_option maxHeartbeats 4000000 in
theorem kX11_taken {l : Launch} {D : va_G} {tc : Nat → ClassId} {ad : Nat → Nat} {A : Nat → Prop} {E : (Nat → Nat) × (Nat → Nat) × Nat} (hD : c_D A ad TC) {a1 : Int32} {a2 : Int32} {g : c_G} {r : Int32} (hf : fX11_taken g a1 a2 = some r) : c_Mi l yX11_taken wsX11_taken (c_rm 1) D tc ad A E TC ([.ref (ad 0), .int a1, .int a2] : List Value) g g r := by
  refine c_ofW (bytes := cX11_taken) (maxL := 4) (ret := (some .int)) (by decide) rfl (Nat.le_of_ble_eq_true rfl) ?_
  intro p e s m below meth c ls C hP hS hl
  unfold fX11_taken at hf
  obtain ⟨hx, hb, hr, hml, hts, hown, hlk, hK, hE⟩ := id C
  have hl : lv_has ls 4 [(0, .ref (ad 0)), (1, .int a1), (2, .int a2)] := hl
  refine lv_iload_n hx hb dX11_taken_0 rfl (lv_at hl 2 rfl) ?_
  refine lv_if_lt (tgt := 10) hx hb dX11_taken_1 (by decide) (fun c1 => ?_) (fun c1 => ?_)
  · have hf := c_it c1 hf
    refine lv_bipush (v := (-2 : Int32)) hx hb dX11_taken_10 (by decide) ?_
    exact c_iret hx hb hr hlk hP hS rfl ⟨rfl, Option.some.inj hf⟩ dX11_taken_12
  · have hf := c_ie c1 hf
    refine lv_iload_n hx hb dX11_taken_4 rfl (lv_at hl 2 rfl) ?_
    refine lv_bipush (v := (7 : Int32)) hx hb dX11_taken_5 (by decide) ?_
    refine lv_icmp_lt (tgt := 13) hx hb dX11_taken_7 (by decide) (fun c2 => ?_) (fun c2 => ?_)
    · have hf := c_it c2 hf
      refine lv_aload_n hx hb dX11_taken_13 rfl (lv_at hl 0 rfl) ?_
      refine lv_iload_n hx hb dX11_taken_14 rfl (lv_at hl 1 rfl) ?_
      obtain ⟨r3, hc4, hf⟩ := c_bd hf
      refine c_goi (va_runV (As := [.int a1]) (rest := []) ⟨hx, hb, hml, hown, hts⟩ (kX11_isChild hD hc4) (cwV 1 hts gX11_taken_X11_isChild rfl rfl rfl (by decide +kernel) ⟨Nat.le_of_ble_eq_true rfl, Nat.le_of_ble_eq_true rfl⟩) (c_preV hK hP hE hS tC0 rfl) rfl rfl hl.1 rfl (lv_room (Nat.le_of_ble_eq_true rfl)) dX11_taken_15 ⟨Nat.zero_le _, Nat.zero_le _⟩) hS (fun H locs hP hS => ?_)
      refine lv_if_ne (tgt := 24) hx hb dX11_taken_18 (by decide) (fun c5 => ?_) (fun c5 => ?_)
      · have hf := c_ie c5 hf
        refine lv_aload_n hx hb dX11_taken_24 rfl (lv_at hl 0 rfl) ?_
        refine c_get hx hb hts i_X11_taken_X11 hown hK hP 0 tC0 rfl 5 (by decide) (hts _ (List.mem_of_getElem? (i := 1) rfl)) (fun _ h9 => h9) rfl (v := .ref (ad 55)) rfl dX11_taken_25 ?_
        refine c_get hx hb hts i_X11_taken_X7 hown hK hP 55 tC55 rfl 7 (by decide) (hts _ (List.mem_of_getElem? (i := 2) rfl)) (fun _ h9 => h9) rfl (v := .ref (ad 60)) rfl dX11_taken_28 ?_
        refine lv_iload_n hx hb dX11_taken_31 rfl (lv_at hl 1 rfl) ?_
        obtain ⟨hi6, hf⟩ := c_gd hf
        refine c_iald (j := (a1).toNatClampNeg) hx hb hK hP 60 tC60 rfl (c_inV hi6) dX11_taken_32 ?_
        refine lv_istore_n (lv' := [(3, .int (g.1 60 (a1).toNatClampNeg)), (0, .ref (ad 0)), (1, .int a1), (2, .int a2)]) hx hb dX11_taken_33 rfl hl (by decide) rfl (fun ls hl => ?_)
        refine lv_iload_n hx hb dX11_taken_34 rfl (lv_at hl 3 rfl) ?_
        refine lv_if_eq (tgt := 52) hx hb dX11_taken_35 (by decide) (fun c7 => ?_) (fun c7 => ?_)
        · have hf := c_it c7 hf
          refine lv_iload_n hx hb dX11_taken_52 rfl (lv_at hl 0 rfl) ?_
          refine lv_goto (tgt := 58) hx hb dX11_taken_53 (by decide) ?_
          exact c_iret hx hb hr hlk hP hS rfl ⟨rfl, Option.some.inj hf⟩ dX11_taken_58
        · have hf := c_ie c7 hf
          refine lv_iload_n hx hb dX11_taken_38 rfl (lv_at hl 3 rfl) ?_
          refine lv_iload_n hx hb dX11_taken_39 rfl (lv_at hl 0 rfl) ?_
          refine lv_icmp_eq (tgt := 52) hx hb dX11_taken_40 (by decide) (fun c8 => ?_) (fun c8 => ?_)
          · have hf := c_it c8 hf
            refine lv_iload_n hx hb dX11_taken_52 rfl (lv_at hl 0 rfl) ?_
            refine lv_goto (tgt := 58) hx hb dX11_taken_53 (by decide) ?_
            exact c_iret hx hb hr hlk hP hS rfl ⟨rfl, Option.some.inj hf⟩ dX11_taken_58
          · have hf := c_ie c8 hf
            refine lv_iload_n hx hb dX11_taken_43 rfl (lv_at hl 3 rfl) ?_
            refine va_gets hx hb hE.1.2.1 hS hown (hts _ (List.mem_of_getElem? (i := 3) rfl)) (fun _ h9 => h9) dX11_taken_44 ?_
            refine lv_iload_n hx hb dX11_taken_47 rfl (lv_at hl 0 rfl) ?_
            obtain ⟨hi9, hf⟩ := c_gd hf
            refine va_ti hx hb hE.1.2.2.1 hS (c_inV hi9) (v := .int (c_abv ((g.1 60 (a1).toNatClampNeg)).toNatClampNeg)) rfl dX11_taken_48 ?_
            refine lv_icmp_ne (tgt := 56) hx hb dX11_taken_49 (by decide) (fun c10 => ?_) (fun c10 => ?_)
            · have hf := c_ie c10 hf
              refine lv_bipush (v := (-12 : Int32)) hx hb dX11_taken_56 (by decide) ?_
              exact c_iret hx hb hr hlk hP hS rfl ⟨rfl, Option.some.inj hf⟩ dX11_taken_58
            · have hf := c_it c10 hf
              refine lv_iload_n hx hb dX11_taken_52 rfl (lv_at hl 0 rfl) ?_
              refine lv_goto (tgt := 58) hx hb dX11_taken_53 (by decide) ?_
              exact c_iret hx hb hr hlk hP hS rfl ⟨rfl, Option.some.inj hf⟩ dX11_taken_58
      · have hf := c_it c5 hf
        refine lv_bipush (v := (-11 : Int32)) hx hb dX11_taken_21 (by decide) ?_
        exact c_iret hx hb hr hlk hP hS rfl ⟨rfl, Option.some.inj hf⟩ dX11_taken_23
    · have hf := c_ie c2 hf
      refine lv_bipush (v := (-2 : Int32)) hx hb dX11_taken_10 (by decide) ?_
      exact c_iret hx hb hr hlk hP hS rfl ⟨rfl, Option.some.inj hf⟩ dX11_taken_12
theorem i_X11_count_X0 : ∀ w ∈ u_ws RX0 TX0 4, w ∈ wsX11_count := c_inP [51, 52, 53, 54] (by decide +kernel)
theorem i_X11_count_X5 : ∀ w ∈ u_ws RX5 TX5 4, w ∈ wsX11_count := c_inP [47, 48, 49, 50] (by decide +kernel)
theorem i_X11_count_X7 : ∀ w ∈ u_ws RX7 TX7 17, w ∈ wsX11_count := c_inP [30, 31, 32, 33, 34, 35, 36, 37, 38, 39, 40, 41, 42, 43, 44, 45, 46] (by decide +kernel)
theorem i_X11_count_X11 : ∀ w ∈ u_ws RX11 TX11 19, w ∈ wsX11_count := c_inP [11, 12, 13, 14, 15, 16, 17, 18, 19, 20, 21, 22, 23, 24, 25, 26, 27, 28, 29] (by decide +kernel)
theorem dX11_count_0 : decode cX11_count 0 = .ok (.iload_n 1, 1) := by decide +kernel
theorem dX11_count_1 : decode cX11_count 1 = .ok (.tableswitch 102 0 6 #[43, 51, 56, 67, 78, 89, 94], 43) := by decide +kernel
theorem dX11_count_44 : decode cX11_count 44 = .ok (.aload_n 0, 1) := by decide +kernel
theorem dX11_count_45 : decode cX11_count 45 = .ok (.getfield 86, 3) := by decide +kernel
theorem dX11_count_48 : decode cX11_count 48 = .ok (.getfield 109, 3) := by decide +kernel
theorem dX11_count_51 : decode cX11_count 51 = .ok (.ireturn, 1) := by decide +kernel
theorem dX11_count_52 : decode cX11_count 52 = .ok (.aload_n 0, 1) := by decide +kernel
theorem dX11_count_53 : decode cX11_count 53 = .ok (.getfield 186, 3) := by decide +kernel
theorem dX11_count_56 : decode cX11_count 56 = .ok (.ireturn, 1) := by decide +kernel
theorem dX11_count_57 : decode cX11_count 57 = .ok (.aload_n 0, 1) := by decide +kernel
theorem dX11_count_58 : decode cX11_count 58 = .ok (.getfield 86, 3) := by decide +kernel
theorem dX11_count_61 : decode cX11_count 61 = .ok (.getfield 232, 3) := by decide +kernel
theorem dX11_count_64 : decode cX11_count 64 = .ok (.getfield 266, 3) := by decide +kernel
theorem dX11_count_67 : decode cX11_count 67 = .ok (.ireturn, 1) := by decide +kernel
theorem dX11_count_68 : decode cX11_count 68 = .ok (.aload_n 0, 1) := by decide +kernel
theorem dX11_count_69 : decode cX11_count 69 = .ok (.getfield 86, 3) := by decide +kernel
theorem dX11_count_72 : decode cX11_count 72 = .ok (.getfield 263, 3) := by decide +kernel
theorem dX11_count_75 : decode cX11_count 75 = .ok (.getfield 266, 3) := by decide +kernel
theorem dX11_count_78 : decode cX11_count 78 = .ok (.ireturn, 1) := by decide +kernel
theorem dX11_count_79 : decode cX11_count 79 = .ok (.aload_n 0, 1) := by decide +kernel
theorem dX11_count_80 : decode cX11_count 80 = .ok (.getfield 86, 3) := by decide +kernel
theorem dX11_count_83 : decode cX11_count 83 = .ok (.getfield 275, 3) := by decide +kernel
theorem dX11_count_86 : decode cX11_count 86 = .ok (.getfield 266, 3) := by decide +kernel
theorem dX11_count_89 : decode cX11_count 89 = .ok (.ireturn, 1) := by decide +kernel
theorem dX11_count_90 : decode cX11_count 90 = .ok (.aload_n 0, 1) := by decide +kernel
theorem dX11_count_91 : decode cX11_count 91 = .ok (.getfield 183, 3) := by decide +kernel
theorem dX11_count_94 : decode cX11_count 94 = .ok (.ireturn, 1) := by decide +kernel
theorem dX11_count_95 : decode cX11_count 95 = .ok (.aload_n 0, 1) := by decide +kernel
theorem dX11_count_96 : decode cX11_count 96 = .ok (.getfield 40, 3) := by decide +kernel
theorem dX11_count_99 : decode cX11_count 99 = .ok (.getfield 285, 3) := by decide +kernel
theorem dX11_count_102 : decode cX11_count 102 = .ok (.ireturn, 1) := by decide +kernel
theorem dX11_count_103 : decode cX11_count 103 = .ok (.bipush (-2), 2) := by decide +kernel
theorem dX11_count_105 : decode cX11_count 105 = .ok (.ireturn, 1) := by decide +kernel
def fX11_count (g : c_G) (a1 : Int32) : Option (Int32) :=
  if a1 = (0 : Int32) then (some (g.1 55 6)) else if a1 = (1 : Int32) then (some (g.1 0 4)) else if a1 = (2 : Int32) then (some (g.1 66 3)) else if a1 = (3 : Int32) then (some (g.1 70 3)) else if a1 = (4 : Int32) then (some (g.1 74 3)) else if a1 = (5 : Int32) then (some (g.1 0 2)) else if a1 = (6 : Int32) then (some (g.1 8 2)) else (some (-2 : Int32))
set_option maxRecDepth 100000 in
set_option maxHeartbeats 4000000 in
theorem kX11_count {l : Launch} {D : va_G} {tc : Nat → ClassId} {ad : Nat → Nat} {A : Nat → Prop} {E : (Nat → Nat) × (Nat → Nat) × Nat} (hD : c_D A ad TC) {a1 : Int32} {g : c_G} {r : Int32} (hf : fX11_count g a1 = some r) : c_Mi l yX11_count wsX11_count (c_rm 0) D tc ad A E TC ([.ref (ad 0), .int a1] : List Value) g g r := by
  refine c_ofW (bytes := cX11_count) (maxL := 2) (ret := (some .int)) (by decide) rfl (Nat.le_of_ble_eq_true rfl) ?_
  intro p e s m below meth c ls C hP hS hl
  unfold fX11_count at hf
  obtain ⟨hx, hb, hr, hml, hts, hown, hlk, hK, hE⟩ := id C
  have hl : lv_has ls 2 [(0, .ref (ad 0)), (1, .int a1)] := hl
  refine lv_iload_n hx hb dX11_count_0 rfl (lv_at hl 1 rfl) ?_
  by_cases c1 : a1 = (0 : Int32)
  · have hf := c_it c1 hf
    refine lv_tableIn (off := 43) (tgt := 44) hx hb dX11_count_1 (by rw [c1]; decide) (by rw [c1]; decide) (by rw [c1]; rfl) (by decide) ?_
    refine lv_aload_n hx hb dX11_count_44 rfl (lv_at hl 0 rfl) ?_
    refine c_get hx hb hts i_X11_count_X11 hown hK hP 0 tC0 rfl 5 (by decide) (hts _ (List.mem_of_getElem? (i := 1) rfl)) (fun _ h9 => h9) rfl (v := .ref (ad 55)) rfl dX11_count_45 ?_
    refine c_get hx hb hts i_X11_count_X7 hown hK hP 55 tC55 rfl 6 (by decide) (hts _ (List.mem_of_getElem? (i := 2) rfl)) (fun _ h9 => h9) rfl (v := .int (g.1 55 6)) rfl dX11_count_48 ?_
    exact c_iret hx hb hr hlk hP hS rfl ⟨rfl, Option.some.inj hf⟩ dX11_count_51
  have hf := c_ie c1 hf
  by_cases c2 : a1 = (1 : Int32)
  · have hf := c_it c2 hf
    refine lv_tableIn (off := 51) (tgt := 52) hx hb dX11_count_1 (by rw [c2]; decide) (by rw [c2]; decide) (by rw [c2]; rfl) (by decide) ?_
    refine lv_aload_n hx hb dX11_count_52 rfl (lv_at hl 0 rfl) ?_
    refine c_get hx hb hts i_X11_count_X11 hown hK hP 0 tC0 rfl 4 (by decide) (hts _ (List.mem_of_getElem? (i := 3) rfl)) (fun _ h9 => h9) rfl (v := .int (g.1 0 4)) rfl dX11_count_53 ?_
    exact c_iret hx hb hr hlk hP hS rfl ⟨rfl, Option.some.inj hf⟩ dX11_count_56
  have hf := c_ie c2 hf
  by_cases c3 : a1 = (2 : Int32)
  · have hf := c_it c3 hf
    refine lv_tableIn (off := 56) (tgt := 57) hx hb dX11_count_1 (by rw [c3]; decide) (by rw [c3]; decide) (by rw [c3]; rfl) (by decide) ?_
    refine lv_aload_n hx hb dX11_count_57 rfl (lv_at hl 0 rfl) ?_
    refine c_get hx hb hts i_X11_count_X11 hown hK hP 0 tC0 rfl 5 (by decide) (hts _ (List.mem_of_getElem? (i := 1) rfl)) (fun _ h9 => h9) rfl (v := .ref (ad 55)) rfl dX11_count_58 ?_
    refine c_get hx hb hts i_X11_count_X7 hown hK hP 55 tC55 rfl 13 (by decide) (hts _ (List.mem_of_getElem? (i := 4) rfl)) (fun _ h9 => h9) rfl (v := .ref (ad 66)) rfl dX11_count_61 ?_
    refine c_get hx hb hts i_X11_count_X5 hown hK hP 66 tC66 rfl 3 (by decide) (hts _ (List.mem_of_getElem? (i := 5) rfl)) (fun _ h9 => h9) rfl (v := .int (g.1 66 3)) rfl dX11_count_64 ?_
    exact c_iret hx hb hr hlk hP hS rfl ⟨rfl, Option.some.inj hf⟩ dX11_count_67
  have hf := c_ie c3 hf
  by_cases c4 : a1 = (3 : Int32)
  · have hf := c_it c4 hf
    refine lv_tableIn (off := 67) (tgt := 68) hx hb dX11_count_1 (by rw [c4]; decide) (by rw [c4]; decide) (by rw [c4]; rfl) (by decide) ?_
    refine lv_aload_n hx hb dX11_count_68 rfl (lv_at hl 0 rfl) ?_
    refine c_get hx hb hts i_X11_count_X11 hown hK hP 0 tC0 rfl 5 (by decide) (hts _ (List.mem_of_getElem? (i := 1) rfl)) (fun _ h9 => h9) rfl (v := .ref (ad 55)) rfl dX11_count_69 ?_
    refine c_get hx hb hts i_X11_count_X7 hown hK hP 55 tC55 rfl 14 (by decide) (hts _ (List.mem_of_getElem? (i := 6) rfl)) (fun _ h9 => h9) rfl (v := .ref (ad 70)) rfl dX11_count_72 ?_
    refine c_get hx hb hts i_X11_count_X5 hown hK hP 70 tC70 rfl 3 (by decide) (hts _ (List.mem_of_getElem? (i := 5) rfl)) (fun _ h9 => h9) rfl (v := .int (g.1 70 3)) rfl dX11_count_75 ?_
    exact c_iret hx hb hr hlk hP hS rfl ⟨rfl, Option.some.inj hf⟩ dX11_count_78
  have hf := c_ie c4 hf
  by_cases c5 : a1 = (4 : Int32)
  · have hf := c_it c5 hf
    refine lv_tableIn (off := 78) (tgt := 79) hx hb dX11_count_1 (by rw [c5]; decide) (by rw [c5]; decide) (by rw [c5]; rfl) (by decide) ?_
    refine lv_aload_n hx hb dX11_count_79 rfl (lv_at hl 0 rfl) ?_
    refine c_get hx hb hts i_X11_count_X11 hown hK hP 0 tC0 rfl 5 (by decide) (hts _ (List.mem_of_getElem? (i := 1) rfl)) (fun _ h9 => h9) rfl (v := .ref (ad 55)) rfl dX11_count_80 ?_
    refine c_get hx hb hts i_X11_count_X7 hown hK hP 55 tC55 rfl 15 (by decide) (hts _ (List.mem_of_getElem? (i := 7) rfl)) (fun _ h9 => h9) rfl (v := .ref (ad 74)) rfl dX11_count_83 ?_
    refine c_get hx hb hts i_X11_count_X5 hown hK hP 74 tC74 rfl 3 (by decide) (hts _ (List.mem_of_getElem? (i := 5) rfl)) (fun _ h9 => h9) rfl (v := .int (g.1 74 3)) rfl dX11_count_86 ?_
    exact c_iret hx hb hr hlk hP hS rfl ⟨rfl, Option.some.inj hf⟩ dX11_count_89
  have hf := c_ie c5 hf
  by_cases c6 : a1 = (5 : Int32)
  · have hf := c_it c6 hf
    refine lv_tableIn (off := 89) (tgt := 90) hx hb dX11_count_1 (by rw [c6]; decide) (by rw [c6]; decide) (by rw [c6]; rfl) (by decide) ?_
    refine lv_aload_n hx hb dX11_count_90 rfl (lv_at hl 0 rfl) ?_
    refine c_get hx hb hts i_X11_count_X11 hown hK hP 0 tC0 rfl 2 (by decide) (hts _ (List.mem_of_getElem? (i := 8) rfl)) (fun _ h9 => h9) rfl (v := .int (g.1 0 2)) rfl dX11_count_91 ?_
    exact c_iret hx hb hr hlk hP hS rfl ⟨rfl, Option.some.inj hf⟩ dX11_count_94
  have hf := c_ie c6 hf
  by_cases c7 : a1 = (6 : Int32)
  · have hf := c_it c7 hf
    refine lv_tableIn (off := 94) (tgt := 95) hx hb dX11_count_1 (by rw [c7]; decide) (by rw [c7]; decide) (by rw [c7]; rfl) (by decide) ?_
    refine lv_aload_n hx hb dX11_count_95 rfl (lv_at hl 0 rfl) ?_
    refine c_get hx hb hts i_X11_count_X11 hown hK hP 0 tC0 rfl 15 (by decide) (hts _ (List.mem_of_getElem? (i := 9) rfl)) (fun _ h9 => h9) rfl (v := .ref (ad 8)) rfl dX11_count_96 ?_
    refine c_get hx hb hts i_X11_count_X0 hown hK hP 8 tC8 rfl 2 (by decide) (hts _ (List.mem_of_getElem? (i := 10) rfl)) (fun _ h9 => h9) rfl (v := .int (g.1 8 2)) rfl dX11_count_99 ?_
    exact c_iret hx hb hr hlk hP hS rfl ⟨rfl, Option.some.inj hf⟩ dX11_count_102
  have hf := c_ie c7 hf
  have h9 := c_sw (x := a1) (lo := 0) (n := 6) (by decide) (fun k hj hk => by rcases (show k = 0 ∨ k = 1 ∨ k = 2 ∨ k = 3 ∨ k = 4 ∨ k = 5 ∨ k = 6 by omega) with rfl | rfl | rfl | rfl | rfl | rfl | rfl <;> assumption)
  refine lv_tableOut (tgt := 103) hx hb dX11_count_1 (by omega) (by decide) ?_
  refine lv_bipush (v := (-2 : Int32)) hx hb dX11_count_103 (by decide) ?_
  exact c_iret hx hb hr hlk hP hS rfl ⟨rfl, Option.some.inj hf⟩ dX11_count_105
theorem i_X11_tape_X11 : ∀ w ∈ u_ws RX11 TX11 19, w ∈ wsX11_tape := c_inP [12, 13, 14, 15, 16, 17, 18, 19, 20, 21, 22, 23, 24, 25, 26, 27, 28, 29, 30] (by decide +kernel)
theorem dX11_tape_0 : decode cX11_tape 0 = .ok (.iload_n 1, 1) := by decide +kernel
theorem dX11_tape_1 : decode cX11_tape 1 = .ok (.invokestatic 278, 3) := by decide +kernel
theorem dX11_tape_4 : decode cX11_tape 4 = .ok (.ifCond .ne 5, 3) := by decide +kernel
theorem dX11_tape_7 : decode cX11_tape 7 = .ok (.iconst (-1), 1) := by decide +kernel
theorem dX11_tape_8 : decode cX11_tape 8 = .ok (.ireturn, 1) := by decide +kernel
theorem dX11_tape_9 : decode cX11_tape 9 = .ok (.iload_n 2, 1) := by decide +kernel
theorem dX11_tape_10 : decode cX11_tape 10 = .ok (.iconst (-1), 1) := by decide +kernel
theorem dX11_tape_11 : decode cX11_tape 11 = .ok (.if_icmp .lt 8, 3) := by decide +kernel
theorem dX11_tape_14 : decode cX11_tape 14 = .ok (.iload_n 2, 1) := by decide +kernel
theorem dX11_tape_15 : decode cX11_tape 15 = .ok (.iconst 5, 1) := by decide +kernel
theorem dX11_tape_16 : decode cX11_tape 16 = .ok (.if_icmp .lt 6, 3) := by decide +kernel
theorem dX11_tape_19 : decode cX11_tape 19 = .ok (.bipush (-2), 2) := by decide +kernel
theorem dX11_tape_21 : decode cX11_tape 21 = .ok (.ireturn, 1) := by decide +kernel
theorem dX11_tape_22 : decode cX11_tape 22 = .ok (.iload_n 2, 1) := by decide +kernel
theorem dX11_tape_23 : decode cX11_tape 23 = .ok (.iconst (-1), 1) := by decide +kernel
theorem dX11_tape_24 : decode cX11_tape 24 = .ok (.if_icmp .ne 13, 3) := by decide +kernel
theorem dX11_tape_27 : decode cX11_tape 27 = .ok (.aload_n 0, 1) := by decide +kernel
theorem dX11_tape_28 : decode cX11_tape 28 = .ok (.getfield 44, 3) := by decide +kernel
theorem dX11_tape_31 : decode cX11_tape 31 = .ok (.iload_n 1, 1) := by decide +kernel
theorem dX11_tape_32 : decode cX11_tape 32 = .ok (.bipush (-5), 2) := by decide +kernel
theorem dX11_tape_34 : decode cX11_tape 34 = .ok (.iastore, 1) := by decide +kernel
theorem dX11_tape_35 : decode cX11_tape 35 = .ok (.iconst 1, 1) := by decide +kernel
theorem dX11_tape_36 : decode cX11_tape 36 = .ok (.ireturn, 1) := by decide +kernel
theorem dX11_tape_37 : decode cX11_tape 37 = .ok (.iload_n 3, 1) := by decide +kernel
theorem dX11_tape_38 : decode cX11_tape 38 = .ok (.bipush 60, 2) := by decide +kernel
theorem dX11_tape_40 : decode cX11_tape 40 = .ok (.if_icmp .le 6, 3) := by decide +kernel
theorem dX11_tape_43 : decode cX11_tape 43 = .ok (.bipush (-2), 2) := by decide +kernel
theorem dX11_tape_45 : decode cX11_tape 45 = .ok (.ireturn, 1) := by decide +kernel
theorem dX11_tape_46 : decode cX11_tape 46 = .ok (.iload_n 3, 1) := by decide +kernel
theorem dX11_tape_47 : decode cX11_tape 47 = .ok (.ifCond .ge 6, 3) := by decide +kernel
theorem dX11_tape_50 : decode cX11_tape 50 = .ok (.bipush (-14), 2) := by decide +kernel
theorem dX11_tape_52 : decode cX11_tape 52 = .ok (.ireturn, 1) := by decide +kernel
theorem dX11_tape_53 : decode cX11_tape 53 = .ok (.aload_n 0, 1) := by decide +kernel
theorem dX11_tape_54 : decode cX11_tape 54 = .ok (.getfield 44, 3) := by decide +kernel
theorem dX11_tape_57 : decode cX11_tape 57 = .ok (.iload_n 1, 1) := by decide +kernel
theorem dX11_tape_58 : decode cX11_tape 58 = .ok (.iload_n 2, 1) := by decide +kernel
theorem dX11_tape_59 : decode cX11_tape 59 = .ok (.iastore, 1) := by decide +kernel
theorem dX11_tape_60 : decode cX11_tape 60 = .ok (.aload_n 0, 1) := by decide +kernel
theorem dX11_tape_61 : decode cX11_tape 61 = .ok (.getfield 47, 3) := by decide +kernel
theorem dX11_tape_64 : decode cX11_tape 64 = .ok (.iload_n 1, 1) := by decide +kernel
theorem dX11_tape_65 : decode cX11_tape 65 = .ok (.iload_n 3, 1) := by decide +kernel
theorem dX11_tape_66 : decode cX11_tape 66 = .ok (.iastore, 1) := by decide +kernel
theorem dX11_tape_67 : decode cX11_tape 67 = .ok (.aload_n 0, 1) := by decide +kernel
theorem dX11_tape_68 : decode cX11_tape 68 = .ok (.getfield 52, 3) := by decide +kernel
theorem dX11_tape_71 : decode cX11_tape 71 = .ok (.iload_n 1, 1) := by decide +kernel
theorem dX11_tape_72 : decode cX11_tape 72 = .ok (.aaload, 1) := by decide +kernel
theorem dX11_tape_73 : decode cX11_tape 73 = .ok (.lconst 0, 1) := by decide +kernel
theorem dX11_tape_74 : decode cX11_tape 74 = .ok (.invokestatic 309, 3) := by decide +kernel
theorem dX11_tape_77 : decode cX11_tape 77 = .ok (.iconst 1, 1) := by decide +kernel
theorem dX11_tape_78 : decode cX11_tape 78 = .ok (.ireturn, 1) := by decide +kernel
set_option maxRecDepth 20000 in
theorem ggX11_tape_X11_isTape : GoodIn wsX11_tape wsX11_isTape := goodIn_r _ [7] (by decide +kernel) (by decide +kernel)
set_option maxRecDepth 20000 in
theorem gX11_tape_X11_isTape : GoodIn wsX11_tape (va_wsS RX11 278 yX11_isTape wsX11_isTape) := goodIn_app (goodIn_of _ (by decide +kernel)) ggX11_tape_X11_isTape
set_option maxRecDepth 20000 in
theorem ggX11_tape_J7_fill_d0a16 : GoodIn wsX11_tape wsJ7_fill_d0a16 := goodIn_r _ [11] (by decide +kernel) (by decide +kernel)
set_option maxRecDepth 20000 in
theorem gX11_tape_J7_fill_d0a16 : GoodIn wsX11_tape (va_wsS RX11 309 yJ7_fill_d0a16 wsJ7_fill_d0a16) := goodIn_app (goodIn_of _ (by decide +kernel)) ggX11_tape_J7_fill_d0a16
def fX11_tape (g : c_G) (a1 : Int32) (a2 : Int32) (a3 : Int32) : Option (c_G × Int32) :=
  if (fX11_isTape a1) = 0 then (some (g, (-1 : Int32))) else (if a2 < (-1 : Int32) then (some (g, (-2 : Int32))) else (if a2 < (5 : Int32) then (if a2 = (-1 : Int32) then (if c_in (a1) (6) = true then c_let (c_si g 10 (a1).toNatClampNeg (-5 : Int32)) fun g13 => some (g13, (1 : Int32)) else none) else (if a3 ≤ (60 : Int32) then (if 0 ≤ a3 then (if c_in (a1) (6) = true then c_let (c_si g 10 (a1).toNatClampNeg a2) fun g8 => c_let (c_si g8 11 (a1).toNatClampNeg a3) fun g9 => (fJ7_fill_d0a16 TC g9 ((13 + (a1).toNatClampNeg)) ((0 : Int64))).bind fun g11 => some (g11, (1 : Int32)) else none) else (some (g, (-14 : Int32)))) else (some (g, (-2 : Int32))))) else (some (g, (-2 : Int32)))))
set_option maxRecDepth 100000 in
set_option maxHeartbeats 4000000 in
theorem kX11_tape {l : Launch} {D : va_G} {tc : Nat → ClassId} {ad : Nat → Nat} {A : Nat → Prop} {E : (Nat → Nat) × (Nat → Nat) × Nat} (hD : c_D A ad TC) {a1 : Int32} {a2 : Int32} {a3 : Int32} {g g' : c_G} {r : Int32} (hf : fX11_tape g a1 a2 a3 = some (g', r)) : c_Mi l yX11_tape wsX11_tape (c_rm 1) D tc ad A E TC ([.ref (ad 0), .int a1, .int a2, .int a3] : List Value) g g' r := by
  refine c_ofW (bytes := cX11_tape) (maxL := 4) (ret := (some .int)) (by decide) rfl (Nat.le_of_ble_eq_true rfl) ?_
  intro p e s m below meth c ls C hP hS hl
  unfold fX11_tape at hf
  obtain ⟨hx, hb, hr, hml, hts, hown, hlk, hK, hE⟩ := id C
  have hl : lv_has ls 4 [(0, .ref (ad 0)), (1, .int a1), (2, .int a2), (3, .int a3)] := hl
  refine lv_iload_n hx hb dX11_tape_0 rfl (lv_at hl 1 rfl) ?_
  refine c_goi (va_runS (As := [.int a1]) (rest := []) ⟨hx, hb, hml, hown, hts⟩ (kX11_isTape (T := TC) (g := g) rfl) (va_cwS 1 hts gX11_tape_X11_isTape rfl rfl rfl (by decide +kernel) ⟨Nat.le_of_ble_eq_true rfl, Nat.le_of_ble_eq_true rfl⟩) (c_preS hK hP hE hS) rfl rfl hl.1 rfl (lv_room (Nat.le_of_ble_eq_true rfl)) dX11_tape_1 ⟨Nat.zero_le _, Nat.zero_le _⟩) hS (fun H locs hP hS => ?_)
  refine lv_if_ne (tgt := 9) hx hb dX11_tape_4 (by decide) (fun c1 => ?_) (fun c1 => ?_)
  · have hf := c_ie c1 hf
    refine lv_iload_n hx hb dX11_tape_9 rfl (lv_at hl 2 rfl) ?_
    refine lv_iconst (v := (-1 : Int32)) hx hb dX11_tape_10 (by decide) ?_
    refine lv_icmp_lt (tgt := 19) hx hb dX11_tape_11 (by decide) (fun c2 => ?_) (fun c2 => ?_)
    · have hf := c_it c2 hf
      refine lv_bipush (v := (-2 : Int32)) hx hb dX11_tape_19 (by decide) ?_
      exact c_iret hx hb hr hlk hP hS rfl (c_inj hf) dX11_tape_21
    · have hf := c_ie c2 hf
      refine lv_iload_n hx hb dX11_tape_14 rfl (lv_at hl 2 rfl) ?_
      refine lv_iconst (v := (5 : Int32)) hx hb dX11_tape_15 (by decide) ?_
      refine lv_icmp_lt (tgt := 22) hx hb dX11_tape_16 (by decide) (fun c3 => ?_) (fun c3 => ?_)
      · have hf := c_it c3 hf
        refine lv_iload_n hx hb dX11_tape_22 rfl (lv_at hl 2 rfl) ?_
        refine lv_iconst (v := (-1 : Int32)) hx hb dX11_tape_23 (by decide) ?_
        refine lv_icmp_ne (tgt := 37) hx hb dX11_tape_24 (by decide) (fun c4 => ?_) (fun c4 => ?_)
        · have hf := c_ie c4 hf
          refine lv_iload_n hx hb dX11_tape_37 rfl (lv_at hl 3 rfl) ?_
          refine lv_bipush (v := (60 : Int32)) hx hb dX11_tape_38 (by decide) ?_
          refine lv_icmp_le (tgt := 46) hx hb dX11_tape_40 (by decide) (fun c5 => ?_) (fun c5 => ?_)
          · have hf := c_it c5 hf
            refine lv_iload_n hx hb dX11_tape_46 rfl (lv_at hl 3 rfl) ?_
            refine lv_if_ge (tgt := 53) hx hb dX11_tape_47 (by decide) (fun c6 => ?_) (fun c6 => ?_)
            · have hf := c_it c6 hf
              refine lv_aload_n hx hb dX11_tape_53 rfl (lv_at hl 0 rfl) ?_
              refine c_get hx hb hts i_X11_tape_X11 hown hK hP 0 tC0 rfl 16 (by decide) (hts _ (List.mem_of_getElem? (i := 1) rfl)) (fun _ h9 => h9) rfl (v := .ref (ad 10)) rfl dX11_tape_54 ?_
              refine lv_iload_n hx hb dX11_tape_57 rfl (lv_at hl 1 rfl) ?_
              refine lv_iload_n hx hb dX11_tape_58 rfl (lv_at hl 2 rfl) ?_
              obtain ⟨hi7, hf⟩ := c_gd hf
              obtain ⟨g8, eg8, hf⟩ := c_letE hf
              refine c_iast (j := (a1).toNatClampNeg) hx hb hK hP hD hS 10 tC10 rfl (c_inV hi7) eg8 dX11_tape_59 (fun H locs hP hS => ?_)
              refine lv_aload_n hx hb dX11_tape_60 rfl (lv_at hl 0 rfl) ?_
              refine c_get hx hb hts i_X11_tape_X11 hown hK hP 0 tC0 rfl 17 (by decide) (hts _ (List.mem_of_getElem? (i := 2) rfl)) (fun _ h9 => h9) rfl (v := .ref (ad 11)) rfl dX11_tape_61 ?_
              refine lv_iload_n hx hb dX11_tape_64 rfl (lv_at hl 1 rfl) ?_
              refine lv_iload_n hx hb dX11_tape_65 rfl (lv_at hl 3 rfl) ?_
              obtain ⟨g9, eg9, hf⟩ := c_letE hf
              refine c_iast (j := (a1).toNatClampNeg) hx hb hK hP hD hS 11 tC11 rfl (c_inV hi7) eg9 dX11_tape_66 (fun H locs hP hS => ?_)
              refine lv_aload_n hx hb dX11_tape_67 rfl (lv_at hl 0 rfl) ?_
              refine c_get hx hb hts i_X11_tape_X11 hown hK hP 0 tC0 rfl 18 (by decide) (hts _ (List.mem_of_getElem? (i := 3) rfl)) (fun _ h9 => h9) rfl (v := .ref (ad 12)) rfl dX11_tape_68 ?_
              refine lv_iload_n hx hb dX11_tape_71 rfl (lv_at hl 1 rfl) ?_
              refine c_aald7 hx hb hK hP 12 tC12 (c_inV hi7) (y := (13 + (a1).toNatClampNeg)) (c_tA (c_iN hi7)) dX11_tape_72 ?_
              refine lv_lconst (v := (0 : Int64)) hx hb dX11_tape_73 (by decide) ?_
              obtain ⟨g11, hc10, hf⟩ := c_bd hf
              refine c_gov (va_runS (As := [.ref (ad (13 + (a1).toNatClampNeg)), .long (0 : Int64)]) (rest := []) ⟨hx, hb, hml, hown, hts⟩ (kJ7_fill_d0a16 hD hc10) (va_cwS 2 hts gX11_tape_J7_fill_d0a16 rfl rfl rfl (by decide +kernel) ⟨Nat.le_of_ble_eq_true rfl, Nat.le_of_ble_eq_true rfl⟩) (c_preS hK hP hE hS) rfl rfl hl.1 rfl (lv_room (Nat.le_of_ble_eq_true rfl)) dX11_tape_74 ⟨Nat.zero_le _, Nat.zero_le _⟩) hS (fun H locs hP hS => ?_)
              refine lv_iconst (v := (1 : Int32)) hx hb dX11_tape_77 (by decide) ?_
              exact c_iret hx hb hr hlk hP hS rfl (c_inj hf) dX11_tape_78
            · have hf := c_ie c6 hf
              refine lv_bipush (v := (-14 : Int32)) hx hb dX11_tape_50 (by decide) ?_
              exact c_iret hx hb hr hlk hP hS rfl (c_inj hf) dX11_tape_52
          · have hf := c_ie c5 hf
            refine lv_bipush (v := (-2 : Int32)) hx hb dX11_tape_43 (by decide) ?_
            exact c_iret hx hb hr hlk hP hS rfl (c_inj hf) dX11_tape_45
        · have hf := c_it c4 hf
          refine lv_aload_n hx hb dX11_tape_27 rfl (lv_at hl 0 rfl) ?_
          refine c_get hx hb hts i_X11_tape_X11 hown hK hP 0 tC0 rfl 16 (by decide) (hts _ (List.mem_of_getElem? (i := 1) rfl)) (fun _ h9 => h9) rfl (v := .ref (ad 10)) rfl dX11_tape_28 ?_
          refine lv_iload_n hx hb dX11_tape_31 rfl (lv_at hl 1 rfl) ?_
          refine lv_bipush (v := (-5 : Int32)) hx hb dX11_tape_32 (by decide) ?_
          obtain ⟨hi12, hf⟩ := c_gd hf
          obtain ⟨g13, eg13, hf⟩ := c_letE hf
          refine c_iast (j := (a1).toNatClampNeg) hx hb hK hP hD hS 10 tC10 rfl (c_inV hi12) eg13 dX11_tape_34 (fun H locs hP hS => ?_)
          refine lv_iconst (v := (1 : Int32)) hx hb dX11_tape_35 (by decide) ?_
          exact c_iret hx hb hr hlk hP hS rfl (c_inj hf) dX11_tape_36
      · have hf := c_ie c3 hf
        refine lv_bipush (v := (-2 : Int32)) hx hb dX11_tape_19 (by decide) ?_
        exact c_iret hx hb hr hlk hP hS rfl (c_inj hf) dX11_tape_21
  · have hf := c_it c1 hf
    refine lv_iconst (v := (-1 : Int32)) hx hb dX11_tape_7 (by decide) ?_
    exact c_iret hx hb hr hlk hP hS rfl (c_inj hf) dX11_tape_8
theorem dX11_narrowed_0 : decode cX11_narrowed 0 = .ok (.iload_n 0, 1) := by decide +kernel
theorem dX11_narrowed_1 : decode cX11_narrowed 1 = .ok (.tableswitch 47 0 3 #[31, 36, 41, 45], 31) := by decide +kernel
theorem dX11_narrowed_32 : decode cX11_narrowed 32 = .ok (.lload_n 1, 1) := by decide +kernel
theorem dX11_narrowed_33 : decode cX11_narrowed 33 = .ok (.l2i, 1) := by decide +kernel
theorem dX11_narrowed_34 : decode cX11_narrowed 34 = .ok (.i2b, 1) := by decide +kernel
theorem dX11_narrowed_35 : decode cX11_narrowed 35 = .ok (.i2l, 1) := by decide +kernel
theorem dX11_narrowed_36 : decode cX11_narrowed 36 = .ok (.lreturn, 1) := by decide +kernel
theorem dX11_narrowed_37 : decode cX11_narrowed 37 = .ok (.lload_n 1, 1) := by decide +kernel
theorem dX11_narrowed_38 : decode cX11_narrowed 38 = .ok (.l2i, 1) := by decide +kernel
theorem dX11_narrowed_39 : decode cX11_narrowed 39 = .ok (.i2s, 1) := by decide +kernel
theorem dX11_narrowed_40 : decode cX11_narrowed 40 = .ok (.i2l, 1) := by decide +kernel
theorem dX11_narrowed_41 : decode cX11_narrowed 41 = .ok (.lreturn, 1) := by decide +kernel
theorem dX11_narrowed_42 : decode cX11_narrowed 42 = .ok (.lload_n 1, 1) := by decide +kernel
theorem dX11_narrowed_43 : decode cX11_narrowed 43 = .ok (.l2i, 1) := by decide +kernel
theorem dX11_narrowed_44 : decode cX11_narrowed 44 = .ok (.i2l, 1) := by decide +kernel
theorem dX11_narrowed_45 : decode cX11_narrowed 45 = .ok (.lreturn, 1) := by decide +kernel
theorem dX11_narrowed_46 : decode cX11_narrowed 46 = .ok (.lload_n 1, 1) := by decide +kernel
theorem dX11_narrowed_47 : decode cX11_narrowed 47 = .ok (.lreturn, 1) := by decide +kernel
theorem dX11_narrowed_48 : decode cX11_narrowed 48 = .ok (.lload_n 1, 1) := by decide +kernel
theorem dX11_narrowed_49 : decode cX11_narrowed 49 = .ok (.lconst 0, 1) := by decide +kernel
theorem dX11_narrowed_50 : decode cX11_narrowed 50 = .ok (.lcmp, 1) := by decide +kernel
theorem dX11_narrowed_51 : decode cX11_narrowed 51 = .ok (.ifCond .ne 7, 3) := by decide +kernel
theorem dX11_narrowed_54 : decode cX11_narrowed 54 = .ok (.lconst 0, 1) := by decide +kernel
theorem dX11_narrowed_55 : decode cX11_narrowed 55 = .ok (.goto 4, 3) := by decide +kernel
theorem dX11_narrowed_58 : decode cX11_narrowed 58 = .ok (.lconst 1, 1) := by decide +kernel
theorem dX11_narrowed_59 : decode cX11_narrowed 59 = .ok (.lreturn, 1) := by decide +kernel
def fX11_narrowed (a1 : Int32) (a2 : Int64) : Int64 :=
  if a1 = (0 : Int32) then (((((((a2).toInt32)).toInt8.toInt32)).toInt64)) else if a1 = (1 : Int32) then (((((((a2).toInt32)).toInt16.toInt32)).toInt64)) else if a1 = (2 : Int32) then (((((a2).toInt32)).toInt64)) else if a1 = (3 : Int32) then (a2) else (if (lg_cmp a2 (0 : Int64)) = 0 then ((0 : Int64)) else ((1 : Int64)))
set_option maxRecDepth 100000 in
set_option maxHeartbeats 4000000 in
theorem kX11_narrowed {l : Launch} {D : va_G} {tc : Nat → ClassId} {ad : Nat → Nat} {A : Nat → Prop} {E : (Nat → Nat) × (Nat → Nat) × Nat} {T : List c_T} {a1 : Int32} {a2 : Int64} {g : c_G} {r : Int64} (hf : fX11_narrowed a1 a2 = r) : c_Ml l yX11_narrowed wsX11_narrowed (c_rm 0) D tc ad A E T ([.int a1, .long a2] : List Value) g g r := by
  refine c_ofW (bytes := cX11_narrowed) (maxL := 3) (ret := (some .long)) (by decide) rfl (Nat.le_of_ble_eq_true rfl) ?_
  intro p e s m below meth c ls C hP hS hl
  unfold fX11_narrowed at hf
  obtain ⟨hx, hb, hr, hml, hts, hown, hlk, hK, hE⟩ := id C
  have hl : lv_has ls 3 [(0, .int a1), (1, .long a2)] := hl
  refine lv_iload_n hx hb dX11_narrowed_0 rfl (lv_at hl 0 rfl) ?_
  by_cases c1 : a1 = (0 : Int32)
  · have hf := c_it c1 hf
    refine lv_tableIn (off := 31) (tgt := 32) hx hb dX11_narrowed_1 (by rw [c1]; decide) (by rw [c1]; decide) (by rw [c1]; rfl) (by decide) ?_
    refine lv_lload_n hx hb dX11_narrowed_32 rfl (lv_at hl 1 rfl) ?_
    refine lv_l2i hx hb dX11_narrowed_33 rfl ?_
    refine lv_i2b hx hb dX11_narrowed_34 rfl ?_
    refine lv_i2l hx hb dX11_narrowed_35 rfl ?_
    exact c_lret hx hb hr hlk hP hS ⟨rfl, hf⟩ dX11_narrowed_36
  have hf := c_ie c1 hf
  by_cases c2 : a1 = (1 : Int32)
  · have hf := c_it c2 hf
    refine lv_tableIn (off := 36) (tgt := 37) hx hb dX11_narrowed_1 (by rw [c2]; decide) (by rw [c2]; decide) (by rw [c2]; rfl) (by decide) ?_
    refine lv_lload_n hx hb dX11_narrowed_37 rfl (lv_at hl 1 rfl) ?_
    refine lv_l2i hx hb dX11_narrowed_38 rfl ?_
    refine lv_i2s hx hb dX11_narrowed_39 rfl ?_
    refine lv_i2l hx hb dX11_narrowed_40 rfl ?_
    exact c_lret hx hb hr hlk hP hS ⟨rfl, hf⟩ dX11_narrowed_41
  have hf := c_ie c2 hf
  by_cases c3 : a1 = (2 : Int32)
  · have hf := c_it c3 hf
    refine lv_tableIn (off := 41) (tgt := 42) hx hb dX11_narrowed_1 (by rw [c3]; decide) (by rw [c3]; decide) (by rw [c3]; rfl) (by decide) ?_
    refine lv_lload_n hx hb dX11_narrowed_42 rfl (lv_at hl 1 rfl) ?_
    refine lv_l2i hx hb dX11_narrowed_43 rfl ?_
    refine lv_i2l hx hb dX11_narrowed_44 rfl ?_
    exact c_lret hx hb hr hlk hP hS ⟨rfl, hf⟩ dX11_narrowed_45
  have hf := c_ie c3 hf
  by_cases c4 : a1 = (3 : Int32)
  · have hf := c_it c4 hf
    refine lv_tableIn (off := 45) (tgt := 46) hx hb dX11_narrowed_1 (by rw [c4]; decide) (by rw [c4]; decide) (by rw [c4]; rfl) (by decide) ?_
    refine lv_lload_n hx hb dX11_narrowed_46 rfl (lv_at hl 1 rfl) ?_
    exact c_lret hx hb hr hlk hP hS ⟨rfl, hf⟩ dX11_narrowed_47
  have hf := c_ie c4 hf
  have h9 := c_sw (x := a1) (lo := 0) (n := 3) (by decide) (fun k hj hk => by rcases (show k = 0 ∨ k = 1 ∨ k = 2 ∨ k = 3 by omega) with rfl | rfl | rfl | rfl <;> assumption)
  refine lv_tableOut (tgt := 48) hx hb dX11_narrowed_1 (by omega) (by decide) ?_
  refine lv_lload_n hx hb dX11_narrowed_48 rfl (lv_at hl 1 rfl) ?_
  refine lv_lconst (v := (0 : Int64)) hx hb dX11_narrowed_49 (by decide) ?_
  refine W.lcmp hx hb dX11_narrowed_50 ?_
  refine lv_if_ne (tgt := 58) hx hb dX11_narrowed_51 (by decide) (fun c5 => ?_) (fun c5 => ?_)
  · have hf := c_ie c5 hf
    refine lv_lconst (v := (1 : Int64)) hx hb dX11_narrowed_58 (by decide) ?_
    exact c_lret hx hb hr hlk hP hS ⟨rfl, hf⟩ dX11_narrowed_59
  · have hf := c_it c5 hf
    refine lv_lconst (v := (0 : Int64)) hx hb dX11_narrowed_54 (by decide) ?_
    refine lv_goto (tgt := 59) hx hb dX11_narrowed_55 (by decide) ?_
    exact c_lret hx hb hr hlk hP hS ⟨rfl, hf⟩ dX11_narrowed_59
theorem i_X11_item_X11 : ∀ w ∈ u_ws RX11 TX11 19, w ∈ wsX11_item := c_inP [11, 12, 13, 14, 15, 16, 17, 18, 19, 20, 21, 22, 23, 24, 25, 26, 27, 28, 29] (by decide +kernel)
theorem dX11_item_0 : decode cX11_item 0 = .ok (.iload_n 1, 1) := by decide +kernel
theorem dX11_item_1 : decode cX11_item 1 = .ok (.invokestatic 278, 3) := by decide +kernel
theorem dX11_item_4 : decode cX11_item 4 = .ok (.ifCond .ne 5, 3) := by decide +kernel
theorem dX11_item_7 : decode cX11_item 7 = .ok (.iconst (-1), 1) := by decide +kernel
theorem dX11_item_8 : decode cX11_item 8 = .ok (.ireturn, 1) := by decide +kernel
theorem dX11_item_9 : decode cX11_item 9 = .ok (.aload_n 0, 1) := by decide +kernel
theorem dX11_item_10 : decode cX11_item 10 = .ok (.getfield 44, 3) := by decide +kernel
theorem dX11_item_13 : decode cX11_item 13 = .ok (.iload_n 1, 1) := by decide +kernel
theorem dX11_item_14 : decode cX11_item 14 = .ok (.iaload, 1) := by decide +kernel
theorem dX11_item_15 : decode cX11_item 15 = .ok (.bipush (-5), 2) := by decide +kernel
theorem dX11_item_17 : decode cX11_item 17 = .ok (.if_icmp .ne 6, 3) := by decide +kernel
theorem dX11_item_20 : decode cX11_item 20 = .ok (.bipush (-11), 2) := by decide +kernel
theorem dX11_item_22 : decode cX11_item 22 = .ok (.ireturn, 1) := by decide +kernel
theorem dX11_item_23 : decode cX11_item 23 = .ok (.iload_n 2, 1) := by decide +kernel
theorem dX11_item_24 : decode cX11_item 24 = .ok (.ifCond .lt 13, 3) := by decide +kernel
theorem dX11_item_27 : decode cX11_item 27 = .ok (.iload_n 2, 1) := by decide +kernel
theorem dX11_item_28 : decode cX11_item 28 = .ok (.aload_n 0, 1) := by decide +kernel
theorem dX11_item_29 : decode cX11_item 29 = .ok (.getfield 47, 3) := by decide +kernel
theorem dX11_item_32 : decode cX11_item 32 = .ok (.iload_n 1, 1) := by decide +kernel
theorem dX11_item_33 : decode cX11_item 33 = .ok (.iaload, 1) := by decide +kernel
theorem dX11_item_34 : decode cX11_item 34 = .ok (.if_icmp .lt 6, 3) := by decide +kernel
theorem dX11_item_37 : decode cX11_item 37 = .ok (.bipush (-13), 2) := by decide +kernel
theorem dX11_item_39 : decode cX11_item 39 = .ok (.ireturn, 1) := by decide +kernel
theorem dX11_item_40 : decode cX11_item 40 = .ok (.aload_n 0, 1) := by decide +kernel
theorem dX11_item_41 : decode cX11_item 41 = .ok (.getfield 52, 3) := by decide +kernel
theorem dX11_item_44 : decode cX11_item 44 = .ok (.iload_n 1, 1) := by decide +kernel
theorem dX11_item_45 : decode cX11_item 45 = .ok (.aaload, 1) := by decide +kernel
theorem dX11_item_46 : decode cX11_item 46 = .ok (.iload_n 2, 1) := by decide +kernel
theorem dX11_item_47 : decode cX11_item 47 = .ok (.aload_n 0, 1) := by decide +kernel
theorem dX11_item_48 : decode cX11_item 48 = .ok (.getfield 44, 3) := by decide +kernel
theorem dX11_item_51 : decode cX11_item 51 = .ok (.iload_n 1, 1) := by decide +kernel
theorem dX11_item_52 : decode cX11_item 52 = .ok (.iaload, 1) := by decide +kernel
theorem dX11_item_53 : decode cX11_item 53 = .ok (.lload_n 3, 1) := by decide +kernel
theorem dX11_item_54 : decode cX11_item 54 = .ok (.invokestatic 312, 3) := by decide +kernel
theorem dX11_item_57 : decode cX11_item 57 = .ok (.lastore, 1) := by decide +kernel
theorem dX11_item_58 : decode cX11_item 58 = .ok (.iconst 1, 1) := by decide +kernel
theorem dX11_item_59 : decode cX11_item 59 = .ok (.ireturn, 1) := by decide +kernel
set_option maxRecDepth 20000 in
theorem ggX11_item_X11_isTape : GoodIn wsX11_item wsX11_isTape := goodIn_r _ [7] (by decide +kernel) (by decide +kernel)
set_option maxRecDepth 20000 in
theorem gX11_item_X11_isTape : GoodIn wsX11_item (va_wsS RX11 278 yX11_isTape wsX11_isTape) := goodIn_app (goodIn_of _ (by decide +kernel)) ggX11_item_X11_isTape
set_option maxRecDepth 20000 in
theorem ggX11_item_X11_narrowed : GoodIn wsX11_item wsX11_narrowed := goodIn_r _ [10] (by decide +kernel) (by decide +kernel)
set_option maxRecDepth 20000 in
theorem gX11_item_X11_narrowed : GoodIn wsX11_item (va_wsS RX11 312 yX11_narrowed wsX11_narrowed) := goodIn_app (goodIn_of _ (by decide +kernel)) ggX11_item_X11_narrowed
def fX11_item (g : c_G) (a1 : Int32) (a2 : Int32) (a3 : Int64) : Option (c_G × Int32) :=
  if (fX11_isTape a1) = 0 then (some (g, (-1 : Int32))) else (if c_in (a1) (6) = true then if (g.1 10 (a1).toNatClampNeg) = (-5 : Int32) then (some (g, (-11 : Int32))) else (if a2 < 0 then (some (g, (-13 : Int32))) else (if a2 < (g.1 11 (a1).toNatClampNeg) then (c_let ((fX11_narrowed ((g.1 10 (a1).toNatClampNeg)) a3)) fun v6 => if c_in (a2) (60) = true then c_let (c_sl g (13 + (a1).toNatClampNeg) (a2).toNatClampNeg v6) fun g8 => some (g8, (1 : Int32)) else none) else (some (g, (-13 : Int32))))) else none)
set_option maxRecDepth 100000 in
set_option maxHeartbeats 4000000 in
theorem kX11_item {l : Launch} {D : va_G} {tc : Nat → ClassId} {ad : Nat → Nat} {A : Nat → Prop} {E : (Nat → Nat) × (Nat → Nat) × Nat} (hD : c_D A ad TC) {a1 : Int32} {a2 : Int32} {a3 : Int64} {g g' : c_G} {r : Int32} (hf : fX11_item g a1 a2 a3 = some (g', r)) : c_Mi l yX11_item wsX11_item (c_rm 1) D tc ad A E TC ([.ref (ad 0), .int a1, .int a2, .long a3] : List Value) g g' r := by
  refine c_ofW (bytes := cX11_item) (maxL := 5) (ret := (some .int)) (by decide) rfl (Nat.le_of_ble_eq_true rfl) ?_
  intro p e s m below meth c ls C hP hS hl
  unfold fX11_item at hf
  obtain ⟨hx, hb, hr, hml, hts, hown, hlk, hK, hE⟩ := id C
  have hl : lv_has ls 5 [(0, .ref (ad 0)), (1, .int a1), (2, .int a2), (3, .long a3)] := hl
  refine lv_iload_n hx hb dX11_item_0 rfl (lv_at hl 1 rfl) ?_
  refine c_goi (va_runS (As := [.int a1]) (rest := []) ⟨hx, hb, hml, hown, hts⟩ (kX11_isTape (T := TC) (g := g) rfl) (va_cwS 1 hts gX11_item_X11_isTape rfl rfl rfl (by decide +kernel) ⟨Nat.le_of_ble_eq_true rfl, Nat.le_of_ble_eq_true rfl⟩) (c_preS hK hP hE hS) rfl rfl hl.1 rfl (lv_room (Nat.le_of_ble_eq_true rfl)) dX11_item_1 ⟨Nat.zero_le _, Nat.zero_le _⟩) hS (fun H locs hP hS => ?_)
  refine lv_if_ne (tgt := 9) hx hb dX11_item_4 (by decide) (fun c1 => ?_) (fun c1 => ?_)
  · have hf := c_ie c1 hf
    refine lv_aload_n hx hb dX11_item_9 rfl (lv_at hl 0 rfl) ?_
    refine c_get hx hb hts i_X11_item_X11 hown hK hP 0 tC0 rfl 16 (by decide) (hts _ (List.mem_of_getElem? (i := 1) rfl)) (fun _ h9 => h9) rfl (v := .ref (ad 10)) rfl dX11_item_10 ?_
    refine lv_iload_n hx hb dX11_item_13 rfl (lv_at hl 1 rfl) ?_
    obtain ⟨hi2, hf⟩ := c_gd hf
    refine c_iald (j := (a1).toNatClampNeg) hx hb hK hP 10 tC10 rfl (c_inV hi2) dX11_item_14 ?_
    refine lv_bipush (v := (-5 : Int32)) hx hb dX11_item_15 (by decide) ?_
    refine lv_icmp_ne (tgt := 23) hx hb dX11_item_17 (by decide) (fun c3 => ?_) (fun c3 => ?_)
    · have hf := c_ie c3 hf
      refine lv_iload_n hx hb dX11_item_23 rfl (lv_at hl 2 rfl) ?_
      refine lv_if_lt (tgt := 37) hx hb dX11_item_24 (by decide) (fun c4 => ?_) (fun c4 => ?_)
      · have hf := c_it c4 hf
        refine lv_bipush (v := (-13 : Int32)) hx hb dX11_item_37 (by decide) ?_
        exact c_iret hx hb hr hlk hP hS rfl (c_inj hf) dX11_item_39
      · have hf := c_ie c4 hf
        refine lv_iload_n hx hb dX11_item_27 rfl (lv_at hl 2 rfl) ?_
        refine lv_aload_n hx hb dX11_item_28 rfl (lv_at hl 0 rfl) ?_
        refine c_get hx hb hts i_X11_item_X11 hown hK hP 0 tC0 rfl 17 (by decide) (hts _ (List.mem_of_getElem? (i := 2) rfl)) (fun _ h9 => h9) rfl (v := .ref (ad 11)) rfl dX11_item_29 ?_
        refine lv_iload_n hx hb dX11_item_32 rfl (lv_at hl 1 rfl) ?_
        refine c_iald (j := (a1).toNatClampNeg) hx hb hK hP 11 tC11 rfl (c_inV hi2) dX11_item_33 ?_
        refine lv_icmp_lt (tgt := 40) hx hb dX11_item_34 (by decide) (fun c5 => ?_) (fun c5 => ?_)
        · have hf := c_it c5 hf
          refine lv_aload_n hx hb dX11_item_40 rfl (lv_at hl 0 rfl) ?_
          refine c_get hx hb hts i_X11_item_X11 hown hK hP 0 tC0 rfl 18 (by decide) (hts _ (List.mem_of_getElem? (i := 3) rfl)) (fun _ h9 => h9) rfl (v := .ref (ad 12)) rfl dX11_item_41 ?_
          refine lv_iload_n hx hb dX11_item_44 rfl (lv_at hl 1 rfl) ?_
          refine c_aald7 hx hb hK hP 12 tC12 (c_inV hi2) (y := (13 + (a1).toNatClampNeg)) (c_tA (c_iN hi2)) dX11_item_45 ?_
          refine lv_iload_n hx hb dX11_item_46 rfl (lv_at hl 2 rfl) ?_
          refine lv_aload_n hx hb dX11_item_47 rfl (lv_at hl 0 rfl) ?_
          refine c_get hx hb hts i_X11_item_X11 hown hK hP 0 tC0 rfl 16 (by decide) (hts _ (List.mem_of_getElem? (i := 1) rfl)) (fun _ h9 => h9) rfl (v := .ref (ad 10)) rfl dX11_item_48 ?_
          refine lv_iload_n hx hb dX11_item_51 rfl (lv_at hl 1 rfl) ?_
          refine c_iald (j := (a1).toNatClampNeg) hx hb hK hP 10 tC10 rfl (c_inV hi2) dX11_item_52 ?_
          refine lv_lload_n hx hb dX11_item_53 rfl (lv_at hl 3 rfl) ?_
          refine c_gol (va_runS (As := [.int (g.1 10 (a1).toNatClampNeg), .long a3]) (rest := [.int a2, .ref (ad (13 + (a1).toNatClampNeg))]) ⟨hx, hb, hml, hown, hts⟩ (kX11_narrowed (T := TC) (g := g) rfl) (va_cwS 2 hts gX11_item_X11_narrowed rfl rfl rfl (by decide +kernel) ⟨Nat.le_of_ble_eq_true rfl, Nat.le_of_ble_eq_true rfl⟩) (c_preS hK hP hE hS) rfl rfl hl.1 rfl (lv_room (Nat.le_of_ble_eq_true rfl)) dX11_item_54 ⟨Nat.zero_le _, Nat.zero_le _⟩) hS (fun H locs hP hS => ?_)
          obtain ⟨v6, ev6, hf⟩ := c_letE hf
          refine c_topl ev6 ?_
          obtain ⟨hi7, hf⟩ := c_gd hf
          obtain ⟨g8, eg8, hf⟩ := c_letE hf
          refine c_last (j := (a2).toNatClampNeg) hx hb hK hP hD hS (13 + (a1).toNatClampNeg) (c_tB (c_iN hi2)) rfl (c_inV hi7) eg8 dX11_item_57 (fun H locs hP hS => ?_)
          refine lv_iconst (v := (1 : Int32)) hx hb dX11_item_58 (by decide) ?_
          exact c_iret hx hb hr hlk hP hS rfl (c_inj hf) dX11_item_59
        · have hf := c_ie c5 hf
          refine lv_bipush (v := (-13 : Int32)) hx hb dX11_item_37 (by decide) ?_
          exact c_iret hx hb hr hlk hP hS rfl (c_inj hf) dX11_item_39
    · have hf := c_it c3 hf
      refine lv_bipush (v := (-11 : Int32)) hx hb dX11_item_20 (by decide) ?_
      exact c_iret hx hb hr hlk hP hS rfl (c_inj hf) dX11_item_22
  · have hf := c_it c1 hf
    refine lv_iconst (v := (-1 : Int32)) hx hb dX11_item_7 (by decide) ?_
    exact c_iret hx hb hr hlk hP hS rfl (c_inj hf) dX11_item_8
theorem i_X11_read_X11 : ∀ w ∈ u_ws RX11 TX11 19, w ∈ wsX11_read := c_inP [9, 10, 11, 12, 13, 14, 15, 16, 17, 18, 19, 20, 21, 22, 23, 24, 25, 26, 27] (by decide +kernel)
theorem dX11_read_0 : decode cX11_read 0 = .ok (.iload_n 1, 1) := by decide +kernel
theorem dX11_read_1 : decode cX11_read 1 = .ok (.invokestatic 278, 3) := by decide +kernel
theorem dX11_read_4 : decode cX11_read 4 = .ok (.ifCond .eq 14, 3) := by decide +kernel
theorem dX11_read_7 : decode cX11_read 7 = .ok (.aload_n 0, 1) := by decide +kernel
theorem dX11_read_8 : decode cX11_read 8 = .ok (.getfield 44, 3) := by decide +kernel
theorem dX11_read_11 : decode cX11_read 11 = .ok (.iload_n 1, 1) := by decide +kernel
theorem dX11_read_12 : decode cX11_read 12 = .ok (.iaload, 1) := by decide +kernel
theorem dX11_read_13 : decode cX11_read 13 = .ok (.bipush (-5), 2) := by decide +kernel
theorem dX11_read_15 : decode cX11_read 15 = .ok (.if_icmp .ne 7, 3) := by decide +kernel
theorem dX11_read_18 : decode cX11_read 18 = .ok (.ldc2_w 251, 3) := by decide +kernel
theorem dX11_read_21 : decode cX11_read 21 = .ok (.lreturn, 1) := by decide +kernel
theorem dX11_read_22 : decode cX11_read 22 = .ok (.iload_n 2, 1) := by decide +kernel
theorem dX11_read_23 : decode cX11_read 23 = .ok (.ifCond .lt 13, 3) := by decide +kernel
theorem dX11_read_26 : decode cX11_read 26 = .ok (.iload_n 2, 1) := by decide +kernel
theorem dX11_read_27 : decode cX11_read 27 = .ok (.aload_n 0, 1) := by decide +kernel
theorem dX11_read_28 : decode cX11_read 28 = .ok (.getfield 47, 3) := by decide +kernel
theorem dX11_read_31 : decode cX11_read 31 = .ok (.iload_n 1, 1) := by decide +kernel
theorem dX11_read_32 : decode cX11_read 32 = .ok (.iaload, 1) := by decide +kernel
theorem dX11_read_33 : decode cX11_read 33 = .ok (.if_icmp .lt 9, 3) := by decide +kernel
theorem dX11_read_36 : decode cX11_read 36 = .ok (.ldc2_w 251, 3) := by decide +kernel
theorem dX11_read_39 : decode cX11_read 39 = .ok (.goto 11, 3) := by decide +kernel
theorem dX11_read_42 : decode cX11_read 42 = .ok (.aload_n 0, 1) := by decide +kernel
theorem dX11_read_43 : decode cX11_read 43 = .ok (.getfield 52, 3) := by decide +kernel
theorem dX11_read_46 : decode cX11_read 46 = .ok (.iload_n 1, 1) := by decide +kernel
theorem dX11_read_47 : decode cX11_read 47 = .ok (.aaload, 1) := by decide +kernel
theorem dX11_read_48 : decode cX11_read 48 = .ok (.iload_n 2, 1) := by decide +kernel
theorem dX11_read_49 : decode cX11_read 49 = .ok (.laload, 1) := by decide +kernel
theorem dX11_read_50 : decode cX11_read 50 = .ok (.lreturn, 1) := by decide +kernel
set_option maxRecDepth 20000 in
theorem ggX11_read_X11_isTape : GoodIn wsX11_read wsX11_isTape := goodIn_r _ [8] (by decide +kernel) (by decide +kernel)
set_option maxRecDepth 20000 in
theorem gX11_read_X11_isTape : GoodIn wsX11_read (va_wsS RX11 278 yX11_isTape wsX11_isTape) := goodIn_app (goodIn_of _ (by decide +kernel)) ggX11_read_X11_isTape
def fX11_read (g : c_G) (a1 : Int32) (a2 : Int32) : Option (Int64) :=
  if (fX11_isTape a1) = 0 then (some (-9223372036854775808 : Int64)) else (if c_in (a1) (6) = true then if (g.1 10 (a1).toNatClampNeg) = (-5 : Int32) then (some (-9223372036854775808 : Int64)) else (if a2 < 0 then (some (-9223372036854775808 : Int64)) else (if a2 < (g.1 11 (a1).toNatClampNeg) then (if c_in (a2) (60) = true then some (g.2.1 (13 + (a1).toNatClampNeg) (a2).toNatClampNeg) else none) else (some (-9223372036854775808 : Int64)))) else none)
set_option maxRecDepth 100000 in
set_option maxHeartbeats 4000000 in
theorem kX11_read {l : Launch} {D : va_G} {tc : Nat → ClassId} {ad : Nat → Nat} {A : Nat → Prop} {E : (Nat → Nat) × (Nat → Nat) × Nat} (hD : c_D A ad TC) {a1 : Int32} {a2 : Int32} {g : c_G} {r : Int64} (hf : fX11_read g a1 a2 = some r) : c_Ml l yX11_read wsX11_read (c_rm 1) D tc ad A E TC ([.ref (ad 0), .int a1, .int a2] : List Value) g g r := by
  refine c_ofW (bytes := cX11_read) (maxL := 3) (ret := (some .long)) (by decide) rfl (Nat.le_of_ble_eq_true rfl) ?_
  intro p e s m below meth c ls C hP hS hl
  unfold fX11_read at hf
  obtain ⟨hx, hb, hr, hml, hts, hown, hlk, hK, hE⟩ := id C
  have hl : lv_has ls 3 [(0, .ref (ad 0)), (1, .int a1), (2, .int a2)] := hl
  refine lv_iload_n hx hb dX11_read_0 rfl (lv_at hl 1 rfl) ?_
  refine c_goi (va_runS (As := [.int a1]) (rest := []) ⟨hx, hb, hml, hown, hts⟩ (kX11_isTape (T := TC) (g := g) rfl) (va_cwS 1 hts gX11_read_X11_isTape rfl rfl rfl (by decide +kernel) ⟨Nat.le_of_ble_eq_true rfl, Nat.le_of_ble_eq_true rfl⟩) (c_preS hK hP hE hS) rfl rfl hl.1 rfl (lv_room (Nat.le_of_ble_eq_true rfl)) dX11_read_1 ⟨Nat.zero_le _, Nat.zero_le _⟩) hS (fun H locs hP hS => ?_)
  refine lv_if_eq (tgt := 18) hx hb dX11_read_4 (by decide) (fun c1 => ?_) (fun c1 => ?_)
  · have hf := c_it c1 hf
    refine lv_ldc2 hx hb hown (v := (-9223372036854775808 : Int64)) (hts _ (List.mem_of_getElem? (i := 2) rfl)) dX11_read_18 ?_
    exact c_lret hx hb hr hlk hP hS ⟨rfl, Option.some.inj hf⟩ dX11_read_21
  · have hf := c_ie c1 hf
    refine lv_aload_n hx hb dX11_read_7 rfl (lv_at hl 0 rfl) ?_
    refine c_get hx hb hts i_X11_read_X11 hown hK hP 0 tC0 rfl 16 (by decide) (hts _ (List.mem_of_getElem? (i := 1) rfl)) (fun _ h9 => h9) rfl (v := .ref (ad 10)) rfl dX11_read_8 ?_
    refine lv_iload_n hx hb dX11_read_11 rfl (lv_at hl 1 rfl) ?_
    obtain ⟨hi2, hf⟩ := c_gd hf
    refine c_iald (j := (a1).toNatClampNeg) hx hb hK hP 10 tC10 rfl (c_inV hi2) dX11_read_12 ?_
    refine lv_bipush (v := (-5 : Int32)) hx hb dX11_read_13 (by decide) ?_
    refine lv_icmp_ne (tgt := 22) hx hb dX11_read_15 (by decide) (fun c3 => ?_) (fun c3 => ?_)
    · have hf := c_ie c3 hf
      refine lv_iload_n hx hb dX11_read_22 rfl (lv_at hl 2 rfl) ?_
      refine lv_if_lt (tgt := 36) hx hb dX11_read_23 (by decide) (fun c4 => ?_) (fun c4 => ?_)
      · have hf := c_it c4 hf
        refine lv_ldc2 hx hb hown (v := (-9223372036854775808 : Int64)) (hts _ (List.mem_of_getElem? (i := 2) rfl)) dX11_read_36 ?_
        refine lv_goto (tgt := 50) hx hb dX11_read_39 (by decide) ?_
        exact c_lret hx hb hr hlk hP hS ⟨rfl, Option.some.inj hf⟩ dX11_read_50
      · have hf := c_ie c4 hf
        refine lv_iload_n hx hb dX11_read_26 rfl (lv_at hl 2 rfl) ?_
        refine lv_aload_n hx hb dX11_read_27 rfl (lv_at hl 0 rfl) ?_
        refine c_get hx hb hts i_X11_read_X11 hown hK hP 0 tC0 rfl 17 (by decide) (hts _ (List.mem_of_getElem? (i := 3) rfl)) (fun _ h9 => h9) rfl (v := .ref (ad 11)) rfl dX11_read_28 ?_
        refine lv_iload_n hx hb dX11_read_31 rfl (lv_at hl 1 rfl) ?_
        refine c_iald (j := (a1).toNatClampNeg) hx hb hK hP 11 tC11 rfl (c_inV hi2) dX11_read_32 ?_
        refine lv_icmp_lt (tgt := 42) hx hb dX11_read_33 (by decide) (fun c5 => ?_) (fun c5 => ?_)
        · have hf := c_it c5 hf
          refine lv_aload_n hx hb dX11_read_42 rfl (lv_at hl 0 rfl) ?_
          refine c_get hx hb hts i_X11_read_X11 hown hK hP 0 tC0 rfl 18 (by decide) (hts _ (List.mem_of_getElem? (i := 4) rfl)) (fun _ h9 => h9) rfl (v := .ref (ad 12)) rfl dX11_read_43 ?_
          refine lv_iload_n hx hb dX11_read_46 rfl (lv_at hl 1 rfl) ?_
          refine c_aald7 hx hb hK hP 12 tC12 (c_inV hi2) (y := (13 + (a1).toNatClampNeg)) (c_tA (c_iN hi2)) dX11_read_47 ?_
          refine lv_iload_n hx hb dX11_read_48 rfl (lv_at hl 2 rfl) ?_
          obtain ⟨hi6, hf⟩ := c_gd hf
          refine c_lald (j := (a2).toNatClampNeg) hx hb hK hP (13 + (a1).toNatClampNeg) (c_tB (c_iN hi2)) rfl (c_inV hi6) dX11_read_49 ?_
          exact c_lret hx hb hr hlk hP hS ⟨rfl, Option.some.inj hf⟩ dX11_read_50
        · have hf := c_ie c5 hf
          refine lv_ldc2 hx hb hown (v := (-9223372036854775808 : Int64)) (hts _ (List.mem_of_getElem? (i := 2) rfl)) dX11_read_36 ?_
          refine lv_goto (tgt := 50) hx hb dX11_read_39 (by decide) ?_
          exact c_lret hx hb hr hlk hP hS ⟨rfl, Option.some.inj hf⟩ dX11_read_50
    · have hf := c_it c3 hf
      refine lv_ldc2 hx hb hown (v := (-9223372036854775808 : Int64)) (hts _ (List.mem_of_getElem? (i := 2) rfl)) dX11_read_18 ?_
      exact c_lret hx hb hr hlk hP hS ⟨rfl, Option.some.inj hf⟩ dX11_read_21
theorem i_X11_shift_X11 : ∀ w ∈ u_ws RX11 TX11 19, w ∈ wsX11_shift := c_inP [12, 13, 14, 15, 16, 17, 18, 19, 20, 21, 22, 23, 24, 25, 26, 27, 28, 29, 30] (by decide +kernel)
theorem dX11_shift_0 : decode cX11_shift 0 = .ok (.iload_n 1, 1) := by decide +kernel
theorem dX11_shift_1 : decode cX11_shift 1 = .ok (.invokestatic 278, 3) := by decide +kernel
theorem dX11_shift_4 : decode cX11_shift 4 = .ok (.ifCond .eq 10, 3) := by decide +kernel
theorem dX11_shift_7 : decode cX11_shift 7 = .ok (.iload_n 3, 1) := by decide +kernel
theorem dX11_shift_8 : decode cX11_shift 8 = .ok (.invokestatic 278, 3) := by decide +kernel
theorem dX11_shift_11 : decode cX11_shift 11 = .ok (.ifCond .ne 5, 3) := by decide +kernel
theorem dX11_shift_14 : decode cX11_shift 14 = .ok (.iconst (-1), 1) := by decide +kernel
theorem dX11_shift_15 : decode cX11_shift 15 = .ok (.ireturn, 1) := by decide +kernel
theorem dX11_shift_16 : decode cX11_shift 16 = .ok (.aload_n 0, 1) := by decide +kernel
theorem dX11_shift_17 : decode cX11_shift 17 = .ok (.getfield 44, 3) := by decide +kernel
theorem dX11_shift_20 : decode cX11_shift 20 = .ok (.iload_n 1, 1) := by decide +kernel
theorem dX11_shift_21 : decode cX11_shift 21 = .ok (.iaload, 1) := by decide +kernel
theorem dX11_shift_22 : decode cX11_shift 22 = .ok (.bipush (-5), 2) := by decide +kernel
theorem dX11_shift_24 : decode cX11_shift 24 = .ok (.if_icmp .eq 14, 3) := by decide +kernel
theorem dX11_shift_27 : decode cX11_shift 27 = .ok (.aload_n 0, 1) := by decide +kernel
theorem dX11_shift_28 : decode cX11_shift 28 = .ok (.getfield 44, 3) := by decide +kernel
theorem dX11_shift_31 : decode cX11_shift 31 = .ok (.iload_n 3, 1) := by decide +kernel
theorem dX11_shift_32 : decode cX11_shift 32 = .ok (.iaload, 1) := by decide +kernel
theorem dX11_shift_33 : decode cX11_shift 33 = .ok (.bipush (-5), 2) := by decide +kernel
theorem dX11_shift_35 : decode cX11_shift 35 = .ok (.if_icmp .ne 6, 3) := by decide +kernel
theorem dX11_shift_38 : decode cX11_shift 38 = .ok (.bipush (-11), 2) := by decide +kernel
theorem dX11_shift_40 : decode cX11_shift 40 = .ok (.ireturn, 1) := by decide +kernel
theorem dX11_shift_41 : decode cX11_shift 41 = .ok (.aload_n 0, 1) := by decide +kernel
theorem dX11_shift_42 : decode cX11_shift 42 = .ok (.getfield 44, 3) := by decide +kernel
theorem dX11_shift_45 : decode cX11_shift 45 = .ok (.iload_n 1, 1) := by decide +kernel
theorem dX11_shift_46 : decode cX11_shift 46 = .ok (.iaload, 1) := by decide +kernel
theorem dX11_shift_47 : decode cX11_shift 47 = .ok (.aload_n 0, 1) := by decide +kernel
theorem dX11_shift_48 : decode cX11_shift 48 = .ok (.getfield 44, 3) := by decide +kernel
theorem dX11_shift_51 : decode cX11_shift 51 = .ok (.iload_n 3, 1) := by decide +kernel
theorem dX11_shift_52 : decode cX11_shift 52 = .ok (.iaload, 1) := by decide +kernel
theorem dX11_shift_53 : decode cX11_shift 53 = .ok (.if_icmp .eq 6, 3) := by decide +kernel
theorem dX11_shift_56 : decode cX11_shift 56 = .ok (.bipush (-12), 2) := by decide +kernel
theorem dX11_shift_58 : decode cX11_shift 58 = .ok (.ireturn, 1) := by decide +kernel
theorem dX11_shift_59 : decode cX11_shift 59 = .ok (.iload 5, 2) := by decide +kernel
theorem dX11_shift_61 : decode cX11_shift 61 = .ok (.ifCond .lt 12, 3) := by decide +kernel
theorem dX11_shift_64 : decode cX11_shift 64 = .ok (.iload_n 2, 1) := by decide +kernel
theorem dX11_shift_65 : decode cX11_shift 65 = .ok (.ifCond .lt 8, 3) := by decide +kernel
theorem dX11_shift_68 : decode cX11_shift 68 = .ok (.iload 4, 2) := by decide +kernel
theorem dX11_shift_70 : decode cX11_shift 70 = .ok (.ifCond .ge 6, 3) := by decide +kernel
theorem dX11_shift_73 : decode cX11_shift 73 = .ok (.bipush (-13), 2) := by decide +kernel
theorem dX11_shift_75 : decode cX11_shift 75 = .ok (.ireturn, 1) := by decide +kernel
theorem dX11_shift_76 : decode cX11_shift 76 = .ok (.iload 5, 2) := by decide +kernel
theorem dX11_shift_78 : decode cX11_shift 78 = .ok (.aload_n 0, 1) := by decide +kernel
theorem dX11_shift_79 : decode cX11_shift 79 = .ok (.getfield 47, 3) := by decide +kernel
theorem dX11_shift_82 : decode cX11_shift 82 = .ok (.iload_n 1, 1) := by decide +kernel
theorem dX11_shift_83 : decode cX11_shift 83 = .ok (.iaload, 1) := by decide +kernel
theorem dX11_shift_84 : decode cX11_shift 84 = .ok (.iload_n 2, 1) := by decide +kernel
theorem dX11_shift_85 : decode cX11_shift 85 = .ok (.isub, 1) := by decide +kernel
theorem dX11_shift_86 : decode cX11_shift 86 = .ok (.if_icmp .gt 17, 3) := by decide +kernel
theorem dX11_shift_89 : decode cX11_shift 89 = .ok (.iload 5, 2) := by decide +kernel
theorem dX11_shift_91 : decode cX11_shift 91 = .ok (.aload_n 0, 1) := by decide +kernel
theorem dX11_shift_92 : decode cX11_shift 92 = .ok (.getfield 47, 3) := by decide +kernel
theorem dX11_shift_95 : decode cX11_shift 95 = .ok (.iload_n 3, 1) := by decide +kernel
theorem dX11_shift_96 : decode cX11_shift 96 = .ok (.iaload, 1) := by decide +kernel
theorem dX11_shift_97 : decode cX11_shift 97 = .ok (.iload 4, 2) := by decide +kernel
theorem dX11_shift_99 : decode cX11_shift 99 = .ok (.isub, 1) := by decide +kernel
theorem dX11_shift_100 : decode cX11_shift 100 = .ok (.if_icmp .le 6, 3) := by decide +kernel
theorem dX11_shift_103 : decode cX11_shift 103 = .ok (.bipush (-13), 2) := by decide +kernel
theorem dX11_shift_105 : decode cX11_shift 105 = .ok (.ireturn, 1) := by decide +kernel
theorem dX11_shift_106 : decode cX11_shift 106 = .ok (.aload_n 0, 1) := by decide +kernel
theorem dX11_shift_107 : decode cX11_shift 107 = .ok (.getfield 52, 3) := by decide +kernel
theorem dX11_shift_110 : decode cX11_shift 110 = .ok (.iload_n 1, 1) := by decide +kernel
theorem dX11_shift_111 : decode cX11_shift 111 = .ok (.aaload, 1) := by decide +kernel
theorem dX11_shift_112 : decode cX11_shift 112 = .ok (.iload_n 2, 1) := by decide +kernel
theorem dX11_shift_113 : decode cX11_shift 113 = .ok (.aload_n 0, 1) := by decide +kernel
theorem dX11_shift_114 : decode cX11_shift 114 = .ok (.getfield 52, 3) := by decide +kernel
theorem dX11_shift_117 : decode cX11_shift 117 = .ok (.iload_n 3, 1) := by decide +kernel
theorem dX11_shift_118 : decode cX11_shift 118 = .ok (.aaload, 1) := by decide +kernel
theorem dX11_shift_119 : decode cX11_shift 119 = .ok (.iload 4, 2) := by decide +kernel
theorem dX11_shift_121 : decode cX11_shift 121 = .ok (.iload 5, 2) := by decide +kernel
theorem dX11_shift_123 : decode cX11_shift 123 = .ok (.invokestatic 316, 3) := by decide +kernel
theorem dX11_shift_126 : decode cX11_shift 126 = .ok (.iload 5, 2) := by decide +kernel
theorem dX11_shift_128 : decode cX11_shift 128 = .ok (.ireturn, 1) := by decide +kernel
set_option maxRecDepth 20000 in
theorem ggX11_shift_X11_isTape : GoodIn wsX11_shift wsX11_isTape := goodIn_r _ [11] (by decide +kernel) (by decide +kernel)
set_option maxRecDepth 20000 in
theorem gX11_shift_X11_isTape : GoodIn wsX11_shift (va_wsS RX11 278 yX11_isTape wsX11_isTape) := goodIn_app (goodIn_of _ (by decide +kernel)) ggX11_shift_X11_isTape
def fX11_shift (g : c_G) (a1 : Int32) (a2 : Int32) (a3 : Int32) (a4 : Int32) (a5 : Int32) : Option (c_G × Int32) :=
  if (fX11_isTape a1) = 0 then (some (g, (-1 : Int32))) else (if (fX11_isTape a3) = 0 then (some (g, (-1 : Int32))) else (if c_in (a1) (6) = true then if (g.1 10 (a1).toNatClampNeg) = (-5 : Int32) then (some (g, (-11 : Int32))) else (if c_in (a3) (6) = true then if (g.1 10 (a3).toNatClampNeg) = (-5 : Int32) then (some (g, (-11 : Int32))) else (if (g.1 10 (a1).toNatClampNeg) = (g.1 10 (a3).toNatClampNeg) then (if a5 < 0 then (some (g, (-13 : Int32))) else (if a2 < 0 then (some (g, (-13 : Int32))) else (if 0 ≤ a4 then (if ((g.1 11 (a1).toNatClampNeg) - a2) < a5 then (some (g, (-13 : Int32))) else (if a5 ≤ ((g.1 11 (a3).toNatClampNeg) - a4) then (if c_cp (a2) (a4) (a5) 60 60 = true then c_let (c_sq g (13 + (a3).toNatClampNeg) (va_cpy (g.2.1 (13 + (a1).toNatClampNeg)) (g.2.1 (13 + (a3).toNatClampNeg)) (a2).toNatClampNeg (a4).toNatClampNeg (a5).toNatClampNeg)) fun g14 => some (g14, a5) else none) else (some (g, (-13 : Int32))))) else (some (g, (-13 : Int32)))))) else (some (g, (-12 : Int32)))) else none) else none))
set_option maxRecDepth 100000 in
set_option maxHeartbeats 4000000 in
theorem kX11_shift {l : Launch} {D : va_G} {tc : Nat → ClassId} {ad : Nat → Nat} {A : Nat → Prop} {E : (Nat → Nat) × (Nat → Nat) × Nat} (hD : c_D A ad TC) {a1 : Int32} {a2 : Int32} {a3 : Int32} {a4 : Int32} {a5 : Int32} {g g' : c_G} {r : Int32} (hf : fX11_shift g a1 a2 a3 a4 a5 = some (g', r)) : c_Mi l yX11_shift wsX11_shift (c_rm 1) D tc ad A E TC ([.ref (ad 0), .int a1, .int a2, .int a3, .int a4, .int a5] : List Value) g g' r := by
  refine c_ofW (bytes := cX11_shift) (maxL := 6) (ret := (some .int)) (by decide) rfl (Nat.le_of_ble_eq_true rfl) ?_
  intro p e s m below meth c ls C hP hS hl
  unfold fX11_shift at hf
  obtain ⟨hx, hb, hr, hml, hts, hown, hlk, hK, hE⟩ := id C
  have hl : lv_has ls 6 [(0, .ref (ad 0)), (1, .int a1), (2, .int a2), (3, .int a3), (4, .int a4), (5, .int a5)] := hl
  refine lv_iload_n hx hb dX11_shift_0 rfl (lv_at hl 1 rfl) ?_
  refine c_goi (va_runS (As := [.int a1]) (rest := []) ⟨hx, hb, hml, hown, hts⟩ (kX11_isTape (T := TC) (g := g) rfl) (va_cwS 1 hts gX11_shift_X11_isTape rfl rfl rfl (by decide +kernel) ⟨Nat.le_of_ble_eq_true rfl, Nat.le_of_ble_eq_true rfl⟩) (c_preS hK hP hE hS) rfl rfl hl.1 rfl (lv_room (Nat.le_of_ble_eq_true rfl)) dX11_shift_1 ⟨Nat.zero_le _, Nat.zero_le _⟩) hS (fun H locs hP hS => ?_)
  refine lv_if_eq (tgt := 14) hx hb dX11_shift_4 (by decide) (fun c1 => ?_) (fun c1 => ?_)
  · have hf := c_it c1 hf
    refine lv_iconst (v := (-1 : Int32)) hx hb dX11_shift_14 (by decide) ?_
    exact c_iret hx hb hr hlk hP hS rfl (c_inj hf) dX11_shift_15
  · have hf := c_ie c1 hf
    refine lv_iload_n hx hb dX11_shift_7 rfl (lv_at hl 3 rfl) ?_
    refine c_goi (va_runS (As := [.int a3]) (rest := []) ⟨hx, hb, hml, hown, hts⟩ (kX11_isTape (T := TC) (g := g) rfl) (va_cwS 1 hts gX11_shift_X11_isTape rfl rfl rfl (by decide +kernel) ⟨Nat.le_of_ble_eq_true rfl, Nat.le_of_ble_eq_true rfl⟩) (c_preS hK hP hE hS) rfl rfl hl.1 rfl (lv_room (Nat.le_of_ble_eq_true rfl)) dX11_shift_8 ⟨Nat.zero_le _, Nat.zero_le _⟩) hS (fun H locs hP hS => ?_)
    refine lv_if_ne (tgt := 16) hx hb dX11_shift_11 (by decide) (fun c2 => ?_) (fun c2 => ?_)
    · have hf := c_ie c2 hf
      refine lv_aload_n hx hb dX11_shift_16 rfl (lv_at hl 0 rfl) ?_
      refine c_get hx hb hts i_X11_shift_X11 hown hK hP 0 tC0 rfl 16 (by decide) (hts _ (List.mem_of_getElem? (i := 1) rfl)) (fun _ h9 => h9) rfl (v := .ref (ad 10)) rfl dX11_shift_17 ?_
      refine lv_iload_n hx hb dX11_shift_20 rfl (lv_at hl 1 rfl) ?_
      obtain ⟨hi3, hf⟩ := c_gd hf
      refine c_iald (j := (a1).toNatClampNeg) hx hb hK hP 10 tC10 rfl (c_inV hi3) dX11_shift_21 ?_
      refine lv_bipush (v := (-5 : Int32)) hx hb dX11_shift_22 (by decide) ?_
      refine lv_icmp_eq (tgt := 38) hx hb dX11_shift_24 (by decide) (fun c4 => ?_) (fun c4 => ?_)
      · have hf := c_it c4 hf
        refine lv_bipush (v := (-11 : Int32)) hx hb dX11_shift_38 (by decide) ?_
        exact c_iret hx hb hr hlk hP hS rfl (c_inj hf) dX11_shift_40
      · have hf := c_ie c4 hf
        refine lv_aload_n hx hb dX11_shift_27 rfl (lv_at hl 0 rfl) ?_
        refine c_get hx hb hts i_X11_shift_X11 hown hK hP 0 tC0 rfl 16 (by decide) (hts _ (List.mem_of_getElem? (i := 1) rfl)) (fun _ h9 => h9) rfl (v := .ref (ad 10)) rfl dX11_shift_28 ?_
        refine lv_iload_n hx hb dX11_shift_31 rfl (lv_at hl 3 rfl) ?_
        obtain ⟨hi5, hf⟩ := c_gd hf
        refine c_iald (j := (a3).toNatClampNeg) hx hb hK hP 10 tC10 rfl (c_inV hi5) dX11_shift_32 ?_
        refine lv_bipush (v := (-5 : Int32)) hx hb dX11_shift_33 (by decide) ?_
        refine lv_icmp_ne (tgt := 41) hx hb dX11_shift_35 (by decide) (fun c6 => ?_) (fun c6 => ?_)
        · have hf := c_ie c6 hf
          refine lv_aload_n hx hb dX11_shift_41 rfl (lv_at hl 0 rfl) ?_
          refine c_get hx hb hts i_X11_shift_X11 hown hK hP 0 tC0 rfl 16 (by decide) (hts _ (List.mem_of_getElem? (i := 1) rfl)) (fun _ h9 => h9) rfl (v := .ref (ad 10)) rfl dX11_shift_42 ?_
          refine lv_iload_n hx hb dX11_shift_45 rfl (lv_at hl 1 rfl) ?_
          refine c_iald (j := (a1).toNatClampNeg) hx hb hK hP 10 tC10 rfl (c_inV hi3) dX11_shift_46 ?_
          refine lv_aload_n hx hb dX11_shift_47 rfl (lv_at hl 0 rfl) ?_
          refine c_get hx hb hts i_X11_shift_X11 hown hK hP 0 tC0 rfl 16 (by decide) (hts _ (List.mem_of_getElem? (i := 1) rfl)) (fun _ h9 => h9) rfl (v := .ref (ad 10)) rfl dX11_shift_48 ?_
          refine lv_iload_n hx hb dX11_shift_51 rfl (lv_at hl 3 rfl) ?_
          refine c_iald (j := (a3).toNatClampNeg) hx hb hK hP 10 tC10 rfl (c_inV hi5) dX11_shift_52 ?_
          refine lv_icmp_eq (tgt := 59) hx hb dX11_shift_53 (by decide) (fun c7 => ?_) (fun c7 => ?_)
          · have hf := c_it c7 hf
            refine lv_iload hx hb dX11_shift_59 (lv_at hl 5 rfl) ?_
            refine lv_if_lt (tgt := 73) hx hb dX11_shift_61 (by decide) (fun c8 => ?_) (fun c8 => ?_)
            · have hf := c_it c8 hf
              refine lv_bipush (v := (-13 : Int32)) hx hb dX11_shift_73 (by decide) ?_
              exact c_iret hx hb hr hlk hP hS rfl (c_inj hf) dX11_shift_75
            · have hf := c_ie c8 hf
              refine lv_iload_n hx hb dX11_shift_64 rfl (lv_at hl 2 rfl) ?_
              refine lv_if_lt (tgt := 73) hx hb dX11_shift_65 (by decide) (fun c9 => ?_) (fun c9 => ?_)
              · have hf := c_it c9 hf
                refine lv_bipush (v := (-13 : Int32)) hx hb dX11_shift_73 (by decide) ?_
                exact c_iret hx hb hr hlk hP hS rfl (c_inj hf) dX11_shift_75
              · have hf := c_ie c9 hf
                refine lv_iload hx hb dX11_shift_68 (lv_at hl 4 rfl) ?_
                refine lv_if_ge (tgt := 76) hx hb dX11_shift_70 (by decide) (fun c10 => ?_) (fun c10 => ?_)
                · have hf := c_it c10 hf
                  refine lv_iload hx hb dX11_shift_76 (lv_at hl 5 rfl) ?_
                  refine lv_aload_n hx hb dX11_shift_78 rfl (lv_at hl 0 rfl) ?_
                  refine c_get hx hb hts i_X11_shift_X11 hown hK hP 0 tC0 rfl 17 (by decide) (hts _ (List.mem_of_getElem? (i := 2) rfl)) (fun _ h9 => h9) rfl (v := .ref (ad 11)) rfl dX11_shift_79 ?_
                  refine lv_iload_n hx hb dX11_shift_82 rfl (lv_at hl 1 rfl) ?_
                  refine c_iald (j := (a1).toNatClampNeg) hx hb hK hP 11 tC11 rfl (c_inV hi3) dX11_shift_83 ?_
                  refine lv_iload_n hx hb dX11_shift_84 rfl (lv_at hl 2 rfl) ?_
                  refine lv_isub hx hb dX11_shift_85 ?_
                  refine lv_icmp_gt (tgt := 103) hx hb dX11_shift_86 (by decide) (fun c11 => ?_) (fun c11 => ?_)
                  · have hf := c_it c11 hf
                    refine lv_bipush (v := (-13 : Int32)) hx hb dX11_shift_103 (by decide) ?_
                    exact c_iret hx hb hr hlk hP hS rfl (c_inj hf) dX11_shift_105
                  · have hf := c_ie c11 hf
                    refine lv_iload hx hb dX11_shift_89 (lv_at hl 5 rfl) ?_
                    refine lv_aload_n hx hb dX11_shift_91 rfl (lv_at hl 0 rfl) ?_
                    refine c_get hx hb hts i_X11_shift_X11 hown hK hP 0 tC0 rfl 17 (by decide) (hts _ (List.mem_of_getElem? (i := 2) rfl)) (fun _ h9 => h9) rfl (v := .ref (ad 11)) rfl dX11_shift_92 ?_
                    refine lv_iload_n hx hb dX11_shift_95 rfl (lv_at hl 3 rfl) ?_
                    refine c_iald (j := (a3).toNatClampNeg) hx hb hK hP 11 tC11 rfl (c_inV hi5) dX11_shift_96 ?_
                    refine lv_iload hx hb dX11_shift_97 (lv_at hl 4 rfl) ?_
                    refine lv_isub hx hb dX11_shift_99 ?_
                    refine lv_icmp_le (tgt := 106) hx hb dX11_shift_100 (by decide) (fun c12 => ?_) (fun c12 => ?_)
                    · have hf := c_it c12 hf
                      refine lv_aload_n hx hb dX11_shift_106 rfl (lv_at hl 0 rfl) ?_
                      refine c_get hx hb hts i_X11_shift_X11 hown hK hP 0 tC0 rfl 18 (by decide) (hts _ (List.mem_of_getElem? (i := 3) rfl)) (fun _ h9 => h9) rfl (v := .ref (ad 12)) rfl dX11_shift_107 ?_
                      refine lv_iload_n hx hb dX11_shift_110 rfl (lv_at hl 1 rfl) ?_
                      refine c_aald7 hx hb hK hP 12 tC12 (c_inV hi3) (y := (13 + (a1).toNatClampNeg)) (c_tA (c_iN hi3)) dX11_shift_111 ?_
                      refine lv_iload_n hx hb dX11_shift_112 rfl (lv_at hl 2 rfl) ?_
                      refine lv_aload_n hx hb dX11_shift_113 rfl (lv_at hl 0 rfl) ?_
                      refine c_get hx hb hts i_X11_shift_X11 hown hK hP 0 tC0 rfl 18 (by decide) (hts _ (List.mem_of_getElem? (i := 3) rfl)) (fun _ h9 => h9) rfl (v := .ref (ad 12)) rfl dX11_shift_114 ?_
                      refine lv_iload_n hx hb dX11_shift_117 rfl (lv_at hl 3 rfl) ?_
                      refine c_aald7 hx hb hK hP 12 tC12 (c_inV hi5) (y := (13 + (a3).toNatClampNeg)) (c_tA (c_iN hi5)) dX11_shift_118 ?_
                      refine lv_iload hx hb dX11_shift_119 (lv_at hl 4 rfl) ?_
                      refine lv_iload hx hb dX11_shift_121 (lv_at hl 5 rfl) ?_
                      obtain ⟨hc13, hf⟩ := c_gd hf
                      obtain ⟨g14, eg14, hf⟩ := c_letE hf
                      refine c_copyl hx hb (hml.trans hl.1.symm) hown (hts _ (List.mem_of_getElem? (i := 4) rfl)) (hts _ (List.mem_of_getElem? (i := 5) rfl)) (hts _ (List.mem_of_getElem? (i := 6) rfl)) (hts _ (List.mem_of_getElem? (i := 7) rfl)) hK hP hD hS (13 + (a1).toNatClampNeg) (13 + (a3).toNatClampNeg) (c_tB (c_iN hi3)) (c_tB (c_iN hi5)) (c_cpE hc13).1 (c_cpE hc13).2.1 (c_cpE hc13).2.2.1 (c_cpE hc13).2.2.2.1 (c_cpE hc13).2.2.2.2 (Nat.le_of_ble_eq_true rfl) (Nat.le_of_ble_eq_true rfl) eg14 dX11_shift_123 (fun H locs hP hS => ?_)
                      refine lv_iload hx hb dX11_shift_126 (lv_at hl 5 rfl) ?_
                      exact c_iret hx hb hr hlk hP hS rfl (c_inj hf) dX11_shift_128
                    · have hf := c_ie c12 hf
                      refine lv_bipush (v := (-13 : Int32)) hx hb dX11_shift_103 (by decide) ?_
                      exact c_iret hx hb hr hlk hP hS rfl (c_inj hf) dX11_shift_105
                · have hf := c_ie c10 hf
                  refine lv_bipush (v := (-13 : Int32)) hx hb dX11_shift_73 (by decide) ?_
                  exact c_iret hx hb hr hlk hP hS rfl (c_inj hf) dX11_shift_75
          · have hf := c_ie c7 hf
            refine lv_bipush (v := (-12 : Int32)) hx hb dX11_shift_56 (by decide) ?_
            exact c_iret hx hb hr hlk hP hS rfl (c_inj hf) dX11_shift_58
        · have hf := c_it c6 hf
          refine lv_bipush (v := (-11 : Int32)) hx hb dX11_shift_38 (by decide) ?_
          exact c_iret hx hb hr hlk hP hS rfl (c_inj hf) dX11_shift_40
    · have hf := c_it c2 hf
      refine lv_iconst (v := (-1 : Int32)) hx hb dX11_shift_14 (by decide) ?_
      exact c_iret hx hb hr hlk hP hS rfl (c_inj hf) dX11_shift_15
