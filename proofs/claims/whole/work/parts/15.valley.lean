theorem dX10_either_0 : decode cX10_either 0 = .ok (.aload_n 0, 1) := by decide +kernel
theorem dX10_either_1 : decode cX10_either 1 = .ok (.iload_n 1, 1) := by decide +kernel
theorem dX10_either_2 : decode cX10_either 2 = .ok (.invokevirtual 74, 3) := by decide +kernel
theorem dX10_either_5 : decode cX10_either 5 = .ok (.ifCond .ne 5, 3) := by decide +kernel
theorem dX10_either_8 : decode cX10_either 8 = .ok (.iconst 0, 1) := by decide +kernel
theorem dX10_either_9 : decode cX10_either 9 = .ok (.ireturn, 1) := by decide +kernel
theorem dX10_either_10 : decode cX10_either 10 = .ok (.iconst 0, 1) := by decide +kernel
theorem dX10_either_11 : decode cX10_either 11 = .ok (.istore_n 2, 1) := by decide +kernel
theorem dX10_either_12 : decode cX10_either 12 = .ok (.iload_n 2, 1) := by decide +kernel
theorem dX10_either_13 : decode cX10_either 13 = .ok (.bipush 100, 2) := by decide +kernel
theorem dX10_either_15 : decode cX10_either 15 = .ok (.if_icmp .ge 36, 3) := by decide +kernel
theorem dX10_either_18 : decode cX10_either 18 = .ok (.aload_n 0, 1) := by decide +kernel
theorem dX10_either_19 : decode cX10_either 19 = .ok (.bipush 124, 2) := by decide +kernel
theorem dX10_either_21 : decode cX10_either 21 = .ok (.invokevirtual 48, 3) := by decide +kernel
theorem dX10_either_24 : decode cX10_either 24 = .ok (.ifCond .eq 27, 3) := by decide +kernel
theorem dX10_either_27 : decode cX10_either 27 = .ok (.aload_n 0, 1) := by decide +kernel
theorem dX10_either_28 : decode cX10_either 28 = .ok (.iload_n 1, 1) := by decide +kernel
theorem dX10_either_29 : decode cX10_either 29 = .ok (.invokevirtual 74, 3) := by decide +kernel
theorem dX10_either_32 : decode cX10_either 32 = .ok (.ifCond .ne 5, 3) := by decide +kernel
theorem dX10_either_35 : decode cX10_either 35 = .ok (.iconst 0, 1) := by decide +kernel
theorem dX10_either_36 : decode cX10_either 36 = .ok (.ireturn, 1) := by decide +kernel
theorem dX10_either_37 : decode cX10_either 37 = .ok (.aload_n 0, 1) := by decide +kernel
theorem dX10_either_38 : decode cX10_either 38 = .ok (.bipush 8, 2) := by decide +kernel
theorem dX10_either_40 : decode cX10_either 40 = .ok (.iconst 0, 1) := by decide +kernel
theorem dX10_either_41 : decode cX10_either 41 = .ok (.iconst 0, 1) := by decide +kernel
theorem dX10_either_42 : decode cX10_either 42 = .ok (.invokevirtual 70, 3) := by decide +kernel
theorem dX10_either_45 : decode cX10_either 45 = .ok (.iinc 2 1, 3) := by decide +kernel
theorem dX10_either_48 : decode cX10_either 48 = .ok (.goto (-36), 3) := by decide +kernel
theorem dX10_either_51 : decode cX10_either 51 = .ok (.iconst 1, 1) := by decide +kernel
theorem dX10_either_52 : decode cX10_either 52 = .ok (.ireturn, 1) := by decide +kernel
set_option maxRecDepth 20000 in
theorem ggX10_either_X10_both : GoodIn wsX10_either wsX10_both := goodIn_r _ [20, 21, 22, 23, 4, 5, 6, 7, 8, 9, 10, 11, 12, 13, 14, 15, 16, 17, 18, 19, 0, 1, 2, 3, 24, 25, 26, 27, 28, 29, 30, 31, 32, 33, 34, 35, 36, 37, 38, 39, 40, 41, 42, 43, 44, 45, 46, 47, 48, 49, 50, 51, 52, 53, 54, 55, 56, 57, 58, 59, 60, 61, 62, 63, 64, 65, 66, 67, 68, 69, 70, 71, 72, 73, 74, 75, 76, 77, 78, 79, 80, 81, 82, 83, 84, 85, 86, 87, 88, 89, 90, 91, 92, 93, 94, 95, 96, 97, 98, 99, 100, 101, 102, 103, 104, 105, 106, 107, 108, 109, 110, 111, 112, 113, 114, 115, 116, 117, 118, 119, 120, 121, 122, 123, 124, 125, 126, 127, 128, 129, 130, 131, 132, 133, 134, 135, 136] (by decide +kernel) (by decide +kernel)
set_option maxRecDepth 20000 in
theorem gX10_either_X10_both : GoodIn wsX10_either (wsV RX10 74 RX10 yX10_both wsX10_both) := goodIn_app (goodIn_of _ (by decide +kernel)) ggX10_either_X10_both
set_option maxRecDepth 20000 in
theorem ggX10_either_X10_eat : GoodIn wsX10_either wsX10_eat := goodIn_r _ [8, 9, 10, 11, 129, 130, 131, 132, 133, 134, 135, 136] (by decide +kernel) (by decide +kernel)
set_option maxRecDepth 20000 in
theorem gX10_either_X10_eat : GoodIn wsX10_either (wsV RX10 48 RX10 yX10_eat wsX10_eat) := goodIn_app (goodIn_of _ (by decide +kernel)) ggX10_either_X10_eat
set_option maxRecDepth 20000 in
theorem ggX10_either_X10_step : GoodIn wsX10_either wsX10_step := goodIn_r _ [15, 16, 17, 18, 19, 129, 130, 131, 132, 133, 134, 135, 136] (by decide +kernel) (by decide +kernel)
set_option maxRecDepth 20000 in
theorem gX10_either_X10_step : GoodIn wsX10_either (wsV RX10 70 RX10 yX10_step wsX10_step) := goodIn_app (goodIn_of _ (by decide +kernel)) ggX10_either_X10_step
def fX10_either_12 (F : Nat → c_G → Nat → Int32 → Option (c_G × Int32))  (w0 : Nat) (a1 : Int32) : Nat → Int32 → Int32 → c_G → Option (c_G × Int32)
  | 0, _, _, _ => none
  | n + 1, x1, x2, g => if (100 : Int32) ≤ x2 then (some (g, (1 : Int32))) else (c_b2 (fX10_eat g w0 ((124 : Int32))) fun g12003 r12004 => if r12004 = 0 then (some (g12003, (1 : Int32))) else (c_b2 (F 1 g12003 w0 x1) fun g12007 r12008 => if r12008 = 0 then (some (g12007, (0 : Int32))) else ((fX10_step g12007 w0 ((8 : Int32)) ((0 : Int32)) ((0 : Int32))).bind fun g12011 => c_let (x2 + (1 : Int32)) fun v12012 => (fX10_either_12 F w0 a1 n) x1 v12012 g12011)))
set_option maxRecDepth 100000 in
set_option maxHeartbeats 4000000 in
theorem jX10_either_12 {p : Program} {l : Launch} {e : Env} {s : State} {m : MethodId} {below : List Frame} {meth : Method} {c : Code} {D : va_G} {tc : Nat → ClassId} {ad : Nat → Nat} {A : Nat → Prop} {E : (Nat → Nat) × (Nat → Nat) × Nat} {F : Nat → c_G → Nat → Int32 → Option (c_G × Int32)} {dd : Nat} {w0 : Nat} {a1 : Int32} {g' : c_G} {r : Int32} (C : c_C p s m meth c D tc A E RX10 wsX10_either cX10_either 3 (some .boolean) ([.ref (ad w0), .int a1] : List Value).toArray) (hD : c_D A ad TC) (hF0 : ∀ {g g' : c_G} {w0 : Nat} {a1 : Int32} {r : Int32}, F 0 g w0 a1 = some (g', r) → c_Mi l yX10_either wsX10_either (c_rm (6 + dd)) D tc ad A E TC [.ref (ad w0), .int a1] g g' r) (hF1 : ∀ {g g' : c_G} {w0 : Nat} {a1 : Int32} {r : Int32}, F 1 g w0 a1 = some (g', r) → c_Mi l yX10_both wsX10_both (c_rm (6 + dd)) D tc ad A E TC [.ref (ad w0), .int a1] g g' r) (hF2 : ∀ {g g' : c_G} {w0 : Nat} {a1 : Int32} {r : Int32}, F 2 g w0 a1 = some (g', r) → c_Mi l yX10_factor wsX10_factor (c_rm (6 + dd)) D tc ad A E TC [.ref (ad w0), .int a1] g g' r) (hq_w0 : c_isV w0 = true)  : ∀ (n : Nat) (x1 : Int32) (x2 : Int32) (g : c_G), fX10_either_12 F w0 a1 n x1 x2 g = some (g', r) → ∀ (H : Heap) (locs : List Loc), va_P D vwCl (c_ws tc ad TC g) H → va_S A s.heap H locs → ∀ ls : Array Slot, lv_has ls 3 [(0, .ref (ad w0)), (1, .int x1), (2, .int x2)] → W p l e (c_rm (6 + dd + 1)) s m ([.ref (ad w0), .int a1] : List Value).toArray below meth c H locs 0 0 (MQ below (va_Qi (fun (x : Int32) (_ : Unit) => x = r) (fun _ t => va_P D vwCl (c_ws tc ad TC g') t.heap) A) ([.ref (ad w0), .int a1] : List Value).toArray s 0 0 A) (F0 m 12 ls []) := by
  obtain ⟨hx, hb, hr, hml, hts, hown, hlk, hK, hE⟩ := id C
  obtain ⟨fw0_0, fw0_1, fw0_2, fw0_3, fw0_4⟩ := c_isVE hq_w0
  intro n
  induction n with
  | zero =>
    intro x1 x2 g hf
    cases hf
  | succ n ih =>
    intro x1 x2 g hf H locs hP hS ls hl
    unfold fX10_either_12 at hf
    refine lv_iload_n hx hb dX10_either_12 rfl (lv_at hl 2 rfl) ?_
    refine lv_bipush (v := (100 : Int32)) hx hb dX10_either_13 (by decide) ?_
    refine lv_icmp_ge (tgt := 51) hx hb dX10_either_15 (by decide) (fun c12001 => ?_) (fun c12001 => ?_)
    · have hf := c_it c12001 hf
      refine lv_iconst (v := (1 : Int32)) hx hb dX10_either_51 (by decide) ?_
      exact c_iret hx hb hr hlk hP hS rfl (c_inj hf) dX10_either_52
    · have hf := c_ie c12001 hf
      refine lv_aload_n hx hb dX10_either_18 rfl (lv_at hl 0 rfl) ?_
      refine lv_bipush (v := (124 : Int32)) hx hb dX10_either_19 (by decide) ?_
      obtain ⟨g12003, r12004, hc12002, hf⟩ := c_b2E hf
      refine c_goi (va_runV (As := [.int (124 : Int32)]) (rest := []) ⟨hx, hb, hml, hown, hts⟩ (kX10_eat hD hc12002) (cwV 1 hts gX10_either_X10_eat rfl rfl rfl (by decide +kernel) ⟨by simp only [c_rm]; omega, by simp only [c_rm]; omega⟩) (c_preV hK hP hE hS fw0_0 rfl) rfl rfl hl.1 rfl (lv_room (Nat.le_of_ble_eq_true rfl)) dX10_either_21 ⟨Nat.zero_le _, Nat.zero_le _⟩) hS (fun H locs hP hS => ?_)
      refine lv_if_eq (tgt := 51) hx hb dX10_either_24 (by decide) (fun c12005 => ?_) (fun c12005 => ?_)
      · have hf := c_it c12005 hf
        refine lv_iconst (v := (1 : Int32)) hx hb dX10_either_51 (by decide) ?_
        exact c_iret hx hb hr hlk hP hS rfl (c_inj hf) dX10_either_52
      · have hf := c_ie c12005 hf
        refine lv_aload_n hx hb dX10_either_27 rfl (lv_at hl 0 rfl) ?_
        refine lv_iload_n hx hb dX10_either_28 rfl (lv_at hl 1 rfl) ?_
        obtain ⟨g12007, r12008, hc12006, hf⟩ := c_b2E hf
        refine c_goi (va_runV (As := [.int x1]) (rest := []) ⟨hx, hb, hml, hown, hts⟩ (hF1 hc12006) (cwV 1 hts gX10_either_X10_both rfl rfl rfl (by decide +kernel) ⟨by simp only [c_rm]; omega, by simp only [c_rm]; omega⟩) (c_preV hK hP hE hS fw0_0 rfl) rfl rfl hl.1 rfl (lv_room (Nat.le_of_ble_eq_true rfl)) dX10_either_29 ⟨Nat.zero_le _, Nat.zero_le _⟩) hS (fun H locs hP hS => ?_)
        refine lv_if_ne (tgt := 37) hx hb dX10_either_32 (by decide) (fun c12009 => ?_) (fun c12009 => ?_)
        · have hf := c_ie c12009 hf
          refine lv_aload_n hx hb dX10_either_37 rfl (lv_at hl 0 rfl) ?_
          refine lv_bipush (v := (8 : Int32)) hx hb dX10_either_38 (by decide) ?_
          refine lv_iconst (v := (0 : Int32)) hx hb dX10_either_40 (by decide) ?_
          refine lv_iconst (v := (0 : Int32)) hx hb dX10_either_41 (by decide) ?_
          obtain ⟨g12011, hc12010, hf⟩ := c_bd hf
          refine c_gov (va_runV (As := [.int (8 : Int32), .int (0 : Int32), .int (0 : Int32)]) (rest := []) ⟨hx, hb, hml, hown, hts⟩ (kX10_step hD hc12010) (cwV 3 hts gX10_either_X10_step rfl rfl rfl (by decide +kernel) ⟨by simp only [c_rm]; omega, by simp only [c_rm]; omega⟩) (c_preV hK hP hE hS fw0_0 rfl) rfl rfl hl.1 rfl (lv_room (Nat.le_of_ble_eq_true rfl)) dX10_either_42 ⟨Nat.zero_le _, Nat.zero_le _⟩) hS (fun H locs hP hS => ?_)
          obtain ⟨v12012, ev12012, hf⟩ := c_letE hf
          refine lv_iinc (v := v12012) (lv' := [(2, .int v12012), (0, .ref (ad w0)), (1, .int x1)]) hx hb dX10_either_45 hl (k := 2) rfl (by rw [ev12012]; rfl) (by decide) rfl (fun ls hl => ?_)
          refine lv_goto (tgt := 12) hx hb dX10_either_48 (by decide) ?_
          exact ih x1 v12012 g12011 hf _ _ hP hS _ (lv_sub hl [1, 2, 0] rfl)
        · have hf := c_it c12009 hf
          refine lv_iconst (v := (0 : Int32)) hx hb dX10_either_35 (by decide) ?_
          exact c_iret hx hb hr hlk hP hS rfl (c_inj hf) dX10_either_36
def fX10_either (F : Nat → c_G → Nat → Int32 → Option (c_G × Int32)) (g : c_G) (w0 : Nat) (a1 : Int32) : Option (c_G × Int32) :=
  if c_isV w0 = true then (c_b2 (F 1 g w0 a1) fun g2 r3 => if r3 = 0 then (some (g2, (0 : Int32))) else (fX10_either_12 F w0 a1 c_F a1 ((0 : Int32)) g2)) else none
set_option maxRecDepth 100000 in
set_option maxHeartbeats 4000000 in
theorem kX10_either {l : Launch} {D : va_G} {tc : Nat → ClassId} {ad : Nat → Nat} {A : Nat → Prop} {E : (Nat → Nat) × (Nat → Nat) × Nat} {F : Nat → c_G → Nat → Int32 → Option (c_G × Int32)} {dd : Nat} (hF0 : ∀ {g g' : c_G} {w0 : Nat} {a1 : Int32} {r : Int32}, F 0 g w0 a1 = some (g', r) → c_Mi l yX10_either wsX10_either (c_rm (6 + dd)) D tc ad A E TC [.ref (ad w0), .int a1] g g' r) (hF1 : ∀ {g g' : c_G} {w0 : Nat} {a1 : Int32} {r : Int32}, F 1 g w0 a1 = some (g', r) → c_Mi l yX10_both wsX10_both (c_rm (6 + dd)) D tc ad A E TC [.ref (ad w0), .int a1] g g' r) (hF2 : ∀ {g g' : c_G} {w0 : Nat} {a1 : Int32} {r : Int32}, F 2 g w0 a1 = some (g', r) → c_Mi l yX10_factor wsX10_factor (c_rm (6 + dd)) D tc ad A E TC [.ref (ad w0), .int a1] g g' r) (hD : c_D A ad TC) {w0 : Nat} {a1 : Int32} {g g' : c_G} {r : Int32} (hf : fX10_either F g w0 a1 = some (g', r)) : c_Mi l yX10_either wsX10_either (c_rm (6 + dd + 1)) D tc ad A E TC ([.ref (ad w0), .int a1] : List Value) g g' r := by
  refine c_ofW (bytes := cX10_either) (maxL := 3) (ret := (some .boolean)) (by decide) rfl (Nat.le_of_ble_eq_true rfl) ?_
  intro p e s m below meth c ls C hP hS hl
  unfold fX10_either at hf
  obtain ⟨hq_w0, hf⟩ := c_gd hf
  obtain ⟨hx, hb, hr, hml, hts, hown, hlk, hK, hE⟩ := id C
  obtain ⟨fw0_0, fw0_1, fw0_2, fw0_3, fw0_4⟩ := c_isVE hq_w0
  have hl : lv_has ls 3 [(0, .ref (ad w0)), (1, .int a1)] := hl
  refine lv_aload_n hx hb dX10_either_0 rfl (lv_at hl 0 rfl) ?_
  refine lv_iload_n hx hb dX10_either_1 rfl (lv_at hl 1 rfl) ?_
  obtain ⟨g2, r3, hc1, hf⟩ := c_b2E hf
  refine c_goi (va_runV (As := [.int a1]) (rest := []) ⟨hx, hb, hml, hown, hts⟩ (hF1 hc1) (cwV 1 hts gX10_either_X10_both rfl rfl rfl (by decide +kernel) ⟨by simp only [c_rm]; omega, by simp only [c_rm]; omega⟩) (c_preV hK hP hE hS fw0_0 rfl) rfl rfl hl.1 rfl (lv_room (Nat.le_of_ble_eq_true rfl)) dX10_either_2 ⟨Nat.zero_le _, Nat.zero_le _⟩) hS (fun H locs hP hS => ?_)
  refine lv_if_ne (tgt := 10) hx hb dX10_either_5 (by decide) (fun c4 => ?_) (fun c4 => ?_)
  · have hf := c_ie c4 hf
    refine lv_iconst (v := (0 : Int32)) hx hb dX10_either_10 (by decide) ?_
    refine lv_istore_n (lv' := [(2, .int (0 : Int32)), (0, .ref (ad w0)), (1, .int a1)]) hx hb dX10_either_11 rfl hl (by decide) rfl (fun ls hl => ?_)
    exact jX10_either_12 C hD hF0 hF1 hF2 hq_w0 c_F a1 ((0 : Int32)) g2 hf _ _ hP hS _ (lv_sub hl [1, 2, 0] rfl)
  · have hf := c_it c4 hf
    refine lv_iconst (v := (0 : Int32)) hx hb dX10_either_8 (by decide) ?_
    exact c_iret hx hb hr hlk hP hS rfl (c_inj hf) dX10_either_9
theorem dX10_both_0 : decode cX10_both 0 = .ok (.aload_n 0, 1) := by decide +kernel
theorem dX10_both_1 : decode cX10_both 1 = .ok (.iload_n 1, 1) := by decide +kernel
theorem dX10_both_2 : decode cX10_both 2 = .ok (.invokevirtual 77, 3) := by decide +kernel
theorem dX10_both_5 : decode cX10_both 5 = .ok (.ifCond .ne 5, 3) := by decide +kernel
theorem dX10_both_8 : decode cX10_both 8 = .ok (.iconst 0, 1) := by decide +kernel
theorem dX10_both_9 : decode cX10_both 9 = .ok (.ireturn, 1) := by decide +kernel
theorem dX10_both_10 : decode cX10_both 10 = .ok (.iconst 0, 1) := by decide +kernel
theorem dX10_both_11 : decode cX10_both 11 = .ok (.istore_n 2, 1) := by decide +kernel
theorem dX10_both_12 : decode cX10_both 12 = .ok (.iload_n 2, 1) := by decide +kernel
theorem dX10_both_13 : decode cX10_both 13 = .ok (.bipush 100, 2) := by decide +kernel
theorem dX10_both_15 : decode cX10_both 15 = .ok (.if_icmp .ge 36, 3) := by decide +kernel
theorem dX10_both_18 : decode cX10_both 18 = .ok (.aload_n 0, 1) := by decide +kernel
theorem dX10_both_19 : decode cX10_both 19 = .ok (.bipush 38, 2) := by decide +kernel
theorem dX10_both_21 : decode cX10_both 21 = .ok (.invokevirtual 48, 3) := by decide +kernel
theorem dX10_both_24 : decode cX10_both 24 = .ok (.ifCond .eq 27, 3) := by decide +kernel
theorem dX10_both_27 : decode cX10_both 27 = .ok (.aload_n 0, 1) := by decide +kernel
theorem dX10_both_28 : decode cX10_both 28 = .ok (.iload_n 1, 1) := by decide +kernel
theorem dX10_both_29 : decode cX10_both 29 = .ok (.invokevirtual 77, 3) := by decide +kernel
theorem dX10_both_32 : decode cX10_both 32 = .ok (.ifCond .ne 5, 3) := by decide +kernel
theorem dX10_both_35 : decode cX10_both 35 = .ok (.iconst 0, 1) := by decide +kernel
theorem dX10_both_36 : decode cX10_both 36 = .ok (.ireturn, 1) := by decide +kernel
theorem dX10_both_37 : decode cX10_both 37 = .ok (.aload_n 0, 1) := by decide +kernel
theorem dX10_both_38 : decode cX10_both 38 = .ok (.bipush 7, 2) := by decide +kernel
theorem dX10_both_40 : decode cX10_both 40 = .ok (.iconst 0, 1) := by decide +kernel
theorem dX10_both_41 : decode cX10_both 41 = .ok (.iconst 0, 1) := by decide +kernel
theorem dX10_both_42 : decode cX10_both 42 = .ok (.invokevirtual 70, 3) := by decide +kernel
theorem dX10_both_45 : decode cX10_both 45 = .ok (.iinc 2 1, 3) := by decide +kernel
theorem dX10_both_48 : decode cX10_both 48 = .ok (.goto (-36), 3) := by decide +kernel
theorem dX10_both_51 : decode cX10_both 51 = .ok (.iconst 1, 1) := by decide +kernel
theorem dX10_both_52 : decode cX10_both 52 = .ok (.ireturn, 1) := by decide +kernel
set_option maxRecDepth 20000 in
theorem ggX10_both_X10_factor : GoodIn wsX10_both wsX10_factor := goodIn_r _ [24, 5, 6, 7, 4, 8, 9, 10, 11, 25, 26, 27, 28, 29, 30, 31, 32, 33, 34, 35, 36, 37, 38, 39, 40, 41, 42, 43, 44, 45, 46, 47, 48, 49, 50, 51, 52, 53, 54, 55, 56, 57, 58, 59, 60, 61, 62, 63, 64, 65, 66, 67, 68, 69, 70, 71, 72, 73, 74, 75, 76, 77, 78, 79, 80, 81, 82, 83, 84, 85, 86, 87, 88, 89, 90, 91, 92, 93, 94, 95, 96, 97, 98, 99, 100, 101, 102, 103, 104, 105, 106, 107, 108, 109, 110, 111, 112, 113, 114, 115, 116, 117, 118, 119, 120, 121, 122, 123, 124, 125, 126, 127, 128, 12, 13, 14, 15, 16, 17, 18, 19, 0, 1, 2, 3, 20, 21, 22, 23, 129, 130, 131, 132, 133, 134, 135, 136] (by decide +kernel) (by decide +kernel)
set_option maxRecDepth 20000 in
theorem gX10_both_X10_factor : GoodIn wsX10_both (wsV RX10 77 RX10 yX10_factor wsX10_factor) := goodIn_app (goodIn_of _ (by decide +kernel)) ggX10_both_X10_factor
set_option maxRecDepth 20000 in
theorem ggX10_both_X10_eat : GoodIn wsX10_both wsX10_eat := goodIn_r _ [8, 9, 10, 11, 129, 130, 131, 132, 133, 134, 135, 136] (by decide +kernel) (by decide +kernel)
set_option maxRecDepth 20000 in
theorem gX10_both_X10_eat : GoodIn wsX10_both (wsV RX10 48 RX10 yX10_eat wsX10_eat) := goodIn_app (goodIn_of _ (by decide +kernel)) ggX10_both_X10_eat
set_option maxRecDepth 20000 in
theorem ggX10_both_X10_step : GoodIn wsX10_both wsX10_step := goodIn_r _ [15, 16, 17, 18, 19, 129, 130, 131, 132, 133, 134, 135, 136] (by decide +kernel) (by decide +kernel)
set_option maxRecDepth 20000 in
theorem gX10_both_X10_step : GoodIn wsX10_both (wsV RX10 70 RX10 yX10_step wsX10_step) := goodIn_app (goodIn_of _ (by decide +kernel)) ggX10_both_X10_step
def fX10_both_12 (F : Nat → c_G → Nat → Int32 → Option (c_G × Int32))  (w0 : Nat) (a1 : Int32) : Nat → Int32 → Int32 → c_G → Option (c_G × Int32)
  | 0, _, _, _ => none
  | n + 1, x1, x2, g => if (100 : Int32) ≤ x2 then (some (g, (1 : Int32))) else (c_b2 (fX10_eat g w0 ((38 : Int32))) fun g12003 r12004 => if r12004 = 0 then (some (g12003, (1 : Int32))) else (c_b2 (F 2 g12003 w0 x1) fun g12007 r12008 => if r12008 = 0 then (some (g12007, (0 : Int32))) else ((fX10_step g12007 w0 ((7 : Int32)) ((0 : Int32)) ((0 : Int32))).bind fun g12011 => c_let (x2 + (1 : Int32)) fun v12012 => (fX10_both_12 F w0 a1 n) x1 v12012 g12011)))
set_option maxRecDepth 100000 in
set_option maxHeartbeats 4000000 in
theorem jX10_both_12 {p : Program} {l : Launch} {e : Env} {s : State} {m : MethodId} {below : List Frame} {meth : Method} {c : Code} {D : va_G} {tc : Nat → ClassId} {ad : Nat → Nat} {A : Nat → Prop} {E : (Nat → Nat) × (Nat → Nat) × Nat} {F : Nat → c_G → Nat → Int32 → Option (c_G × Int32)} {dd : Nat} {w0 : Nat} {a1 : Int32} {g' : c_G} {r : Int32} (C : c_C p s m meth c D tc A E RX10 wsX10_both cX10_both 3 (some .boolean) ([.ref (ad w0), .int a1] : List Value).toArray) (hD : c_D A ad TC) (hF0 : ∀ {g g' : c_G} {w0 : Nat} {a1 : Int32} {r : Int32}, F 0 g w0 a1 = some (g', r) → c_Mi l yX10_either wsX10_either (c_rm (6 + dd)) D tc ad A E TC [.ref (ad w0), .int a1] g g' r) (hF1 : ∀ {g g' : c_G} {w0 : Nat} {a1 : Int32} {r : Int32}, F 1 g w0 a1 = some (g', r) → c_Mi l yX10_both wsX10_both (c_rm (6 + dd)) D tc ad A E TC [.ref (ad w0), .int a1] g g' r) (hF2 : ∀ {g g' : c_G} {w0 : Nat} {a1 : Int32} {r : Int32}, F 2 g w0 a1 = some (g', r) → c_Mi l yX10_factor wsX10_factor (c_rm (6 + dd)) D tc ad A E TC [.ref (ad w0), .int a1] g g' r) (hq_w0 : c_isV w0 = true)  : ∀ (n : Nat) (x1 : Int32) (x2 : Int32) (g : c_G), fX10_both_12 F w0 a1 n x1 x2 g = some (g', r) → ∀ (H : Heap) (locs : List Loc), va_P D vwCl (c_ws tc ad TC g) H → va_S A s.heap H locs → ∀ ls : Array Slot, lv_has ls 3 [(0, .ref (ad w0)), (1, .int x1), (2, .int x2)] → W p l e (c_rm (6 + dd + 1)) s m ([.ref (ad w0), .int a1] : List Value).toArray below meth c H locs 0 0 (MQ below (va_Qi (fun (x : Int32) (_ : Unit) => x = r) (fun _ t => va_P D vwCl (c_ws tc ad TC g') t.heap) A) ([.ref (ad w0), .int a1] : List Value).toArray s 0 0 A) (F0 m 12 ls []) := by
  obtain ⟨hx, hb, hr, hml, hts, hown, hlk, hK, hE⟩ := id C
  obtain ⟨fw0_0, fw0_1, fw0_2, fw0_3, fw0_4⟩ := c_isVE hq_w0
  intro n
  induction n with
  | zero =>
    intro x1 x2 g hf
    cases hf
  | succ n ih =>
    intro x1 x2 g hf H locs hP hS ls hl
    unfold fX10_both_12 at hf
    refine lv_iload_n hx hb dX10_both_12 rfl (lv_at hl 2 rfl) ?_
    refine lv_bipush (v := (100 : Int32)) hx hb dX10_both_13 (by decide) ?_
    refine lv_icmp_ge (tgt := 51) hx hb dX10_both_15 (by decide) (fun c12001 => ?_) (fun c12001 => ?_)
    · have hf := c_it c12001 hf
      refine lv_iconst (v := (1 : Int32)) hx hb dX10_both_51 (by decide) ?_
      exact c_iret hx hb hr hlk hP hS rfl (c_inj hf) dX10_both_52
    · have hf := c_ie c12001 hf
      refine lv_aload_n hx hb dX10_both_18 rfl (lv_at hl 0 rfl) ?_
      refine lv_bipush (v := (38 : Int32)) hx hb dX10_both_19 (by decide) ?_
      obtain ⟨g12003, r12004, hc12002, hf⟩ := c_b2E hf
      refine c_goi (va_runV (As := [.int (38 : Int32)]) (rest := []) ⟨hx, hb, hml, hown, hts⟩ (kX10_eat hD hc12002) (cwV 1 hts gX10_both_X10_eat rfl rfl rfl (by decide +kernel) ⟨by simp only [c_rm]; omega, by simp only [c_rm]; omega⟩) (c_preV hK hP hE hS fw0_0 rfl) rfl rfl hl.1 rfl (lv_room (Nat.le_of_ble_eq_true rfl)) dX10_both_21 ⟨Nat.zero_le _, Nat.zero_le _⟩) hS (fun H locs hP hS => ?_)
      refine lv_if_eq (tgt := 51) hx hb dX10_both_24 (by decide) (fun c12005 => ?_) (fun c12005 => ?_)
      · have hf := c_it c12005 hf
        refine lv_iconst (v := (1 : Int32)) hx hb dX10_both_51 (by decide) ?_
        exact c_iret hx hb hr hlk hP hS rfl (c_inj hf) dX10_both_52
      · have hf := c_ie c12005 hf
        refine lv_aload_n hx hb dX10_both_27 rfl (lv_at hl 0 rfl) ?_
        refine lv_iload_n hx hb dX10_both_28 rfl (lv_at hl 1 rfl) ?_
        obtain ⟨g12007, r12008, hc12006, hf⟩ := c_b2E hf
        refine c_goi (va_runV (As := [.int x1]) (rest := []) ⟨hx, hb, hml, hown, hts⟩ (hF2 hc12006) (cwV 1 hts gX10_both_X10_factor rfl rfl rfl (by decide +kernel) ⟨by simp only [c_rm]; omega, by simp only [c_rm]; omega⟩) (c_preV hK hP hE hS fw0_0 rfl) rfl rfl hl.1 rfl (lv_room (Nat.le_of_ble_eq_true rfl)) dX10_both_29 ⟨Nat.zero_le _, Nat.zero_le _⟩) hS (fun H locs hP hS => ?_)
        refine lv_if_ne (tgt := 37) hx hb dX10_both_32 (by decide) (fun c12009 => ?_) (fun c12009 => ?_)
        · have hf := c_ie c12009 hf
          refine lv_aload_n hx hb dX10_both_37 rfl (lv_at hl 0 rfl) ?_
          refine lv_bipush (v := (7 : Int32)) hx hb dX10_both_38 (by decide) ?_
          refine lv_iconst (v := (0 : Int32)) hx hb dX10_both_40 (by decide) ?_
          refine lv_iconst (v := (0 : Int32)) hx hb dX10_both_41 (by decide) ?_
          obtain ⟨g12011, hc12010, hf⟩ := c_bd hf
          refine c_gov (va_runV (As := [.int (7 : Int32), .int (0 : Int32), .int (0 : Int32)]) (rest := []) ⟨hx, hb, hml, hown, hts⟩ (kX10_step hD hc12010) (cwV 3 hts gX10_both_X10_step rfl rfl rfl (by decide +kernel) ⟨by simp only [c_rm]; omega, by simp only [c_rm]; omega⟩) (c_preV hK hP hE hS fw0_0 rfl) rfl rfl hl.1 rfl (lv_room (Nat.le_of_ble_eq_true rfl)) dX10_both_42 ⟨Nat.zero_le _, Nat.zero_le _⟩) hS (fun H locs hP hS => ?_)
          obtain ⟨v12012, ev12012, hf⟩ := c_letE hf
          refine lv_iinc (v := v12012) (lv' := [(2, .int v12012), (0, .ref (ad w0)), (1, .int x1)]) hx hb dX10_both_45 hl (k := 2) rfl (by rw [ev12012]; rfl) (by decide) rfl (fun ls hl => ?_)
          refine lv_goto (tgt := 12) hx hb dX10_both_48 (by decide) ?_
          exact ih x1 v12012 g12011 hf _ _ hP hS _ (lv_sub hl [1, 2, 0] rfl)
        · have hf := c_it c12009 hf
          refine lv_iconst (v := (0 : Int32)) hx hb dX10_both_35 (by decide) ?_
          exact c_iret hx hb hr hlk hP hS rfl (c_inj hf) dX10_both_36
def fX10_both (F : Nat → c_G → Nat → Int32 → Option (c_G × Int32)) (g : c_G) (w0 : Nat) (a1 : Int32) : Option (c_G × Int32) :=
  if c_isV w0 = true then (c_b2 (F 2 g w0 a1) fun g2 r3 => if r3 = 0 then (some (g2, (0 : Int32))) else (fX10_both_12 F w0 a1 c_F a1 ((0 : Int32)) g2)) else none
set_option maxRecDepth 100000 in
set_option maxHeartbeats 4000000 in
theorem kX10_both {l : Launch} {D : va_G} {tc : Nat → ClassId} {ad : Nat → Nat} {A : Nat → Prop} {E : (Nat → Nat) × (Nat → Nat) × Nat} {F : Nat → c_G → Nat → Int32 → Option (c_G × Int32)} {dd : Nat} (hF0 : ∀ {g g' : c_G} {w0 : Nat} {a1 : Int32} {r : Int32}, F 0 g w0 a1 = some (g', r) → c_Mi l yX10_either wsX10_either (c_rm (6 + dd)) D tc ad A E TC [.ref (ad w0), .int a1] g g' r) (hF1 : ∀ {g g' : c_G} {w0 : Nat} {a1 : Int32} {r : Int32}, F 1 g w0 a1 = some (g', r) → c_Mi l yX10_both wsX10_both (c_rm (6 + dd)) D tc ad A E TC [.ref (ad w0), .int a1] g g' r) (hF2 : ∀ {g g' : c_G} {w0 : Nat} {a1 : Int32} {r : Int32}, F 2 g w0 a1 = some (g', r) → c_Mi l yX10_factor wsX10_factor (c_rm (6 + dd)) D tc ad A E TC [.ref (ad w0), .int a1] g g' r) (hD : c_D A ad TC) {w0 : Nat} {a1 : Int32} {g g' : c_G} {r : Int32} (hf : fX10_both F g w0 a1 = some (g', r)) : c_Mi l yX10_both wsX10_both (c_rm (6 + dd + 1)) D tc ad A E TC ([.ref (ad w0), .int a1] : List Value) g g' r := by
  refine c_ofW (bytes := cX10_both) (maxL := 3) (ret := (some .boolean)) (by decide) rfl (Nat.le_of_ble_eq_true rfl) ?_
  intro p e s m below meth c ls C hP hS hl
  unfold fX10_both at hf
  obtain ⟨hq_w0, hf⟩ := c_gd hf
  obtain ⟨hx, hb, hr, hml, hts, hown, hlk, hK, hE⟩ := id C
  obtain ⟨fw0_0, fw0_1, fw0_2, fw0_3, fw0_4⟩ := c_isVE hq_w0
  have hl : lv_has ls 3 [(0, .ref (ad w0)), (1, .int a1)] := hl
  refine lv_aload_n hx hb dX10_both_0 rfl (lv_at hl 0 rfl) ?_
  refine lv_iload_n hx hb dX10_both_1 rfl (lv_at hl 1 rfl) ?_
  obtain ⟨g2, r3, hc1, hf⟩ := c_b2E hf
  refine c_goi (va_runV (As := [.int a1]) (rest := []) ⟨hx, hb, hml, hown, hts⟩ (hF2 hc1) (cwV 1 hts gX10_both_X10_factor rfl rfl rfl (by decide +kernel) ⟨by simp only [c_rm]; omega, by simp only [c_rm]; omega⟩) (c_preV hK hP hE hS fw0_0 rfl) rfl rfl hl.1 rfl (lv_room (Nat.le_of_ble_eq_true rfl)) dX10_both_2 ⟨Nat.zero_le _, Nat.zero_le _⟩) hS (fun H locs hP hS => ?_)
  refine lv_if_ne (tgt := 10) hx hb dX10_both_5 (by decide) (fun c4 => ?_) (fun c4 => ?_)
  · have hf := c_ie c4 hf
    refine lv_iconst (v := (0 : Int32)) hx hb dX10_both_10 (by decide) ?_
    refine lv_istore_n (lv' := [(2, .int (0 : Int32)), (0, .ref (ad w0)), (1, .int a1)]) hx hb dX10_both_11 rfl hl (by decide) rfl (fun ls hl => ?_)
    exact jX10_both_12 C hD hF0 hF1 hF2 hq_w0 c_F a1 ((0 : Int32)) g2 hf _ _ hP hS _ (lv_sub hl [1, 2, 0] rfl)
  · have hf := c_it c4 hf
    refine lv_iconst (v := (0 : Int32)) hx hb dX10_both_8 (by decide) ?_
    exact c_iret hx hb hr hlk hP hS rfl (c_inj hf) dX10_both_9
theorem dX10_factor_0 : decode cX10_factor 0 = .ok (.iload_n 1, 1) := by decide +kernel
theorem dX10_factor_1 : decode cX10_factor 1 = .ok (.istore_n 2, 1) := by decide +kernel
theorem dX10_factor_2 : decode cX10_factor 2 = .ok (.iload_n 2, 1) := by decide +kernel
theorem dX10_factor_3 : decode cX10_factor 3 = .ok (.iconst 4, 1) := by decide +kernel
theorem dX10_factor_4 : decode cX10_factor 4 = .ok (.if_icmp .ge 18, 3) := by decide +kernel
theorem dX10_factor_7 : decode cX10_factor 7 = .ok (.aload_n 0, 1) := by decide +kernel
theorem dX10_factor_8 : decode cX10_factor 8 = .ok (.bipush 33, 2) := by decide +kernel
theorem dX10_factor_10 : decode cX10_factor 10 = .ok (.invokevirtual 48, 3) := by decide +kernel
theorem dX10_factor_13 : decode cX10_factor 13 = .ok (.ifCond .eq 9, 3) := by decide +kernel
theorem dX10_factor_16 : decode cX10_factor 16 = .ok (.iinc 2 1, 3) := by decide +kernel
theorem dX10_factor_19 : decode cX10_factor 19 = .ok (.goto (-17), 3) := by decide +kernel
theorem dX10_factor_22 : decode cX10_factor 22 = .ok (.iload_n 2, 1) := by decide +kernel
theorem dX10_factor_23 : decode cX10_factor 23 = .ok (.iconst 4, 1) := by decide +kernel
theorem dX10_factor_24 : decode cX10_factor 24 = .ok (.if_icmp .ge 39, 3) := by decide +kernel
theorem dX10_factor_27 : decode cX10_factor 27 = .ok (.aload_n 0, 1) := by decide +kernel
theorem dX10_factor_28 : decode cX10_factor 28 = .ok (.bipush 40, 2) := by decide +kernel
theorem dX10_factor_30 : decode cX10_factor 30 = .ok (.invokevirtual 48, 3) := by decide +kernel
theorem dX10_factor_33 : decode cX10_factor 33 = .ok (.ifCond .eq 30, 3) := by decide +kernel
theorem dX10_factor_36 : decode cX10_factor 36 = .ok (.aload_n 0, 1) := by decide +kernel
theorem dX10_factor_37 : decode cX10_factor 37 = .ok (.iload_n 2, 1) := by decide +kernel
theorem dX10_factor_38 : decode cX10_factor 38 = .ok (.iconst 1, 1) := by decide +kernel
theorem dX10_factor_39 : decode cX10_factor 39 = .ok (.iadd, 1) := by decide +kernel
theorem dX10_factor_40 : decode cX10_factor 40 = .ok (.invokevirtual 66, 3) := by decide +kernel
theorem dX10_factor_43 : decode cX10_factor 43 = .ok (.ifCond .eq 16, 3) := by decide +kernel
theorem dX10_factor_46 : decode cX10_factor 46 = .ok (.aload_n 0, 1) := by decide +kernel
theorem dX10_factor_47 : decode cX10_factor 47 = .ok (.bipush 41, 2) := by decide +kernel
theorem dX10_factor_49 : decode cX10_factor 49 = .ok (.invokevirtual 48, 3) := by decide +kernel
theorem dX10_factor_52 : decode cX10_factor 52 = .ok (.ifCond .eq 7, 3) := by decide +kernel
theorem dX10_factor_55 : decode cX10_factor 55 = .ok (.iconst 1, 1) := by decide +kernel
theorem dX10_factor_56 : decode cX10_factor 56 = .ok (.goto 11, 3) := by decide +kernel
theorem dX10_factor_59 : decode cX10_factor 59 = .ok (.iconst 0, 1) := by decide +kernel
theorem dX10_factor_60 : decode cX10_factor 60 = .ok (.goto 7, 3) := by decide +kernel
theorem dX10_factor_63 : decode cX10_factor 63 = .ok (.aload_n 0, 1) := by decide +kernel
theorem dX10_factor_64 : decode cX10_factor 64 = .ok (.invokevirtual 80, 3) := by decide +kernel
theorem dX10_factor_67 : decode cX10_factor 67 = .ok (.istore_n 3, 1) := by decide +kernel
theorem dX10_factor_68 : decode cX10_factor 68 = .ok (.iload_n 2, 1) := by decide +kernel
theorem dX10_factor_69 : decode cX10_factor 69 = .ok (.iload_n 1, 1) := by decide +kernel
theorem dX10_factor_70 : decode cX10_factor 70 = .ok (.isub, 1) := by decide +kernel
theorem dX10_factor_71 : decode cX10_factor 71 = .ok (.iconst 2, 1) := by decide +kernel
theorem dX10_factor_72 : decode cX10_factor 72 = .ok (.irem, 1) := by decide +kernel
theorem dX10_factor_73 : decode cX10_factor 73 = .ok (.iconst 1, 1) := by decide +kernel
theorem dX10_factor_74 : decode cX10_factor 74 = .ok (.if_icmp .ne 11, 3) := by decide +kernel
theorem dX10_factor_77 : decode cX10_factor 77 = .ok (.aload_n 0, 1) := by decide +kernel
theorem dX10_factor_78 : decode cX10_factor 78 = .ok (.bipush 6, 2) := by decide +kernel
theorem dX10_factor_80 : decode cX10_factor 80 = .ok (.iconst 0, 1) := by decide +kernel
theorem dX10_factor_81 : decode cX10_factor 81 = .ok (.iconst 0, 1) := by decide +kernel
theorem dX10_factor_82 : decode cX10_factor 82 = .ok (.invokevirtual 70, 3) := by decide +kernel
theorem dX10_factor_85 : decode cX10_factor 85 = .ok (.iload_n 3, 1) := by decide +kernel
theorem dX10_factor_86 : decode cX10_factor 86 = .ok (.ireturn, 1) := by decide +kernel
set_option maxRecDepth 20000 in
theorem ggX10_factor_X10_eat : GoodIn wsX10_factor wsX10_eat := goodIn_r _ [5, 6, 7, 8, 129, 130, 131, 132, 133, 134, 135, 136] (by decide +kernel) (by decide +kernel)
set_option maxRecDepth 20000 in
theorem gX10_factor_X10_eat : GoodIn wsX10_factor (wsV RX10 48 RX10 yX10_eat wsX10_eat) := goodIn_app (goodIn_of _ (by decide +kernel)) ggX10_factor_X10_eat
set_option maxRecDepth 20000 in
theorem ggX10_factor_X10_either : GoodIn wsX10_factor wsX10_either := goodIn_r _ [125, 126, 127, 128, 4, 1, 2, 3, 5, 6, 7, 8, 113, 114, 115, 116, 117, 118, 119, 120, 121, 122, 123, 124, 0, 9, 10, 11, 12, 13, 14, 15, 16, 17, 18, 19, 20, 21, 22, 23, 24, 25, 26, 27, 28, 29, 30, 31, 32, 33, 34, 35, 36, 37, 38, 39, 40, 41, 42, 43, 44, 45, 46, 47, 48, 49, 50, 51, 52, 53, 54, 55, 56, 57, 58, 59, 60, 61, 62, 63, 64, 65, 66, 67, 68, 69, 70, 71, 72, 73, 74, 75, 76, 77, 78, 79, 80, 81, 82, 83, 84, 85, 86, 87, 88, 89, 90, 91, 92, 93, 94, 95, 96, 97, 98, 99, 100, 101, 102, 103, 104, 105, 106, 107, 108, 109, 110, 111, 112, 129, 130, 131, 132, 133, 134, 135, 136] (by decide +kernel) (by decide +kernel)
set_option maxRecDepth 20000 in
theorem gX10_factor_X10_either : GoodIn wsX10_factor (wsV RX10 66 RX10 yX10_either wsX10_either) := goodIn_app (goodIn_of _ (by decide +kernel)) ggX10_factor_X10_either
set_option maxRecDepth 20000 in
theorem ggX10_factor_X10_test : GoodIn wsX10_factor wsX10_test := goodIn_r _ [15, 16, 17, 18, 4, 19, 6, 7, 8, 20, 21, 22, 23, 24, 25, 26, 27, 28, 29, 30, 31, 32, 33, 34, 35, 36, 37, 38, 39, 40, 41, 42, 43, 44, 45, 46, 47, 48, 49, 50, 51, 52, 53, 54, 55, 56, 57, 58, 59, 60, 61, 62, 63, 64, 65, 66, 67, 68, 69, 70, 71, 72, 73, 74, 75, 76, 77, 78, 79, 80, 81, 82, 83, 84, 85, 86, 87, 88, 89, 90, 91, 92, 93, 94, 95, 96, 97, 98, 99, 100, 101, 102, 103, 104, 105, 106, 107, 108, 109, 110, 111, 112, 113, 114, 115, 116, 117, 118, 119, 120, 129, 130, 131, 132, 133, 134, 135, 136] (by decide +kernel) (by decide +kernel)
set_option maxRecDepth 20000 in
theorem gX10_factor_X10_test : GoodIn wsX10_factor (wsV RX10 80 RX10 yX10_test wsX10_test) := goodIn_app (goodIn_of _ (by decide +kernel)) ggX10_factor_X10_test
set_option maxRecDepth 20000 in
theorem ggX10_factor_X10_step : GoodIn wsX10_factor wsX10_step := goodIn_r _ [116, 117, 118, 119, 120, 129, 130, 131, 132, 133, 134, 135, 136] (by decide +kernel) (by decide +kernel)
set_option maxRecDepth 20000 in
theorem gX10_factor_X10_step : GoodIn wsX10_factor (wsV RX10 70 RX10 yX10_step wsX10_step) := goodIn_app (goodIn_of _ (by decide +kernel)) ggX10_factor_X10_step
def fX10_factor_67 (F : Nat → c_G → Nat → Int32 → Option (c_G × Int32))  (w0 : Nat) (a1 : Int32) (x1 : Int32) (x2 : Int32) (y0 : Int32) (g : c_G) : Option (c_G × Int32) :=
  if ((x2 - x1) - (x2 - x1) / (2 : Int32) * (2 : Int32)) = (1 : Int32) then ((fX10_step g w0 ((6 : Int32)) ((0 : Int32)) ((0 : Int32))).bind fun g67004 => if c_bo y0 = true then some (g67004, y0) else none) else (if c_bo y0 = true then some (g, y0) else none)
set_option maxRecDepth 100000 in
set_option maxHeartbeats 4000000 in
theorem jX10_factor_67 {p : Program} {l : Launch} {e : Env} {s : State} {m : MethodId} {below : List Frame} {meth : Method} {c : Code} {D : va_G} {tc : Nat → ClassId} {ad : Nat → Nat} {A : Nat → Prop} {E : (Nat → Nat) × (Nat → Nat) × Nat} {F : Nat → c_G → Nat → Int32 → Option (c_G × Int32)} {dd : Nat} {w0 : Nat} {a1 : Int32} {g' : c_G} {r : Int32} (C : c_C p s m meth c D tc A E RX10 wsX10_factor cX10_factor 4 (some .boolean) ([.ref (ad w0), .int a1] : List Value).toArray) (hD : c_D A ad TC) (hF0 : ∀ {g g' : c_G} {w0 : Nat} {a1 : Int32} {r : Int32}, F 0 g w0 a1 = some (g', r) → c_Mi l yX10_either wsX10_either (c_rm (6 + dd)) D tc ad A E TC [.ref (ad w0), .int a1] g g' r) (hF1 : ∀ {g g' : c_G} {w0 : Nat} {a1 : Int32} {r : Int32}, F 1 g w0 a1 = some (g', r) → c_Mi l yX10_both wsX10_both (c_rm (6 + dd)) D tc ad A E TC [.ref (ad w0), .int a1] g g' r) (hF2 : ∀ {g g' : c_G} {w0 : Nat} {a1 : Int32} {r : Int32}, F 2 g w0 a1 = some (g', r) → c_Mi l yX10_factor wsX10_factor (c_rm (6 + dd)) D tc ad A E TC [.ref (ad w0), .int a1] g g' r) (hq_w0 : c_isV w0 = true)  : ∀ (x1 : Int32) (x2 : Int32) (y0 : Int32) (g : c_G), fX10_factor_67 F w0 a1 x1 x2 y0 g = some (g', r) → ∀ (H : Heap) (locs : List Loc), va_P D vwCl (c_ws tc ad TC g) H → va_S A s.heap H locs → ∀ ls : Array Slot, lv_has ls 4 [(0, .ref (ad w0)), (1, .int x1), (2, .int x2)] → W p l e (c_rm (6 + dd + 1)) s m ([.ref (ad w0), .int a1] : List Value).toArray below meth c H locs 0 0 (MQ below (va_Qi (fun (x : Int32) (_ : Unit) => x = r) (fun _ t => va_P D vwCl (c_ws tc ad TC g') t.heap) A) ([.ref (ad w0), .int a1] : List Value).toArray s 0 0 A) (F0 m 67 ls [.int y0]) := by
  obtain ⟨hx, hb, hr, hml, hts, hown, hlk, hK, hE⟩ := id C
  obtain ⟨fw0_0, fw0_1, fw0_2, fw0_3, fw0_4⟩ := c_isVE hq_w0
  intro x1 x2 y0 g hf H locs hP hS ls hl
  unfold fX10_factor_67 at hf
  refine lv_istore_n (lv' := [(3, .int y0), (0, .ref (ad w0)), (1, .int x1), (2, .int x2)]) hx hb dX10_factor_67 rfl hl (by decide) rfl (fun ls hl => ?_)
  refine lv_iload_n hx hb dX10_factor_68 rfl (lv_at hl 3 rfl) ?_
  refine lv_iload_n hx hb dX10_factor_69 rfl (lv_at hl 2 rfl) ?_
  refine lv_isub hx hb dX10_factor_70 ?_
  refine lv_iconst (v := (2 : Int32)) hx hb dX10_factor_71 (by decide) ?_
  refine lv_irem hx hb dX10_factor_72 (by decide) ?_
  refine lv_iconst (v := (1 : Int32)) hx hb dX10_factor_73 (by decide) ?_
  refine lv_icmp_ne (tgt := 85) hx hb dX10_factor_74 (by decide) (fun c67001 => ?_) (fun c67001 => ?_)
  · have hf := c_ie c67001 hf
    refine lv_iload_n hx hb dX10_factor_85 rfl (lv_at hl 0 rfl) ?_
    obtain ⟨hb67002, hf⟩ := c_gd hf
    exact c_iret hx hb hr hlk hP hS (c_boE hb67002) (c_inj hf) dX10_factor_86
  · have hf := c_it c67001 hf
    refine lv_aload_n hx hb dX10_factor_77 rfl (lv_at hl 1 rfl) ?_
    refine lv_bipush (v := (6 : Int32)) hx hb dX10_factor_78 (by decide) ?_
    refine lv_iconst (v := (0 : Int32)) hx hb dX10_factor_80 (by decide) ?_
    refine lv_iconst (v := (0 : Int32)) hx hb dX10_factor_81 (by decide) ?_
    obtain ⟨g67004, hc67003, hf⟩ := c_bd hf
    refine c_gov (va_runV (As := [.int (6 : Int32), .int (0 : Int32), .int (0 : Int32)]) (rest := []) ⟨hx, hb, hml, hown, hts⟩ (kX10_step hD hc67003) (cwV 3 hts gX10_factor_X10_step rfl rfl rfl (by decide +kernel) ⟨by simp only [c_rm]; omega, by simp only [c_rm]; omega⟩) (c_preV hK hP hE hS fw0_0 rfl) rfl rfl hl.1 rfl (lv_room (Nat.le_of_ble_eq_true rfl)) dX10_factor_82 ⟨Nat.zero_le _, Nat.zero_le _⟩) hS (fun H locs hP hS => ?_)
    refine lv_iload_n hx hb dX10_factor_85 rfl (lv_at hl 0 rfl) ?_
    obtain ⟨hb67005, hf⟩ := c_gd hf
    exact c_iret hx hb hr hlk hP hS (c_boE hb67005) (c_inj hf) dX10_factor_86
def fX10_factor_63 (F : Nat → c_G → Nat → Int32 → Option (c_G × Int32))  (w0 : Nat) (a1 : Int32) (x1 : Int32) (x2 : Int32) (g : c_G) : Option (c_G × Int32) :=
  c_b2 (fX10_test g w0) fun g63002 r63003 => fX10_factor_67 F w0 a1 x1 x2 r63003 g63002
set_option maxRecDepth 100000 in
set_option maxHeartbeats 4000000 in
theorem jX10_factor_63 {p : Program} {l : Launch} {e : Env} {s : State} {m : MethodId} {below : List Frame} {meth : Method} {c : Code} {D : va_G} {tc : Nat → ClassId} {ad : Nat → Nat} {A : Nat → Prop} {E : (Nat → Nat) × (Nat → Nat) × Nat} {F : Nat → c_G → Nat → Int32 → Option (c_G × Int32)} {dd : Nat} {w0 : Nat} {a1 : Int32} {g' : c_G} {r : Int32} (C : c_C p s m meth c D tc A E RX10 wsX10_factor cX10_factor 4 (some .boolean) ([.ref (ad w0), .int a1] : List Value).toArray) (hD : c_D A ad TC) (hF0 : ∀ {g g' : c_G} {w0 : Nat} {a1 : Int32} {r : Int32}, F 0 g w0 a1 = some (g', r) → c_Mi l yX10_either wsX10_either (c_rm (6 + dd)) D tc ad A E TC [.ref (ad w0), .int a1] g g' r) (hF1 : ∀ {g g' : c_G} {w0 : Nat} {a1 : Int32} {r : Int32}, F 1 g w0 a1 = some (g', r) → c_Mi l yX10_both wsX10_both (c_rm (6 + dd)) D tc ad A E TC [.ref (ad w0), .int a1] g g' r) (hF2 : ∀ {g g' : c_G} {w0 : Nat} {a1 : Int32} {r : Int32}, F 2 g w0 a1 = some (g', r) → c_Mi l yX10_factor wsX10_factor (c_rm (6 + dd)) D tc ad A E TC [.ref (ad w0), .int a1] g g' r) (hq_w0 : c_isV w0 = true)  : ∀ (x1 : Int32) (x2 : Int32) (g : c_G), fX10_factor_63 F w0 a1 x1 x2 g = some (g', r) → ∀ (H : Heap) (locs : List Loc), va_P D vwCl (c_ws tc ad TC g) H → va_S A s.heap H locs → ∀ ls : Array Slot, lv_has ls 4 [(0, .ref (ad w0)), (1, .int x1), (2, .int x2)] → W p l e (c_rm (6 + dd + 1)) s m ([.ref (ad w0), .int a1] : List Value).toArray below meth c H locs 0 0 (MQ below (va_Qi (fun (x : Int32) (_ : Unit) => x = r) (fun _ t => va_P D vwCl (c_ws tc ad TC g') t.heap) A) ([.ref (ad w0), .int a1] : List Value).toArray s 0 0 A) (F0 m 63 ls []) := by
  obtain ⟨hx, hb, hr, hml, hts, hown, hlk, hK, hE⟩ := id C
  obtain ⟨fw0_0, fw0_1, fw0_2, fw0_3, fw0_4⟩ := c_isVE hq_w0
  intro x1 x2 g hf H locs hP hS ls hl
  unfold fX10_factor_63 at hf
  refine lv_aload_n hx hb dX10_factor_63 rfl (lv_at hl 0 rfl) ?_
  obtain ⟨g63002, r63003, hc63001, hf⟩ := c_b2E hf
  refine c_goi (va_runV (As := []) (rest := []) ⟨hx, hb, hml, hown, hts⟩ (kX10_test hD hc63001) (cwV 0 hts gX10_factor_X10_test rfl rfl rfl (by decide +kernel) ⟨by simp only [c_rm]; omega, by simp only [c_rm]; omega⟩) (c_preV hK hP hE hS fw0_0 rfl) rfl rfl hl.1 rfl (lv_room (Nat.le_of_ble_eq_true rfl)) dX10_factor_64 ⟨Nat.zero_le _, Nat.zero_le _⟩) hS (fun H locs hP hS => ?_)
  exact jX10_factor_67 C hD hF0 hF1 hF2 hq_w0 x1 x2 r63003 g63002 hf _ _ hP hS _ (lv_sub hl [0, 1, 2] rfl)
def fX10_factor_59 (F : Nat → c_G → Nat → Int32 → Option (c_G × Int32))  (w0 : Nat) (a1 : Int32) (x1 : Int32) (x2 : Int32) (g : c_G) : Option (c_G × Int32) :=
  fX10_factor_67 F w0 a1 x1 x2 ((0 : Int32)) g
set_option maxRecDepth 100000 in
set_option maxHeartbeats 4000000 in
theorem jX10_factor_59 {p : Program} {l : Launch} {e : Env} {s : State} {m : MethodId} {below : List Frame} {meth : Method} {c : Code} {D : va_G} {tc : Nat → ClassId} {ad : Nat → Nat} {A : Nat → Prop} {E : (Nat → Nat) × (Nat → Nat) × Nat} {F : Nat → c_G → Nat → Int32 → Option (c_G × Int32)} {dd : Nat} {w0 : Nat} {a1 : Int32} {g' : c_G} {r : Int32} (C : c_C p s m meth c D tc A E RX10 wsX10_factor cX10_factor 4 (some .boolean) ([.ref (ad w0), .int a1] : List Value).toArray) (hD : c_D A ad TC) (hF0 : ∀ {g g' : c_G} {w0 : Nat} {a1 : Int32} {r : Int32}, F 0 g w0 a1 = some (g', r) → c_Mi l yX10_either wsX10_either (c_rm (6 + dd)) D tc ad A E TC [.ref (ad w0), .int a1] g g' r) (hF1 : ∀ {g g' : c_G} {w0 : Nat} {a1 : Int32} {r : Int32}, F 1 g w0 a1 = some (g', r) → c_Mi l yX10_both wsX10_both (c_rm (6 + dd)) D tc ad A E TC [.ref (ad w0), .int a1] g g' r) (hF2 : ∀ {g g' : c_G} {w0 : Nat} {a1 : Int32} {r : Int32}, F 2 g w0 a1 = some (g', r) → c_Mi l yX10_factor wsX10_factor (c_rm (6 + dd)) D tc ad A E TC [.ref (ad w0), .int a1] g g' r) (hq_w0 : c_isV w0 = true)  : ∀ (x1 : Int32) (x2 : Int32) (g : c_G), fX10_factor_59 F w0 a1 x1 x2 g = some (g', r) → ∀ (H : Heap) (locs : List Loc), va_P D vwCl (c_ws tc ad TC g) H → va_S A s.heap H locs → ∀ ls : Array Slot, lv_has ls 4 [(0, .ref (ad w0)), (1, .int x1), (2, .int x2)] → W p l e (c_rm (6 + dd + 1)) s m ([.ref (ad w0), .int a1] : List Value).toArray below meth c H locs 0 0 (MQ below (va_Qi (fun (x : Int32) (_ : Unit) => x = r) (fun _ t => va_P D vwCl (c_ws tc ad TC g') t.heap) A) ([.ref (ad w0), .int a1] : List Value).toArray s 0 0 A) (F0 m 59 ls []) := by
  obtain ⟨hx, hb, hr, hml, hts, hown, hlk, hK, hE⟩ := id C
  obtain ⟨fw0_0, fw0_1, fw0_2, fw0_3, fw0_4⟩ := c_isVE hq_w0
  intro x1 x2 g hf H locs hP hS ls hl
  unfold fX10_factor_59 at hf
  refine lv_iconst (v := (0 : Int32)) hx hb dX10_factor_59 (by decide) ?_
  refine lv_goto (tgt := 67) hx hb dX10_factor_60 (by decide) ?_
  exact jX10_factor_67 C hD hF0 hF1 hF2 hq_w0 x1 x2 ((0 : Int32)) g hf _ _ hP hS _ (lv_sub hl [0, 1, 2] rfl)
def fX10_factor_22 (F : Nat → c_G → Nat → Int32 → Option (c_G × Int32))  (w0 : Nat) (a1 : Int32) (x1 : Int32) (x2 : Int32) (g : c_G) : Option (c_G × Int32) :=
  if (4 : Int32) ≤ x2 then (fX10_factor_63 F w0 a1 x1 x2 g) else (c_b2 (fX10_eat g w0 ((40 : Int32))) fun g22003 r22004 => if r22004 = 0 then (fX10_factor_63 F w0 a1 x1 x2 g22003) else (c_b2 (F 0 g22003 w0 ((x2 + (1 : Int32)))) fun g22007 r22008 => if r22008 = 0 then (fX10_factor_59 F w0 a1 x1 x2 g22007) else (c_b2 (fX10_eat g22007 w0 ((41 : Int32))) fun g22011 r22012 => if r22012 = 0 then (fX10_factor_59 F w0 a1 x1 x2 g22011) else (fX10_factor_67 F w0 a1 x1 x2 ((1 : Int32)) g22011))))
set_option maxRecDepth 100000 in
set_option maxHeartbeats 4000000 in
theorem jX10_factor_22 {p : Program} {l : Launch} {e : Env} {s : State} {m : MethodId} {below : List Frame} {meth : Method} {c : Code} {D : va_G} {tc : Nat → ClassId} {ad : Nat → Nat} {A : Nat → Prop} {E : (Nat → Nat) × (Nat → Nat) × Nat} {F : Nat → c_G → Nat → Int32 → Option (c_G × Int32)} {dd : Nat} {w0 : Nat} {a1 : Int32} {g' : c_G} {r : Int32} (C : c_C p s m meth c D tc A E RX10 wsX10_factor cX10_factor 4 (some .boolean) ([.ref (ad w0), .int a1] : List Value).toArray) (hD : c_D A ad TC) (hF0 : ∀ {g g' : c_G} {w0 : Nat} {a1 : Int32} {r : Int32}, F 0 g w0 a1 = some (g', r) → c_Mi l yX10_either wsX10_either (c_rm (6 + dd)) D tc ad A E TC [.ref (ad w0), .int a1] g g' r) (hF1 : ∀ {g g' : c_G} {w0 : Nat} {a1 : Int32} {r : Int32}, F 1 g w0 a1 = some (g', r) → c_Mi l yX10_both wsX10_both (c_rm (6 + dd)) D tc ad A E TC [.ref (ad w0), .int a1] g g' r) (hF2 : ∀ {g g' : c_G} {w0 : Nat} {a1 : Int32} {r : Int32}, F 2 g w0 a1 = some (g', r) → c_Mi l yX10_factor wsX10_factor (c_rm (6 + dd)) D tc ad A E TC [.ref (ad w0), .int a1] g g' r) (hq_w0 : c_isV w0 = true)  : ∀ (x1 : Int32) (x2 : Int32) (g : c_G), fX10_factor_22 F w0 a1 x1 x2 g = some (g', r) → ∀ (H : Heap) (locs : List Loc), va_P D vwCl (c_ws tc ad TC g) H → va_S A s.heap H locs → ∀ ls : Array Slot, lv_has ls 4 [(0, .ref (ad w0)), (1, .int x1), (2, .int x2)] → W p l e (c_rm (6 + dd + 1)) s m ([.ref (ad w0), .int a1] : List Value).toArray below meth c H locs 0 0 (MQ below (va_Qi (fun (x : Int32) (_ : Unit) => x = r) (fun _ t => va_P D vwCl (c_ws tc ad TC g') t.heap) A) ([.ref (ad w0), .int a1] : List Value).toArray s 0 0 A) (F0 m 22 ls []) := by
  obtain ⟨hx, hb, hr, hml, hts, hown, hlk, hK, hE⟩ := id C
  obtain ⟨fw0_0, fw0_1, fw0_2, fw0_3, fw0_4⟩ := c_isVE hq_w0
  intro x1 x2 g hf H locs hP hS ls hl
  unfold fX10_factor_22 at hf
  refine lv_iload_n hx hb dX10_factor_22 rfl (lv_at hl 2 rfl) ?_
  refine lv_iconst (v := (4 : Int32)) hx hb dX10_factor_23 (by decide) ?_
  refine lv_icmp_ge (tgt := 63) hx hb dX10_factor_24 (by decide) (fun c22001 => ?_) (fun c22001 => ?_)
  · have hf := c_it c22001 hf
    exact jX10_factor_63 C hD hF0 hF1 hF2 hq_w0 x1 x2 g hf _ _ hP hS _ (lv_sub hl [0, 1, 2] rfl)
  · have hf := c_ie c22001 hf
    refine lv_aload_n hx hb dX10_factor_27 rfl (lv_at hl 0 rfl) ?_
    refine lv_bipush (v := (40 : Int32)) hx hb dX10_factor_28 (by decide) ?_
    obtain ⟨g22003, r22004, hc22002, hf⟩ := c_b2E hf
    refine c_goi (va_runV (As := [.int (40 : Int32)]) (rest := []) ⟨hx, hb, hml, hown, hts⟩ (kX10_eat hD hc22002) (cwV 1 hts gX10_factor_X10_eat rfl rfl rfl (by decide +kernel) ⟨by simp only [c_rm]; omega, by simp only [c_rm]; omega⟩) (c_preV hK hP hE hS fw0_0 rfl) rfl rfl hl.1 rfl (lv_room (Nat.le_of_ble_eq_true rfl)) dX10_factor_30 ⟨Nat.zero_le _, Nat.zero_le _⟩) hS (fun H locs hP hS => ?_)
    refine lv_if_eq (tgt := 63) hx hb dX10_factor_33 (by decide) (fun c22005 => ?_) (fun c22005 => ?_)
    · have hf := c_it c22005 hf
      exact jX10_factor_63 C hD hF0 hF1 hF2 hq_w0 x1 x2 g22003 hf _ _ hP hS _ (lv_sub hl [0, 1, 2] rfl)
    · have hf := c_ie c22005 hf
      refine lv_aload_n hx hb dX10_factor_36 rfl (lv_at hl 0 rfl) ?_
      refine lv_iload_n hx hb dX10_factor_37 rfl (lv_at hl 2 rfl) ?_
      refine lv_iconst (v := (1 : Int32)) hx hb dX10_factor_38 (by decide) ?_
      refine lv_iadd hx hb dX10_factor_39 ?_
      obtain ⟨g22007, r22008, hc22006, hf⟩ := c_b2E hf
      refine c_goi (va_runV (As := [.int (x2 + (1 : Int32))]) (rest := []) ⟨hx, hb, hml, hown, hts⟩ (hF0 hc22006) (cwV 1 hts gX10_factor_X10_either rfl rfl rfl (by decide +kernel) ⟨by simp only [c_rm]; omega, by simp only [c_rm]; omega⟩) (c_preV hK hP hE hS fw0_0 rfl) rfl rfl hl.1 rfl (lv_room (Nat.le_of_ble_eq_true rfl)) dX10_factor_40 ⟨Nat.zero_le _, Nat.zero_le _⟩) hS (fun H locs hP hS => ?_)
      refine lv_if_eq (tgt := 59) hx hb dX10_factor_43 (by decide) (fun c22009 => ?_) (fun c22009 => ?_)
      · have hf := c_it c22009 hf
        exact jX10_factor_59 C hD hF0 hF1 hF2 hq_w0 x1 x2 g22007 hf _ _ hP hS _ (lv_sub hl [0, 1, 2] rfl)
      · have hf := c_ie c22009 hf
        refine lv_aload_n hx hb dX10_factor_46 rfl (lv_at hl 0 rfl) ?_
        refine lv_bipush (v := (41 : Int32)) hx hb dX10_factor_47 (by decide) ?_
        obtain ⟨g22011, r22012, hc22010, hf⟩ := c_b2E hf
        refine c_goi (va_runV (As := [.int (41 : Int32)]) (rest := []) ⟨hx, hb, hml, hown, hts⟩ (kX10_eat hD hc22010) (cwV 1 hts gX10_factor_X10_eat rfl rfl rfl (by decide +kernel) ⟨by simp only [c_rm]; omega, by simp only [c_rm]; omega⟩) (c_preV hK hP hE hS fw0_0 rfl) rfl rfl hl.1 rfl (lv_room (Nat.le_of_ble_eq_true rfl)) dX10_factor_49 ⟨Nat.zero_le _, Nat.zero_le _⟩) hS (fun H locs hP hS => ?_)
        refine lv_if_eq (tgt := 59) hx hb dX10_factor_52 (by decide) (fun c22013 => ?_) (fun c22013 => ?_)
        · have hf := c_it c22013 hf
          exact jX10_factor_59 C hD hF0 hF1 hF2 hq_w0 x1 x2 g22011 hf _ _ hP hS _ (lv_sub hl [0, 1, 2] rfl)
        · have hf := c_ie c22013 hf
          refine lv_iconst (v := (1 : Int32)) hx hb dX10_factor_55 (by decide) ?_
          refine lv_goto (tgt := 67) hx hb dX10_factor_56 (by decide) ?_
          exact jX10_factor_67 C hD hF0 hF1 hF2 hq_w0 x1 x2 ((1 : Int32)) g22011 hf _ _ hP hS _ (lv_sub hl [0, 1, 2] rfl)
def fX10_factor_2 (F : Nat → c_G → Nat → Int32 → Option (c_G × Int32))  (w0 : Nat) (a1 : Int32) : Nat → Int32 → Int32 → c_G → Option (c_G × Int32)
  | 0, _, _, _ => none
  | n + 1, x1, x2, g => if (4 : Int32) ≤ x2 then (fX10_factor_22 F w0 a1 x1 x2 g) else (c_b2 (fX10_eat g w0 ((33 : Int32))) fun g2003 r2004 => if r2004 = 0 then (fX10_factor_22 F w0 a1 x1 x2 g2003) else (c_let (x2 + (1 : Int32)) fun v2006 => (fX10_factor_2 F w0 a1 n) x1 v2006 g2003))
set_option maxRecDepth 100000 in
set_option maxHeartbeats 4000000 in
theorem jX10_factor_2 {p : Program} {l : Launch} {e : Env} {s : State} {m : MethodId} {below : List Frame} {meth : Method} {c : Code} {D : va_G} {tc : Nat → ClassId} {ad : Nat → Nat} {A : Nat → Prop} {E : (Nat → Nat) × (Nat → Nat) × Nat} {F : Nat → c_G → Nat → Int32 → Option (c_G × Int32)} {dd : Nat} {w0 : Nat} {a1 : Int32} {g' : c_G} {r : Int32} (C : c_C p s m meth c D tc A E RX10 wsX10_factor cX10_factor 4 (some .boolean) ([.ref (ad w0), .int a1] : List Value).toArray) (hD : c_D A ad TC) (hF0 : ∀ {g g' : c_G} {w0 : Nat} {a1 : Int32} {r : Int32}, F 0 g w0 a1 = some (g', r) → c_Mi l yX10_either wsX10_either (c_rm (6 + dd)) D tc ad A E TC [.ref (ad w0), .int a1] g g' r) (hF1 : ∀ {g g' : c_G} {w0 : Nat} {a1 : Int32} {r : Int32}, F 1 g w0 a1 = some (g', r) → c_Mi l yX10_both wsX10_both (c_rm (6 + dd)) D tc ad A E TC [.ref (ad w0), .int a1] g g' r) (hF2 : ∀ {g g' : c_G} {w0 : Nat} {a1 : Int32} {r : Int32}, F 2 g w0 a1 = some (g', r) → c_Mi l yX10_factor wsX10_factor (c_rm (6 + dd)) D tc ad A E TC [.ref (ad w0), .int a1] g g' r) (hq_w0 : c_isV w0 = true)  : ∀ (n : Nat) (x1 : Int32) (x2 : Int32) (g : c_G), fX10_factor_2 F w0 a1 n x1 x2 g = some (g', r) → ∀ (H : Heap) (locs : List Loc), va_P D vwCl (c_ws tc ad TC g) H → va_S A s.heap H locs → ∀ ls : Array Slot, lv_has ls 4 [(0, .ref (ad w0)), (1, .int x1), (2, .int x2)] → W p l e (c_rm (6 + dd + 1)) s m ([.ref (ad w0), .int a1] : List Value).toArray below meth c H locs 0 0 (MQ below (va_Qi (fun (x : Int32) (_ : Unit) => x = r) (fun _ t => va_P D vwCl (c_ws tc ad TC g') t.heap) A) ([.ref (ad w0), .int a1] : List Value).toArray s 0 0 A) (F0 m 2 ls []) := by
  obtain ⟨hx, hb, hr, hml, hts, hown, hlk, hK, hE⟩ := id C
  obtain ⟨fw0_0, fw0_1, fw0_2, fw0_3, fw0_4⟩ := c_isVE hq_w0
  intro n
  induction n with
  | zero =>
    intro x1 x2 g hf
    cases hf
  | succ n ih =>
    intro x1 x2 g hf H locs hP hS ls hl
    unfold fX10_factor_2 at hf
    refine lv_iload_n hx hb dX10_factor_2 rfl (lv_at hl 2 rfl) ?_
    refine lv_iconst (v := (4 : Int32)) hx hb dX10_factor_3 (by decide) ?_
    refine lv_icmp_ge (tgt := 22) hx hb dX10_factor_4 (by decide) (fun c2001 => ?_) (fun c2001 => ?_)
    · have hf := c_it c2001 hf
      exact jX10_factor_22 C hD hF0 hF1 hF2 hq_w0 x1 x2 g hf _ _ hP hS _ (lv_sub hl [0, 1, 2] rfl)
    · have hf := c_ie c2001 hf
      refine lv_aload_n hx hb dX10_factor_7 rfl (lv_at hl 0 rfl) ?_
      refine lv_bipush (v := (33 : Int32)) hx hb dX10_factor_8 (by decide) ?_
      obtain ⟨g2003, r2004, hc2002, hf⟩ := c_b2E hf
      refine c_goi (va_runV (As := [.int (33 : Int32)]) (rest := []) ⟨hx, hb, hml, hown, hts⟩ (kX10_eat hD hc2002) (cwV 1 hts gX10_factor_X10_eat rfl rfl rfl (by decide +kernel) ⟨by simp only [c_rm]; omega, by simp only [c_rm]; omega⟩) (c_preV hK hP hE hS fw0_0 rfl) rfl rfl hl.1 rfl (lv_room (Nat.le_of_ble_eq_true rfl)) dX10_factor_10 ⟨Nat.zero_le _, Nat.zero_le _⟩) hS (fun H locs hP hS => ?_)
      refine lv_if_eq (tgt := 22) hx hb dX10_factor_13 (by decide) (fun c2005 => ?_) (fun c2005 => ?_)
      · have hf := c_it c2005 hf
        exact jX10_factor_22 C hD hF0 hF1 hF2 hq_w0 x1 x2 g2003 hf _ _ hP hS _ (lv_sub hl [0, 1, 2] rfl)
      · have hf := c_ie c2005 hf
        obtain ⟨v2006, ev2006, hf⟩ := c_letE hf
        refine lv_iinc (v := v2006) (lv' := [(2, .int v2006), (0, .ref (ad w0)), (1, .int x1)]) hx hb dX10_factor_16 hl (k := 2) rfl (by rw [ev2006]; rfl) (by decide) rfl (fun ls hl => ?_)
        refine lv_goto (tgt := 2) hx hb dX10_factor_19 (by decide) ?_
        exact ih x1 v2006 g2003 hf _ _ hP hS _ (lv_sub hl [1, 2, 0] rfl)
def fX10_factor (F : Nat → c_G → Nat → Int32 → Option (c_G × Int32)) (g : c_G) (w0 : Nat) (a1 : Int32) : Option (c_G × Int32) :=
  if c_isV w0 = true then (fX10_factor_2 F w0 a1 c_F a1 a1 g) else none
set_option maxRecDepth 100000 in
set_option maxHeartbeats 4000000 in
theorem kX10_factor {l : Launch} {D : va_G} {tc : Nat → ClassId} {ad : Nat → Nat} {A : Nat → Prop} {E : (Nat → Nat) × (Nat → Nat) × Nat} {F : Nat → c_G → Nat → Int32 → Option (c_G × Int32)} {dd : Nat} (hF0 : ∀ {g g' : c_G} {w0 : Nat} {a1 : Int32} {r : Int32}, F 0 g w0 a1 = some (g', r) → c_Mi l yX10_either wsX10_either (c_rm (6 + dd)) D tc ad A E TC [.ref (ad w0), .int a1] g g' r) (hF1 : ∀ {g g' : c_G} {w0 : Nat} {a1 : Int32} {r : Int32}, F 1 g w0 a1 = some (g', r) → c_Mi l yX10_both wsX10_both (c_rm (6 + dd)) D tc ad A E TC [.ref (ad w0), .int a1] g g' r) (hF2 : ∀ {g g' : c_G} {w0 : Nat} {a1 : Int32} {r : Int32}, F 2 g w0 a1 = some (g', r) → c_Mi l yX10_factor wsX10_factor (c_rm (6 + dd)) D tc ad A E TC [.ref (ad w0), .int a1] g g' r) (hD : c_D A ad TC) {w0 : Nat} {a1 : Int32} {g g' : c_G} {r : Int32} (hf : fX10_factor F g w0 a1 = some (g', r)) : c_Mi l yX10_factor wsX10_factor (c_rm (6 + dd + 1)) D tc ad A E TC ([.ref (ad w0), .int a1] : List Value) g g' r := by
  refine c_ofW (bytes := cX10_factor) (maxL := 4) (ret := (some .boolean)) (by decide) rfl (Nat.le_of_ble_eq_true rfl) ?_
  intro p e s m below meth c ls C hP hS hl
  unfold fX10_factor at hf
  obtain ⟨hq_w0, hf⟩ := c_gd hf
  obtain ⟨hx, hb, hr, hml, hts, hown, hlk, hK, hE⟩ := id C
  obtain ⟨fw0_0, fw0_1, fw0_2, fw0_3, fw0_4⟩ := c_isVE hq_w0
  have hl : lv_has ls 4 [(0, .ref (ad w0)), (1, .int a1)] := hl
  refine lv_iload_n hx hb dX10_factor_0 rfl (lv_at hl 1 rfl) ?_
  refine lv_istore_n (lv' := [(2, .int a1), (0, .ref (ad w0)), (1, .int a1)]) hx hb dX10_factor_1 rfl hl (by decide) rfl (fun ls hl => ?_)
  exact jX10_factor_2 C hD hF0 hF1 hF2 hq_w0 c_F a1 a1 g hf _ _ hP hS _ (lv_sub hl [1, 2, 0] rfl)
def fG1 : Nat → Nat → c_G → Nat → Int32 → Option (c_G × Int32)
  | 0, _, _, _, _ => none
  | n + 1, t, g, w0, a1 => if t = 0 then fX10_either (fG1 n) g w0 a1 else if t = 1 then fX10_both (fG1 n) g w0 a1 else if t = 2 then fX10_factor (fG1 n) g w0 a1 else none
set_option maxRecDepth 100000 in
set_option maxHeartbeats 4000000 in
theorem kG1_all {l : Launch} {D : va_G} {tc : Nat → ClassId} {ad : Nat → Nat} {A : Nat → Prop} {E : (Nat → Nat) × (Nat → Nat) × Nat} (hD : c_D A ad TC) : ∀ n : Nat, (∀ {g g' : c_G} {w0 : Nat} {a1 : Int32} {r : Int32}, fG1 n 0 g w0 a1 = some (g', r) → c_Mi l yX10_either wsX10_either (c_rm (6 + n)) D tc ad A E TC [.ref (ad w0), .int a1] g g' r) ∧ (∀ {g g' : c_G} {w0 : Nat} {a1 : Int32} {r : Int32}, fG1 n 1 g w0 a1 = some (g', r) → c_Mi l yX10_both wsX10_both (c_rm (6 + n)) D tc ad A E TC [.ref (ad w0), .int a1] g g' r) ∧ (∀ {g g' : c_G} {w0 : Nat} {a1 : Int32} {r : Int32}, fG1 n 2 g w0 a1 = some (g', r) → c_Mi l yX10_factor wsX10_factor (c_rm (6 + n)) D tc ad A E TC [.ref (ad w0), .int a1] g g' r) := by
  intro n
  induction n with
  | zero =>
    exact ⟨@fun _ _ _ _ _ hf => (by cases hf), @fun _ _ _ _ _ hf => (by cases hf), @fun _ _ _ _ _ hf => (by cases hf)⟩
  | succ n ih =>
    exact ⟨@fun _ _ _ _ _ hf => kX10_either (ih.1) (ih.2.1) (ih.2.2) hD (by have h9 := hf; unfold fG1 at h9; exact c_it rfl h9), @fun _ _ _ _ _ hf => kX10_both (ih.1) (ih.2.1) (ih.2.2) hD (by have h9 := hf; unfold fG1 at h9; replace h9 := c_ie (by decide) h9; exact c_it rfl h9), @fun _ _ _ _ _ hf => kX10_factor (ih.1) (ih.2.1) (ih.2.2) hD (by have h9 := hf; unfold fG1 at h9; replace h9 := c_ie (by decide) h9; replace h9 := c_ie (by decide) h9; exact c_it rfl h9)⟩
theorem kG1_0 {l : Launch} {D : va_G} {tc : Nat → ClassId} {ad : Nat → Nat} {A : Nat → Prop} {E : (Nat → Nat) × (Nat → Nat) × Nat} (hD : c_D A ad TC) : ∀ {g g' : c_G} {w0 : Nat} {a1 : Int32} {r : Int32}, fG1 40 0 g w0 a1 = some (g', r) → c_Mi l yX10_either wsX10_either (c_rm (6 + 40)) D tc ad A E TC [.ref (ad w0), .int a1] g g' r := (kG1_all hD 40).1
theorem kG1_1 {l : Launch} {D : va_G} {tc : Nat → ClassId} {ad : Nat → Nat} {A : Nat → Prop} {E : (Nat → Nat) × (Nat → Nat) × Nat} (hD : c_D A ad TC) : ∀ {g g' : c_G} {w0 : Nat} {a1 : Int32} {r : Int32}, fG1 40 1 g w0 a1 = some (g', r) → c_Mi l yX10_both wsX10_both (c_rm (6 + 40)) D tc ad A E TC [.ref (ad w0), .int a1] g g' r := (kG1_all hD 40).2.1
theorem kG1_2 {l : Launch} {D : va_G} {tc : Nat → ClassId} {ad : Nat → Nat} {A : Nat → Prop} {E : (Nat → Nat) × (Nat → Nat) × Nat} (hD : c_D A ad TC) : ∀ {g g' : c_G} {w0 : Nat} {a1 : Int32} {r : Int32}, fG1 40 2 g w0 a1 = some (g', r) → c_Mi l yX10_factor wsX10_factor (c_rm (6 + 40)) D tc ad A E TC [.ref (ad w0), .int a1] g g' r := (kG1_all hD 40).2.2
theorem i_X10_clause_X10 : ∀ w ∈ u_ws RX10 TX10 8, w ∈ wsX10_clause := c_inP [156, 157, 158, 159, 160, 161, 162, 163] (by decide +kernel)
theorem dX10_clause_0 : decode cX10_clause 0 = .ok (.aload_n 0, 1) := by decide +kernel
theorem dX10_clause_1 : decode cX10_clause 1 = .ok (.bipush 115, 2) := by decide +kernel
theorem dX10_clause_3 : decode cX10_clause 3 = .ok (.invokevirtual 48, 3) := by decide +kernel
theorem dX10_clause_6 : decode cX10_clause 6 = .ok (.istore_n 1, 1) := by decide +kernel
theorem dX10_clause_7 : decode cX10_clause 7 = .ok (.iload_n 1, 1) := by decide +kernel
theorem dX10_clause_8 : decode cX10_clause 8 = .ok (.ifCond .ne 16, 3) := by decide +kernel
theorem dX10_clause_11 : decode cX10_clause 11 = .ok (.aload_n 0, 1) := by decide +kernel
theorem dX10_clause_12 : decode cX10_clause 12 = .ok (.bipush 106, 2) := by decide +kernel
theorem dX10_clause_14 : decode cX10_clause 14 = .ok (.invokevirtual 48, 3) := by decide +kernel
theorem dX10_clause_17 : decode cX10_clause 17 = .ok (.ifCond .eq 7, 3) := by decide +kernel
theorem dX10_clause_20 : decode cX10_clause 20 = .ok (.iconst 1, 1) := by decide +kernel
theorem dX10_clause_21 : decode cX10_clause 21 = .ok (.goto 4, 3) := by decide +kernel
theorem dX10_clause_24 : decode cX10_clause 24 = .ok (.iconst 0, 1) := by decide +kernel
theorem dX10_clause_25 : decode cX10_clause 25 = .ok (.istore_n 2, 1) := by decide +kernel
theorem dX10_clause_26 : decode cX10_clause 26 = .ok (.aload_n 0, 1) := by decide +kernel
theorem dX10_clause_27 : decode cX10_clause 27 = .ok (.iload_n 1, 1) := by decide +kernel
theorem dX10_clause_28 : decode cX10_clause 28 = .ok (.ifCond .eq 8, 3) := by decide +kernel
theorem dX10_clause_31 : decode cX10_clause 31 = .ok (.ldc 52, 2) := by decide +kernel
theorem dX10_clause_33 : decode cX10_clause 33 = .ok (.goto 14, 3) := by decide +kernel
theorem dX10_clause_36 : decode cX10_clause 36 = .ok (.iload_n 2, 1) := by decide +kernel
theorem dX10_clause_37 : decode cX10_clause 37 = .ok (.ifCond .eq 8, 3) := by decide +kernel
theorem dX10_clause_40 : decode cX10_clause 40 = .ok (.ldc 54, 2) := by decide +kernel
theorem dX10_clause_42 : decode cX10_clause 42 = .ok (.goto 5, 3) := by decide +kernel
theorem dX10_clause_45 : decode cX10_clause 45 = .ok (.ldc 56, 2) := by decide +kernel
theorem dX10_clause_47 : decode cX10_clause 47 = .ok (.invokevirtual 58, 3) := by decide +kernel
theorem dX10_clause_50 : decode cX10_clause 50 = .ok (.ifCond .ne 5, 3) := by decide +kernel
theorem dX10_clause_53 : decode cX10_clause 53 = .ok (.iconst 0, 1) := by decide +kernel
theorem dX10_clause_54 : decode cX10_clause 54 = .ok (.ireturn, 1) := by decide +kernel
theorem dX10_clause_55 : decode cX10_clause 55 = .ok (.aload_n 0, 1) := by decide +kernel
theorem dX10_clause_56 : decode cX10_clause 56 = .ok (.invokevirtual 62, 3) := by decide +kernel
theorem dX10_clause_59 : decode cX10_clause 59 = .ok (.istore_n 3, 1) := by decide +kernel
theorem dX10_clause_60 : decode cX10_clause 60 = .ok (.iload_n 3, 1) := by decide +kernel
theorem dX10_clause_61 : decode cX10_clause 61 = .ok (.ifCond .ge 5, 3) := by decide +kernel
theorem dX10_clause_64 : decode cX10_clause 64 = .ok (.iconst 0, 1) := by decide +kernel
theorem dX10_clause_65 : decode cX10_clause 65 = .ok (.ireturn, 1) := by decide +kernel
theorem dX10_clause_66 : decode cX10_clause 66 = .ok (.iload_n 1, 1) := by decide +kernel
theorem dX10_clause_67 : decode cX10_clause 67 = .ok (.ifCond .ne 14, 3) := by decide +kernel
theorem dX10_clause_70 : decode cX10_clause 70 = .ok (.iload_n 2, 1) := by decide +kernel
theorem dX10_clause_71 : decode cX10_clause 71 = .ok (.ifCond .ne 10, 3) := by decide +kernel
theorem dX10_clause_74 : decode cX10_clause 74 = .ok (.aload_n 0, 1) := by decide +kernel
theorem dX10_clause_75 : decode cX10_clause 75 = .ok (.iload_n 3, 1) := by decide +kernel
theorem dX10_clause_76 : decode cX10_clause 76 = .ok (.putfield 41, 3) := by decide +kernel
theorem dX10_clause_79 : decode cX10_clause 79 = .ok (.iconst 1, 1) := by decide +kernel
theorem dX10_clause_80 : decode cX10_clause 80 = .ok (.ireturn, 1) := by decide +kernel
theorem dX10_clause_81 : decode cX10_clause 81 = .ok (.aload_n 0, 1) := by decide +kernel
theorem dX10_clause_82 : decode cX10_clause 82 = .ok (.bipush 32, 2) := by decide +kernel
theorem dX10_clause_84 : decode cX10_clause 84 = .ok (.invokevirtual 48, 3) := by decide +kernel
theorem dX10_clause_87 : decode cX10_clause 87 = .ok (.ifCond .eq 11, 3) := by decide +kernel
theorem dX10_clause_90 : decode cX10_clause 90 = .ok (.aload_n 0, 1) := by decide +kernel
theorem dX10_clause_91 : decode cX10_clause 91 = .ok (.iconst 0, 1) := by decide +kernel
theorem dX10_clause_92 : decode cX10_clause 92 = .ok (.invokevirtual 66, 3) := by decide +kernel
theorem dX10_clause_95 : decode cX10_clause 95 = .ok (.ifCond .ne 5, 3) := by decide +kernel
theorem dX10_clause_98 : decode cX10_clause 98 = .ok (.iconst 0, 1) := by decide +kernel
theorem dX10_clause_99 : decode cX10_clause 99 = .ok (.ireturn, 1) := by decide +kernel
theorem dX10_clause_100 : decode cX10_clause 100 = .ok (.aload_n 0, 1) := by decide +kernel
theorem dX10_clause_101 : decode cX10_clause 101 = .ok (.bipush 9, 2) := by decide +kernel
theorem dX10_clause_103 : decode cX10_clause 103 = .ok (.iconst 0, 1) := by decide +kernel
theorem dX10_clause_104 : decode cX10_clause 104 = .ok (.iload_n 1, 1) := by decide +kernel
theorem dX10_clause_105 : decode cX10_clause 105 = .ok (.ifCond .eq 7, 3) := by decide +kernel
theorem dX10_clause_108 : decode cX10_clause 108 = .ok (.iload_n 3, 1) := by decide +kernel
theorem dX10_clause_109 : decode cX10_clause 109 = .ok (.goto 5, 3) := by decide +kernel
theorem dX10_clause_112 : decode cX10_clause 112 = .ok (.iload_n 3, 1) := by decide +kernel
theorem dX10_clause_113 : decode cX10_clause 113 = .ok (.ineg, 1) := by decide +kernel
theorem dX10_clause_114 : decode cX10_clause 114 = .ok (.invokevirtual 70, 3) := by decide +kernel
theorem dX10_clause_117 : decode cX10_clause 117 = .ok (.iconst 1, 1) := by decide +kernel
theorem dX10_clause_118 : decode cX10_clause 118 = .ok (.ireturn, 1) := by decide +kernel
set_option maxRecDepth 20000 in
theorem ggX10_clause_X10_eat : GoodIn wsX10_clause wsX10_eat := goodIn_r _ [6, 7, 8, 9, 156, 157, 158, 159, 160, 161, 162, 163] (by decide +kernel) (by decide +kernel)
set_option maxRecDepth 20000 in
theorem gX10_clause_X10_eat : GoodIn wsX10_clause (wsV RX10 48 RX10 yX10_eat wsX10_eat) := goodIn_app (goodIn_of _ (by decide +kernel)) ggX10_clause_X10_eat
set_option maxRecDepth 20000 in
theorem ggX10_clause_X10_phrase : GoodIn wsX10_clause wsX10_phrase := goodIn_r _ [13, 14, 15, 16, 17, 18, 19, 20, 21, 22, 23, 24, 25, 26, 27, 28, 29, 30, 31, 32, 33, 34, 35, 36, 37, 38, 39, 40, 41, 42, 43, 44, 45, 46, 47, 48, 49, 50, 51, 52, 53, 54, 55, 56, 57, 58, 59, 60, 61, 62, 2, 3, 4, 5, 6, 7, 8, 9, 156, 157, 158, 159, 160, 161, 162, 163] (by decide +kernel) (by decide +kernel)
set_option maxRecDepth 20000 in
theorem gX10_clause_X10_phrase : GoodIn wsX10_clause (wsV RX10 58 RX10 yX10_phrase wsX10_phrase) := goodIn_app (goodIn_of _ (by decide +kernel)) ggX10_clause_X10_phrase
set_option maxRecDepth 20000 in
theorem ggX10_clause_X10_digits : GoodIn wsX10_clause wsX10_digits := goodIn_r _ [66, 7, 8, 9, 156, 157, 158, 159, 160, 161, 162, 163] (by decide +kernel) (by decide +kernel)
set_option maxRecDepth 20000 in
theorem gX10_clause_X10_digits : GoodIn wsX10_clause (wsV RX10 62 RX10 yX10_digits wsX10_digits) := goodIn_app (goodIn_of _ (by decide +kernel)) ggX10_clause_X10_digits
set_option maxRecDepth 20000 in
theorem ggX10_clause_X10_either : GoodIn wsX10_clause wsX10_either := goodIn_r _ [70, 71, 72, 73, 5, 2, 3, 4, 6, 7, 8, 9, 74, 75, 76, 77, 78, 79, 80, 81, 82, 83, 84, 85, 86, 67, 68, 69, 87, 88, 89, 90, 91, 92, 93, 94, 95, 96, 97, 17, 98, 99, 100, 101, 102, 19, 30, 31, 32, 33, 24, 25, 103, 15, 16, 18, 20, 21, 22, 23, 104, 105, 36, 106, 107, 108, 109, 110, 111, 112, 113, 114, 115, 116, 117, 118, 119, 120, 121, 48, 122, 123, 124, 125, 126, 127, 128, 129, 130, 131, 53, 54, 55, 132, 133, 134, 41, 135, 136, 44, 137, 138, 139, 140, 57, 58, 59, 60, 61, 62, 141, 142, 143, 144, 145, 146, 147, 148, 149, 150, 151, 152, 153, 154, 155, 63, 64, 65, 66, 156, 157, 158, 159, 160, 161, 162, 163] (by decide +kernel) (by decide +kernel)
set_option maxRecDepth 20000 in
theorem gX10_clause_X10_either : GoodIn wsX10_clause (wsV RX10 66 RX10 yX10_either wsX10_either) := goodIn_app (goodIn_of _ (by decide +kernel)) ggX10_clause_X10_either
set_option maxRecDepth 20000 in
theorem ggX10_clause_X10_step : GoodIn wsX10_clause wsX10_step := goodIn_r _ [77, 78, 79, 80, 81, 156, 157, 158, 159, 160, 161, 162, 163] (by decide +kernel) (by decide +kernel)
set_option maxRecDepth 20000 in
theorem gX10_clause_X10_step : GoodIn wsX10_clause (wsV RX10 70 RX10 yX10_step wsX10_step) := goodIn_app (goodIn_of _ (by decide +kernel)) ggX10_clause_X10_step
def fX10_clause_114  (w0 : Nat) (y1 : Int32) (y2 : Int32) (y3 : Int32) (g : c_G) : Option (c_G × Int32) :=
  (fX10_step g w0 y1 y2 y3).bind fun g114002 => some (g114002, (1 : Int32))
set_option maxRecDepth 100000 in
set_option maxHeartbeats 4000000 in
theorem jX10_clause_114 {p : Program} {l : Launch} {e : Env} {s : State} {m : MethodId} {below : List Frame} {meth : Method} {c : Code} {D : va_G} {tc : Nat → ClassId} {ad : Nat → Nat} {A : Nat → Prop} {E : (Nat → Nat) × (Nat → Nat) × Nat} {w0 : Nat} {g' : c_G} {r : Int32} (C : c_C p s m meth c D tc A E RX10 wsX10_clause cX10_clause 4 (some .boolean) ([.ref (ad w0)] : List Value).toArray) (hD : c_D A ad TC) (hq_w0 : c_isV w0 = true)  : ∀ (y1 : Int32) (y2 : Int32) (y3 : Int32) (g : c_G), fX10_clause_114 w0 y1 y2 y3 g = some (g', r) → ∀ (H : Heap) (locs : List Loc), va_P D vwCl (c_ws tc ad TC g) H → va_S A s.heap H locs → ∀ ls : Array Slot, lv_has ls 4 [] → W p l e (c_rm 47) s m ([.ref (ad w0)] : List Value).toArray below meth c H locs 0 0 (MQ below (va_Qi (fun (x : Int32) (_ : Unit) => x = r) (fun _ t => va_P D vwCl (c_ws tc ad TC g') t.heap) A) ([.ref (ad w0)] : List Value).toArray s 0 0 A) (F0 m 114 ls [.int y3, .int y2, .int y1, .ref (ad w0)]) := by
  obtain ⟨hx, hb, hr, hml, hts, hown, hlk, hK, hE⟩ := id C
  obtain ⟨fw0_0, fw0_1, fw0_2, fw0_3, fw0_4⟩ := c_isVE hq_w0
  intro y1 y2 y3 g hf H locs hP hS ls hl
  unfold fX10_clause_114 at hf
  obtain ⟨g114002, hc114001, hf⟩ := c_bd hf
  refine c_gov (va_runV (As := [.int y1, .int y2, .int y3]) (rest := []) ⟨hx, hb, hml, hown, hts⟩ (kX10_step hD hc114001) (cwV 3 hts gX10_clause_X10_step rfl rfl rfl (by decide +kernel) ⟨Nat.le_of_ble_eq_true rfl, Nat.le_of_ble_eq_true rfl⟩) (c_preV hK hP hE hS fw0_0 rfl) rfl rfl hl.1 rfl (lv_room (Nat.le_of_ble_eq_true rfl)) dX10_clause_114 ⟨Nat.zero_le _, Nat.zero_le _⟩) hS (fun H locs hP hS => ?_)
  refine lv_iconst (v := (1 : Int32)) hx hb dX10_clause_117 (by decide) ?_
  exact c_iret hx hb hr hlk hP hS rfl (c_inj hf) dX10_clause_118
def fX10_clause_81  (w0 : Nat) (x1 : Int32) (x3 : Int32) (g : c_G) : Option (c_G × Int32) :=
  c_b2 (fX10_eat g w0 ((32 : Int32))) fun g81002 r81003 => if r81003 = 0 then (some (g81002, (0 : Int32))) else (c_b2 (fG1 40 0 g81002 w0 ((0 : Int32))) fun g81006 r81007 => if r81007 = 0 then (some (g81006, (0 : Int32))) else (if x1 = 0 then (fX10_clause_114 w0 ((9 : Int32)) ((0 : Int32)) ((-x3)) g81006) else (fX10_clause_114 w0 ((9 : Int32)) ((0 : Int32)) x3 g81006)))
set_option maxRecDepth 100000 in
set_option maxHeartbeats 4000000 in
theorem jX10_clause_81 {p : Program} {l : Launch} {e : Env} {s : State} {m : MethodId} {below : List Frame} {meth : Method} {c : Code} {D : va_G} {tc : Nat → ClassId} {ad : Nat → Nat} {A : Nat → Prop} {E : (Nat → Nat) × (Nat → Nat) × Nat} {w0 : Nat} {g' : c_G} {r : Int32} (C : c_C p s m meth c D tc A E RX10 wsX10_clause cX10_clause 4 (some .boolean) ([.ref (ad w0)] : List Value).toArray) (hD : c_D A ad TC) (hq_w0 : c_isV w0 = true)  : ∀ (x1 : Int32) (x3 : Int32) (g : c_G), fX10_clause_81 w0 x1 x3 g = some (g', r) → ∀ (H : Heap) (locs : List Loc), va_P D vwCl (c_ws tc ad TC g) H → va_S A s.heap H locs → ∀ ls : Array Slot, lv_has ls 4 [(0, .ref (ad w0)), (1, .int x1), (3, .int x3)] → W p l e (c_rm 47) s m ([.ref (ad w0)] : List Value).toArray below meth c H locs 0 0 (MQ below (va_Qi (fun (x : Int32) (_ : Unit) => x = r) (fun _ t => va_P D vwCl (c_ws tc ad TC g') t.heap) A) ([.ref (ad w0)] : List Value).toArray s 0 0 A) (F0 m 81 ls []) := by
  obtain ⟨hx, hb, hr, hml, hts, hown, hlk, hK, hE⟩ := id C
  obtain ⟨fw0_0, fw0_1, fw0_2, fw0_3, fw0_4⟩ := c_isVE hq_w0
  intro x1 x3 g hf H locs hP hS ls hl
  unfold fX10_clause_81 at hf
  refine lv_aload_n hx hb dX10_clause_81 rfl (lv_at hl 0 rfl) ?_
  refine lv_bipush (v := (32 : Int32)) hx hb dX10_clause_82 (by decide) ?_
  obtain ⟨g81002, r81003, hc81001, hf⟩ := c_b2E hf
  refine c_goi (va_runV (As := [.int (32 : Int32)]) (rest := []) ⟨hx, hb, hml, hown, hts⟩ (kX10_eat hD hc81001) (cwV 1 hts gX10_clause_X10_eat rfl rfl rfl (by decide +kernel) ⟨Nat.le_of_ble_eq_true rfl, Nat.le_of_ble_eq_true rfl⟩) (c_preV hK hP hE hS fw0_0 rfl) rfl rfl hl.1 rfl (lv_room (Nat.le_of_ble_eq_true rfl)) dX10_clause_84 ⟨Nat.zero_le _, Nat.zero_le _⟩) hS (fun H locs hP hS => ?_)
  refine lv_if_eq (tgt := 98) hx hb dX10_clause_87 (by decide) (fun c81004 => ?_) (fun c81004 => ?_)
  · have hf := c_it c81004 hf
    refine lv_iconst (v := (0 : Int32)) hx hb dX10_clause_98 (by decide) ?_
    exact c_iret hx hb hr hlk hP hS rfl (c_inj hf) dX10_clause_99
  · have hf := c_ie c81004 hf
    refine lv_aload_n hx hb dX10_clause_90 rfl (lv_at hl 0 rfl) ?_
    refine lv_iconst (v := (0 : Int32)) hx hb dX10_clause_91 (by decide) ?_
    obtain ⟨g81006, r81007, hc81005, hf⟩ := c_b2E hf
    refine c_goi (va_runV (As := [.int (0 : Int32)]) (rest := []) ⟨hx, hb, hml, hown, hts⟩ (kG1_0 hD hc81005) (cwV 1 hts gX10_clause_X10_either rfl rfl rfl (by decide +kernel) ⟨Nat.le_of_ble_eq_true rfl, Nat.le_of_ble_eq_true rfl⟩) (c_preV hK hP hE hS fw0_0 rfl) rfl rfl hl.1 rfl (lv_room (Nat.le_of_ble_eq_true rfl)) dX10_clause_92 ⟨Nat.zero_le _, Nat.zero_le _⟩) hS (fun H locs hP hS => ?_)
    refine lv_if_ne (tgt := 100) hx hb dX10_clause_95 (by decide) (fun c81008 => ?_) (fun c81008 => ?_)
    · have hf := c_ie c81008 hf
      refine lv_aload_n hx hb dX10_clause_100 rfl (lv_at hl 0 rfl) ?_
      refine lv_bipush (v := (9 : Int32)) hx hb dX10_clause_101 (by decide) ?_
      refine lv_iconst (v := (0 : Int32)) hx hb dX10_clause_103 (by decide) ?_
      refine lv_iload_n hx hb dX10_clause_104 rfl (lv_at hl 1 rfl) ?_
      refine lv_if_eq (tgt := 112) hx hb dX10_clause_105 (by decide) (fun c81009 => ?_) (fun c81009 => ?_)
      · have hf := c_it c81009 hf
        refine lv_iload_n hx hb dX10_clause_112 rfl (lv_at hl 2 rfl) ?_
        refine lv_ineg hx hb dX10_clause_113 ?_
        exact jX10_clause_114 C hD hq_w0 ((9 : Int32)) ((0 : Int32)) ((-x3)) g81006 hf _ _ hP hS _ (lv_sub hl [] rfl)
      · have hf := c_ie c81009 hf
        refine lv_iload_n hx hb dX10_clause_108 rfl (lv_at hl 2 rfl) ?_
        refine lv_goto (tgt := 114) hx hb dX10_clause_109 (by decide) ?_
        exact jX10_clause_114 C hD hq_w0 ((9 : Int32)) ((0 : Int32)) x3 g81006 hf _ _ hP hS _ (lv_sub hl [] rfl)
    · have hf := c_it c81008 hf
      refine lv_iconst (v := (0 : Int32)) hx hb dX10_clause_98 (by decide) ?_
      exact c_iret hx hb hr hlk hP hS rfl (c_inj hf) dX10_clause_99
def fX10_clause_47  (w0 : Nat) (x1 : Int32) (x2 : Int32) (y1 : Nat) (g : c_G) : Option (c_G × Int32) :=
  c_b2 (fX10_phrase g w0 y1) fun g47002 r47003 => if r47003 = 0 then (some (g47002, (0 : Int32))) else (c_b2 (fX10_digits g47002 w0) fun g47006 r47007 => if 0 ≤ r47007 then (if x1 = 0 then (if x2 = 0 then (c_let (c_si g47006 w0 7 r47007) fun g47011 => some (g47011, (1 : Int32))) else (fX10_clause_81 w0 x1 r47007 g47006)) else (fX10_clause_81 w0 x1 r47007 g47006)) else (some (g47006, (0 : Int32))))
set_option maxRecDepth 100000 in
set_option maxHeartbeats 4000000 in
theorem jX10_clause_47 {p : Program} {l : Launch} {e : Env} {s : State} {m : MethodId} {below : List Frame} {meth : Method} {c : Code} {D : va_G} {tc : Nat → ClassId} {ad : Nat → Nat} {A : Nat → Prop} {E : (Nat → Nat) × (Nat → Nat) × Nat} {w0 : Nat} {g' : c_G} {r : Int32} (C : c_C p s m meth c D tc A E RX10 wsX10_clause cX10_clause 4 (some .boolean) ([.ref (ad w0)] : List Value).toArray) (hD : c_D A ad TC) (hq_w0 : c_isV w0 = true)  : ∀ (x1 : Int32) (x2 : Int32) (y1 : Nat) (g : c_G), fX10_clause_47 w0 x1 x2 y1 g = some (g', r) → ∀ (H : Heap) (locs : List Loc), va_P D vwCl (c_ws tc ad TC g) H → va_S A s.heap H locs → ∀ ls : Array Slot, lv_has ls 4 [(0, .ref (ad w0)), (1, .int x1), (2, .int x2)] → W p l e (c_rm 47) s m ([.ref (ad w0)] : List Value).toArray below meth c H locs 0 0 (MQ below (va_Qi (fun (x : Int32) (_ : Unit) => x = r) (fun _ t => va_P D vwCl (c_ws tc ad TC g') t.heap) A) ([.ref (ad w0)] : List Value).toArray s 0 0 A) (F0 m 47 ls [.ref (E.1 y1), .ref (ad w0)]) := by
  obtain ⟨hx, hb, hr, hml, hts, hown, hlk, hK, hE⟩ := id C
  obtain ⟨fw0_0, fw0_1, fw0_2, fw0_3, fw0_4⟩ := c_isVE hq_w0
  intro x1 x2 y1 g hf H locs hP hS ls hl
  unfold fX10_clause_47 at hf
  obtain ⟨g47002, r47003, hc47001, hf⟩ := c_b2E hf
  refine c_goi (va_runV (As := [.ref (E.1 y1)]) (rest := []) ⟨hx, hb, hml, hown, hts⟩ (kX10_phrase hD hc47001) (cwV 1 hts gX10_clause_X10_phrase rfl rfl rfl (by decide +kernel) ⟨Nat.le_of_ble_eq_true rfl, Nat.le_of_ble_eq_true rfl⟩) (c_preV hK hP hE hS fw0_0 rfl) rfl rfl hl.1 rfl (lv_room (Nat.le_of_ble_eq_true rfl)) dX10_clause_47 ⟨Nat.zero_le _, Nat.zero_le _⟩) hS (fun H locs hP hS => ?_)
  refine lv_if_ne (tgt := 55) hx hb dX10_clause_50 (by decide) (fun c47004 => ?_) (fun c47004 => ?_)
  · have hf := c_ie c47004 hf
    refine lv_aload_n hx hb dX10_clause_55 rfl (lv_at hl 0 rfl) ?_
    obtain ⟨g47006, r47007, hc47005, hf⟩ := c_b2E hf
    refine c_goi (va_runV (As := []) (rest := []) ⟨hx, hb, hml, hown, hts⟩ (kX10_digits hD hc47005) (cwV 0 hts gX10_clause_X10_digits rfl rfl rfl (by decide +kernel) ⟨Nat.le_of_ble_eq_true rfl, Nat.le_of_ble_eq_true rfl⟩) (c_preV hK hP hE hS fw0_0 rfl) rfl rfl hl.1 rfl (lv_room (Nat.le_of_ble_eq_true rfl)) dX10_clause_56 ⟨Nat.zero_le _, Nat.zero_le _⟩) hS (fun H locs hP hS => ?_)
    refine lv_istore_n (lv' := [(3, .int r47007), (0, .ref (ad w0)), (1, .int x1), (2, .int x2)]) hx hb dX10_clause_59 rfl hl (by decide) rfl (fun ls hl => ?_)
    refine lv_iload_n hx hb dX10_clause_60 rfl (lv_at hl 0 rfl) ?_
    refine lv_if_ge (tgt := 66) hx hb dX10_clause_61 (by decide) (fun c47008 => ?_) (fun c47008 => ?_)
    · have hf := c_it c47008 hf
      refine lv_iload_n hx hb dX10_clause_66 rfl (lv_at hl 2 rfl) ?_
      refine lv_if_ne (tgt := 81) hx hb dX10_clause_67 (by decide) (fun c47009 => ?_) (fun c47009 => ?_)
      · have hf := c_ie c47009 hf
        exact jX10_clause_81 C hD hq_w0 x1 r47007 g47006 hf _ _ hP hS _ (lv_sub hl [1, 2, 0] rfl)
      · have hf := c_it c47009 hf
        refine lv_iload_n hx hb dX10_clause_70 rfl (lv_at hl 3 rfl) ?_
        refine lv_if_ne (tgt := 81) hx hb dX10_clause_71 (by decide) (fun c47010 => ?_) (fun c47010 => ?_)
        · have hf := c_ie c47010 hf
          exact jX10_clause_81 C hD hq_w0 x1 r47007 g47006 hf _ _ hP hS _ (lv_sub hl [1, 2, 0] rfl)
        · have hf := c_it c47010 hf
          refine lv_aload_n hx hb dX10_clause_74 rfl (lv_at hl 1 rfl) ?_
          refine lv_iload_n hx hb dX10_clause_75 rfl (lv_at hl 0 rfl) ?_
          obtain ⟨g47011, eg47011, hf⟩ := c_letE hf
          refine c_put hx hb hts i_X10_clause_X10 tyX10 tyX10_ok nmX10 hown hK hP hD hS w0 fw0_0 rfl 7 (by decide) (hts _ (List.mem_of_getElem? (i := 1) rfl)) (fun _ h9 => h9) rfl (ty := .int) (by decide +kernel) rfl rfl rfl eg47011 dX10_clause_76 (fun H locs hP hS => ?_)
          refine lv_iconst (v := (1 : Int32)) hx hb dX10_clause_79 (by decide) ?_
          exact c_iret hx hb hr hlk hP hS rfl (c_inj hf) dX10_clause_80
    · have hf := c_ie c47008 hf
      refine lv_iconst (v := (0 : Int32)) hx hb dX10_clause_64 (by decide) ?_
      exact c_iret hx hb hr hlk hP hS rfl (c_inj hf) dX10_clause_65
  · have hf := c_it c47004 hf
    refine lv_iconst (v := (0 : Int32)) hx hb dX10_clause_53 (by decide) ?_
    exact c_iret hx hb hr hlk hP hS rfl (c_inj hf) dX10_clause_54
def fX10_clause_25  (w0 : Nat) (x1 : Int32) (y0 : Int32) (g : c_G) : Option (c_G × Int32) :=
  if x1 = 0 then (if y0 = 0 then (fX10_clause_47 w0 x1 y0 2 g) else (fX10_clause_47 w0 x1 y0 1 g)) else (fX10_clause_47 w0 x1 y0 0 g)
set_option maxRecDepth 100000 in
set_option maxHeartbeats 4000000 in
theorem jX10_clause_25 {p : Program} {l : Launch} {e : Env} {s : State} {m : MethodId} {below : List Frame} {meth : Method} {c : Code} {D : va_G} {tc : Nat → ClassId} {ad : Nat → Nat} {A : Nat → Prop} {E : (Nat → Nat) × (Nat → Nat) × Nat} {w0 : Nat} {g' : c_G} {r : Int32} (C : c_C p s m meth c D tc A E RX10 wsX10_clause cX10_clause 4 (some .boolean) ([.ref (ad w0)] : List Value).toArray) (hD : c_D A ad TC) (hq_w0 : c_isV w0 = true)  : ∀ (x1 : Int32) (y0 : Int32) (g : c_G), fX10_clause_25 w0 x1 y0 g = some (g', r) → ∀ (H : Heap) (locs : List Loc), va_P D vwCl (c_ws tc ad TC g) H → va_S A s.heap H locs → ∀ ls : Array Slot, lv_has ls 4 [(0, .ref (ad w0)), (1, .int x1)] → W p l e (c_rm 47) s m ([.ref (ad w0)] : List Value).toArray below meth c H locs 0 0 (MQ below (va_Qi (fun (x : Int32) (_ : Unit) => x = r) (fun _ t => va_P D vwCl (c_ws tc ad TC g') t.heap) A) ([.ref (ad w0)] : List Value).toArray s 0 0 A) (F0 m 25 ls [.int y0]) := by
  obtain ⟨hx, hb, hr, hml, hts, hown, hlk, hK, hE⟩ := id C
  obtain ⟨fw0_0, fw0_1, fw0_2, fw0_3, fw0_4⟩ := c_isVE hq_w0
  intro x1 y0 g hf H locs hP hS ls hl
  unfold fX10_clause_25 at hf
  refine lv_istore_n (lv' := [(2, .int y0), (0, .ref (ad w0)), (1, .int x1)]) hx hb dX10_clause_25 rfl hl (by decide) rfl (fun ls hl => ?_)
  refine lv_aload_n hx hb dX10_clause_26 rfl (lv_at hl 1 rfl) ?_
  refine lv_iload_n hx hb dX10_clause_27 rfl (lv_at hl 2 rfl) ?_
  refine lv_if_eq (tgt := 36) hx hb dX10_clause_28 (by decide) (fun c25001 => ?_) (fun c25001 => ?_)
  · have hf := c_it c25001 hf
    refine lv_iload_n hx hb dX10_clause_36 rfl (lv_at hl 0 rfl) ?_
    refine lv_if_eq (tgt := 45) hx hb dX10_clause_37 (by decide) (fun c25002 => ?_) (fun c25002 => ?_)
    · have hf := c_it c25002 hf
      refine va_ldcS hx hb hown (q := E.1 2) (hE.2 2 (by decide)) dX10_clause_45 ?_
      exact jX10_clause_47 C hD hq_w0 x1 y0 2 g hf _ _ hP hS _ (lv_sub hl [1, 2, 0] rfl)
    · have hf := c_ie c25002 hf
      refine va_ldcS hx hb hown (q := E.1 1) (hE.2 1 (by decide)) dX10_clause_40 ?_
      refine lv_goto (tgt := 47) hx hb dX10_clause_42 (by decide) ?_
      exact jX10_clause_47 C hD hq_w0 x1 y0 1 g hf _ _ hP hS _ (lv_sub hl [1, 2, 0] rfl)
  · have hf := c_ie c25001 hf
    refine va_ldcS hx hb hown (q := E.1 0) (hE.2 0 (by decide)) dX10_clause_31 ?_
    refine lv_goto (tgt := 47) hx hb dX10_clause_33 (by decide) ?_
    exact jX10_clause_47 C hD hq_w0 x1 y0 0 g hf _ _ hP hS _ (lv_sub hl [1, 2, 0] rfl)
def fX10_clause_24  (w0 : Nat) (x1 : Int32) (g : c_G) : Option (c_G × Int32) :=
  fX10_clause_25 w0 x1 ((0 : Int32)) g
set_option maxRecDepth 100000 in
set_option maxHeartbeats 4000000 in
theorem jX10_clause_24 {p : Program} {l : Launch} {e : Env} {s : State} {m : MethodId} {below : List Frame} {meth : Method} {c : Code} {D : va_G} {tc : Nat → ClassId} {ad : Nat → Nat} {A : Nat → Prop} {E : (Nat → Nat) × (Nat → Nat) × Nat} {w0 : Nat} {g' : c_G} {r : Int32} (C : c_C p s m meth c D tc A E RX10 wsX10_clause cX10_clause 4 (some .boolean) ([.ref (ad w0)] : List Value).toArray) (hD : c_D A ad TC) (hq_w0 : c_isV w0 = true)  : ∀ (x1 : Int32) (g : c_G), fX10_clause_24 w0 x1 g = some (g', r) → ∀ (H : Heap) (locs : List Loc), va_P D vwCl (c_ws tc ad TC g) H → va_S A s.heap H locs → ∀ ls : Array Slot, lv_has ls 4 [(0, .ref (ad w0)), (1, .int x1)] → W p l e (c_rm 47) s m ([.ref (ad w0)] : List Value).toArray below meth c H locs 0 0 (MQ below (va_Qi (fun (x : Int32) (_ : Unit) => x = r) (fun _ t => va_P D vwCl (c_ws tc ad TC g') t.heap) A) ([.ref (ad w0)] : List Value).toArray s 0 0 A) (F0 m 24 ls []) := by
  obtain ⟨hx, hb, hr, hml, hts, hown, hlk, hK, hE⟩ := id C
  obtain ⟨fw0_0, fw0_1, fw0_2, fw0_3, fw0_4⟩ := c_isVE hq_w0
  intro x1 g hf H locs hP hS ls hl
  unfold fX10_clause_24 at hf
  refine lv_iconst (v := (0 : Int32)) hx hb dX10_clause_24 (by decide) ?_
  exact jX10_clause_25 C hD hq_w0 x1 ((0 : Int32)) g hf _ _ hP hS _ (lv_sub hl [0, 1] rfl)
def fX10_clause (g : c_G) (w0 : Nat) : Option (c_G × Int32) :=
  if c_isV w0 = true then (c_b2 (fX10_eat g w0 ((115 : Int32))) fun g2 r3 => if r3 = 0 then (c_b2 (fX10_eat g2 w0 ((106 : Int32))) fun g6 r7 => if r7 = 0 then (fX10_clause_24 w0 r3 g6) else (fX10_clause_25 w0 r3 ((1 : Int32)) g6)) else (fX10_clause_24 w0 r3 g2)) else none
set_option maxRecDepth 100000 in
set_option maxHeartbeats 4000000 in
theorem kX10_clause {l : Launch} {D : va_G} {tc : Nat → ClassId} {ad : Nat → Nat} {A : Nat → Prop} {E : (Nat → Nat) × (Nat → Nat) × Nat} (hD : c_D A ad TC) {w0 : Nat} {g g' : c_G} {r : Int32} (hf : fX10_clause g w0 = some (g', r)) : c_Mi l yX10_clause wsX10_clause (c_rm 47) D tc ad A E TC ([.ref (ad w0)] : List Value) g g' r := by
  refine c_ofW (bytes := cX10_clause) (maxL := 4) (ret := (some .boolean)) (by decide) rfl (Nat.le_of_ble_eq_true rfl) ?_
  intro p e s m below meth c ls C hP hS hl
  unfold fX10_clause at hf
  obtain ⟨hq_w0, hf⟩ := c_gd hf
  obtain ⟨hx, hb, hr, hml, hts, hown, hlk, hK, hE⟩ := id C
  obtain ⟨fw0_0, fw0_1, fw0_2, fw0_3, fw0_4⟩ := c_isVE hq_w0
  have hl : lv_has ls 4 [(0, .ref (ad w0))] := hl
  refine lv_aload_n hx hb dX10_clause_0 rfl (lv_at hl 0 rfl) ?_
  refine lv_bipush (v := (115 : Int32)) hx hb dX10_clause_1 (by decide) ?_
  obtain ⟨g2, r3, hc1, hf⟩ := c_b2E hf
  refine c_goi (va_runV (As := [.int (115 : Int32)]) (rest := []) ⟨hx, hb, hml, hown, hts⟩ (kX10_eat hD hc1) (cwV 1 hts gX10_clause_X10_eat rfl rfl rfl (by decide +kernel) ⟨Nat.le_of_ble_eq_true rfl, Nat.le_of_ble_eq_true rfl⟩) (c_preV hK hP hE hS fw0_0 rfl) rfl rfl hl.1 rfl (lv_room (Nat.le_of_ble_eq_true rfl)) dX10_clause_3 ⟨Nat.zero_le _, Nat.zero_le _⟩) hS (fun H locs hP hS => ?_)
  refine lv_istore_n (lv' := [(1, .int r3), (0, .ref (ad w0))]) hx hb dX10_clause_6 rfl hl (by decide) rfl (fun ls hl => ?_)
  refine lv_iload_n hx hb dX10_clause_7 rfl (lv_at hl 0 rfl) ?_
  refine lv_if_ne (tgt := 24) hx hb dX10_clause_8 (by decide) (fun c4 => ?_) (fun c4 => ?_)
  · have hf := c_ie c4 hf
    exact jX10_clause_24 C hD hq_w0 r3 g2 hf _ _ hP hS _ (lv_sub hl [1, 0] rfl)
  · have hf := c_it c4 hf
    refine lv_aload_n hx hb dX10_clause_11 rfl (lv_at hl 1 rfl) ?_
    refine lv_bipush (v := (106 : Int32)) hx hb dX10_clause_12 (by decide) ?_
    obtain ⟨g6, r7, hc5, hf⟩ := c_b2E hf
    refine c_goi (va_runV (As := [.int (106 : Int32)]) (rest := []) ⟨hx, hb, hml, hown, hts⟩ (kX10_eat hD hc5) (cwV 1 hts gX10_clause_X10_eat rfl rfl rfl (by decide +kernel) ⟨Nat.le_of_ble_eq_true rfl, Nat.le_of_ble_eq_true rfl⟩) (c_preV hK hP hE hS fw0_0 rfl) rfl rfl hl.1 rfl (lv_room (Nat.le_of_ble_eq_true rfl)) dX10_clause_14 ⟨Nat.zero_le _, Nat.zero_le _⟩) hS (fun H locs hP hS => ?_)
    refine lv_if_eq (tgt := 24) hx hb dX10_clause_17 (by decide) (fun c8 => ?_) (fun c8 => ?_)
    · have hf := c_it c8 hf
      exact jX10_clause_24 C hD hq_w0 r3 g6 hf _ _ hP hS _ (lv_sub hl [1, 0] rfl)
    · have hf := c_ie c8 hf
      refine lv_iconst (v := (1 : Int32)) hx hb dX10_clause_20 (by decide) ?_
      refine lv_goto (tgt := 25) hx hb dX10_clause_21 (by decide) ?_
      exact jX10_clause_25 C hD hq_w0 r3 ((1 : Int32)) g6 hf _ _ hP hS _ (lv_sub hl [1, 0] rfl)
theorem i_X10_parse_X10 : ∀ w ∈ u_ws RX10 TX10 8, w ∈ wsX10_parse := c_inP [164, 165, 166, 167, 168, 169, 170, 171] (by decide +kernel)
theorem dX10_parse_0 : decode cX10_parse 0 = .ok (.aload_n 1, 1) := by decide +kernel
theorem dX10_parse_1 : decode cX10_parse 1 = .ok (.iconst 0, 1) := by decide +kernel
theorem dX10_parse_2 : decode cX10_parse 2 = .ok (.aload_n 0, 1) := by decide +kernel
theorem dX10_parse_3 : decode cX10_parse 3 = .ok (.getfield 9, 3) := by decide +kernel
theorem dX10_parse_6 : decode cX10_parse 6 = .ok (.iconst 0, 1) := by decide +kernel
theorem dX10_parse_7 : decode cX10_parse 7 = .ok (.bipush 100, 2) := by decide +kernel
theorem dX10_parse_9 : decode cX10_parse 9 = .ok (.invokestatic 25, 3) := by decide +kernel
theorem dX10_parse_12 : decode cX10_parse 12 = .ok (.aload_n 0, 1) := by decide +kernel
theorem dX10_parse_13 : decode cX10_parse 13 = .ok (.iload_n 2, 1) := by decide +kernel
theorem dX10_parse_14 : decode cX10_parse 14 = .ok (.putfield 31, 3) := by decide +kernel
theorem dX10_parse_17 : decode cX10_parse 17 = .ok (.aload_n 0, 1) := by decide +kernel
theorem dX10_parse_18 : decode cX10_parse 18 = .ok (.iconst 0, 1) := by decide +kernel
theorem dX10_parse_19 : decode cX10_parse 19 = .ok (.putfield 35, 3) := by decide +kernel
theorem dX10_parse_22 : decode cX10_parse 22 = .ok (.aload_n 0, 1) := by decide +kernel
theorem dX10_parse_23 : decode cX10_parse 23 = .ok (.iconst 0, 1) := by decide +kernel
theorem dX10_parse_24 : decode cX10_parse 24 = .ok (.putfield 38, 3) := by decide +kernel
theorem dX10_parse_27 : decode cX10_parse 27 = .ok (.aload_n 0, 1) := by decide +kernel
theorem dX10_parse_28 : decode cX10_parse 28 = .ok (.iconst 0, 1) := by decide +kernel
theorem dX10_parse_29 : decode cX10_parse 29 = .ok (.putfield 41, 3) := by decide +kernel
theorem dX10_parse_32 : decode cX10_parse 32 = .ok (.iconst 1, 1) := by decide +kernel
theorem dX10_parse_33 : decode cX10_parse 33 = .ok (.istore_n 3, 1) := by decide +kernel
theorem dX10_parse_34 : decode cX10_parse 34 = .ok (.iload_n 3, 1) := by decide +kernel
theorem dX10_parse_35 : decode cX10_parse 35 = .ok (.bipush 10, 2) := by decide +kernel
theorem dX10_parse_37 : decode cX10_parse 37 = .ok (.if_icmp .gt 54, 3) := by decide +kernel
theorem dX10_parse_40 : decode cX10_parse 40 = .ok (.aload_n 0, 1) := by decide +kernel
theorem dX10_parse_41 : decode cX10_parse 41 = .ok (.invokevirtual 44, 3) := by decide +kernel
theorem dX10_parse_44 : decode cX10_parse 44 = .ok (.ifCond .ne 8, 3) := by decide +kernel
theorem dX10_parse_47 : decode cX10_parse 47 = .ok (.aload_n 0, 1) := by decide +kernel
theorem dX10_parse_48 : decode cX10_parse 48 = .ok (.getfield 35, 3) := by decide +kernel
theorem dX10_parse_51 : decode cX10_parse 51 = .ok (.ireturn, 1) := by decide +kernel
theorem dX10_parse_52 : decode cX10_parse 52 = .ok (.aload_n 0, 1) := by decide +kernel
theorem dX10_parse_53 : decode cX10_parse 53 = .ok (.getfield 35, 3) := by decide +kernel
theorem dX10_parse_56 : decode cX10_parse 56 = .ok (.aload_n 0, 1) := by decide +kernel
theorem dX10_parse_57 : decode cX10_parse 57 = .ok (.getfield 31, 3) := by decide +kernel
theorem dX10_parse_60 : decode cX10_parse 60 = .ok (.if_icmp .lt 5, 3) := by decide +kernel
theorem dX10_parse_63 : decode cX10_parse 63 = .ok (.iconst (-1), 1) := by decide +kernel
theorem dX10_parse_64 : decode cX10_parse 64 = .ok (.ireturn, 1) := by decide +kernel
theorem dX10_parse_65 : decode cX10_parse 65 = .ok (.iload_n 3, 1) := by decide +kernel
theorem dX10_parse_66 : decode cX10_parse 66 = .ok (.bipush 10, 2) := by decide +kernel
theorem dX10_parse_68 : decode cX10_parse 68 = .ok (.if_icmp .eq 12, 3) := by decide +kernel
theorem dX10_parse_71 : decode cX10_parse 71 = .ok (.aload_n 0, 1) := by decide +kernel
theorem dX10_parse_72 : decode cX10_parse 72 = .ok (.bipush 59, 2) := by decide +kernel
theorem dX10_parse_74 : decode cX10_parse 74 = .ok (.invokevirtual 48, 3) := by decide +kernel
theorem dX10_parse_77 : decode cX10_parse 77 = .ok (.ifCond .ne 8, 3) := by decide +kernel
theorem dX10_parse_80 : decode cX10_parse 80 = .ok (.aload_n 0, 1) := by decide +kernel
theorem dX10_parse_81 : decode cX10_parse 81 = .ok (.getfield 35, 3) := by decide +kernel
theorem dX10_parse_84 : decode cX10_parse 84 = .ok (.ireturn, 1) := by decide +kernel
theorem dX10_parse_85 : decode cX10_parse 85 = .ok (.iinc 3 1, 3) := by decide +kernel
theorem dX10_parse_88 : decode cX10_parse 88 = .ok (.goto (-54), 3) := by decide +kernel
theorem dX10_parse_91 : decode cX10_parse 91 = .ok (.aload_n 0, 1) := by decide +kernel
theorem dX10_parse_92 : decode cX10_parse 92 = .ok (.getfield 35, 3) := by decide +kernel
theorem dX10_parse_95 : decode cX10_parse 95 = .ok (.ireturn, 1) := by decide +kernel
set_option maxRecDepth 20000 in
theorem ggX10_parse_X10_clause : GoodIn wsX10_parse wsX10_clause := goodIn_r _ [14, 9, 15, 16, 17, 13, 18, 7, 6, 1, 19, 20, 21, 22, 23, 24, 25, 26, 27, 28, 29, 30, 31, 32, 33, 34, 35, 36, 37, 38, 39, 40, 41, 42, 43, 44, 45, 46, 47, 48, 49, 50, 51, 52, 53, 54, 55, 56, 57, 58, 59, 60, 61, 62, 63, 64, 65, 66, 67, 68, 69, 70, 71, 72, 73, 74, 75, 76, 77, 78, 79, 80, 81, 82, 83, 84, 85, 86, 8, 87, 88, 89, 90, 91, 92, 93, 94, 95, 96, 97, 98, 99, 100, 101, 102, 103, 104, 105, 106, 107, 108, 109, 110, 111, 112, 113, 114, 115, 116, 117, 118, 119, 120, 121, 122, 123, 124, 125, 126, 127, 128, 129, 130, 131, 132, 133, 134, 135, 136, 137, 138, 139, 140, 141, 142, 143, 144, 145, 146, 147, 148, 149, 150, 151, 152, 153, 154, 155, 156, 157, 158, 159, 160, 161, 162, 163, 164, 165, 166, 167, 168, 169, 170, 171] (by decide +kernel) (by decide +kernel)
set_option maxRecDepth 20000 in
theorem gX10_parse_X10_clause : GoodIn wsX10_parse (wsV RX10 44 RX10 yX10_clause wsX10_clause) := goodIn_app (goodIn_of _ (by decide +kernel)) ggX10_parse_X10_clause
set_option maxRecDepth 20000 in
theorem ggX10_parse_X10_eat : GoodIn wsX10_parse wsX10_eat := goodIn_r _ [18, 7, 6, 1, 164, 165, 166, 167, 168, 169, 170, 171] (by decide +kernel) (by decide +kernel)
set_option maxRecDepth 20000 in
theorem gX10_parse_X10_eat : GoodIn wsX10_parse (wsV RX10 48 RX10 yX10_eat wsX10_eat) := goodIn_app (goodIn_of _ (by decide +kernel)) ggX10_parse_X10_eat
def fX10_parse_34  (w0 : Nat) (a2 : Int32) : Nat → Int32 → c_G → Option (c_G × Int32)
  | 0, _, _ => none
  | n + 1, x3, g => if (10 : Int32) < x3 then (some (g, (g.1 w0 2))) else (c_b2 (fX10_clause g w0) fun g34003 r34004 => if r34004 = 0 then (some (g34003, (g34003.1 w0 2))) else (if (g34003.1 w0 2) < (g34003.1 w0 1) then (if x3 = (10 : Int32) then (some (g34003, (g34003.1 w0 2))) else (c_b2 (fX10_eat g34003 w0 ((59 : Int32))) fun g34009 r34010 => if r34010 = 0 then (some (g34009, (g34009.1 w0 2))) else (c_let (x3 + (1 : Int32)) fun v34012 => (fX10_parse_34 w0 a2 n) v34012 g34009))) else (some (g34003, (-1 : Int32)))))
set_option maxRecDepth 100000 in
set_option maxHeartbeats 4000000 in
theorem jX10_parse_34 {p : Program} {l : Launch} {e : Env} {s : State} {m : MethodId} {below : List Frame} {meth : Method} {c : Code} {D : va_G} {tc : Nat → ClassId} {ad : Nat → Nat} {A : Nat → Prop} {E : (Nat → Nat) × (Nat → Nat) × Nat} {w0 : Nat} {a2 : Int32} {g' : c_G} {r : Int32} (C : c_C p s m meth c D tc A E RX10 wsX10_parse cX10_parse 4 (some .int) ([.ref (ad w0), .ref (ad 1), .int a2] : List Value).toArray) (hD : c_D A ad TC) (hq_w0 : c_isV w0 = true)  : ∀ (n : Nat) (x3 : Int32) (g : c_G), fX10_parse_34 w0 a2 n x3 g = some (g', r) → ∀ (H : Heap) (locs : List Loc), va_P D vwCl (c_ws tc ad TC g) H → va_S A s.heap H locs → ∀ ls : Array Slot, lv_has ls 4 [(0, .ref (ad w0)), (3, .int x3)] → W p l e (c_rm 48) s m ([.ref (ad w0), .ref (ad 1), .int a2] : List Value).toArray below meth c H locs 0 0 (MQ below (va_Qi (fun (x : Int32) (_ : Unit) => x = r) (fun _ t => va_P D vwCl (c_ws tc ad TC g') t.heap) A) ([.ref (ad w0), .ref (ad 1), .int a2] : List Value).toArray s 0 0 A) (F0 m 34 ls []) := by
  obtain ⟨hx, hb, hr, hml, hts, hown, hlk, hK, hE⟩ := id C
  obtain ⟨fw0_0, fw0_1, fw0_2, fw0_3, fw0_4⟩ := c_isVE hq_w0
  intro n
  induction n with
  | zero =>
    intro x3 g hf
    cases hf
  | succ n ih =>
    intro x3 g hf H locs hP hS ls hl
    unfold fX10_parse_34 at hf
    refine lv_iload_n hx hb dX10_parse_34 rfl (lv_at hl 1 rfl) ?_
    refine lv_bipush (v := (10 : Int32)) hx hb dX10_parse_35 (by decide) ?_
    refine lv_icmp_gt (tgt := 91) hx hb dX10_parse_37 (by decide) (fun c34001 => ?_) (fun c34001 => ?_)
    · have hf := c_it c34001 hf
      refine lv_aload_n hx hb dX10_parse_91 rfl (lv_at hl 0 rfl) ?_
      refine c_get hx hb hts i_X10_parse_X10 hown hK hP w0 fw0_0 rfl 2 (by decide) (hts _ (List.mem_of_getElem? (i := 7) rfl)) (fun _ h9 => h9) rfl (v := .int (g.1 w0 2)) rfl dX10_parse_92 ?_
      exact c_iret hx hb hr hlk hP hS rfl (c_inj hf) dX10_parse_95
    · have hf := c_ie c34001 hf
      refine lv_aload_n hx hb dX10_parse_40 rfl (lv_at hl 0 rfl) ?_
      obtain ⟨g34003, r34004, hc34002, hf⟩ := c_b2E hf
      refine c_goi (va_runV (As := []) (rest := []) ⟨hx, hb, hml, hown, hts⟩ (kX10_clause hD hc34002) (cwV 0 hts gX10_parse_X10_clause rfl rfl rfl (by decide +kernel) ⟨Nat.le_of_ble_eq_true rfl, Nat.le_of_ble_eq_true rfl⟩) (c_preV hK hP hE hS fw0_0 rfl) rfl rfl hl.1 rfl (lv_room (Nat.le_of_ble_eq_true rfl)) dX10_parse_41 ⟨Nat.zero_le _, Nat.zero_le _⟩) hS (fun H locs hP hS => ?_)
      refine lv_if_ne (tgt := 52) hx hb dX10_parse_44 (by decide) (fun c34005 => ?_) (fun c34005 => ?_)
      · have hf := c_ie c34005 hf
        refine lv_aload_n hx hb dX10_parse_52 rfl (lv_at hl 0 rfl) ?_
        refine c_get hx hb hts i_X10_parse_X10 hown hK hP w0 fw0_0 rfl 2 (by decide) (hts _ (List.mem_of_getElem? (i := 7) rfl)) (fun _ h9 => h9) rfl (v := .int (g34003.1 w0 2)) rfl dX10_parse_53 ?_
        refine lv_aload_n hx hb dX10_parse_56 rfl (lv_at hl 0 rfl) ?_
        refine c_get hx hb hts i_X10_parse_X10 hown hK hP w0 fw0_0 rfl 1 (by decide) (hts _ (List.mem_of_getElem? (i := 6) rfl)) (fun _ h9 => h9) rfl (v := .int (g34003.1 w0 1)) rfl dX10_parse_57 ?_
        refine lv_icmp_lt (tgt := 65) hx hb dX10_parse_60 (by decide) (fun c34006 => ?_) (fun c34006 => ?_)
        · have hf := c_it c34006 hf
          refine lv_iload_n hx hb dX10_parse_65 rfl (lv_at hl 1 rfl) ?_
          refine lv_bipush (v := (10 : Int32)) hx hb dX10_parse_66 (by decide) ?_
          refine lv_icmp_eq (tgt := 80) hx hb dX10_parse_68 (by decide) (fun c34007 => ?_) (fun c34007 => ?_)
          · have hf := c_it c34007 hf
            refine lv_aload_n hx hb dX10_parse_80 rfl (lv_at hl 0 rfl) ?_
            refine c_get hx hb hts i_X10_parse_X10 hown hK hP w0 fw0_0 rfl 2 (by decide) (hts _ (List.mem_of_getElem? (i := 7) rfl)) (fun _ h9 => h9) rfl (v := .int (g34003.1 w0 2)) rfl dX10_parse_81 ?_
            exact c_iret hx hb hr hlk hP hS rfl (c_inj hf) dX10_parse_84
          · have hf := c_ie c34007 hf
            refine lv_aload_n hx hb dX10_parse_71 rfl (lv_at hl 0 rfl) ?_
            refine lv_bipush (v := (59 : Int32)) hx hb dX10_parse_72 (by decide) ?_
            obtain ⟨g34009, r34010, hc34008, hf⟩ := c_b2E hf
            refine c_goi (va_runV (As := [.int (59 : Int32)]) (rest := []) ⟨hx, hb, hml, hown, hts⟩ (kX10_eat hD hc34008) (cwV 1 hts gX10_parse_X10_eat rfl rfl rfl (by decide +kernel) ⟨Nat.le_of_ble_eq_true rfl, Nat.le_of_ble_eq_true rfl⟩) (c_preV hK hP hE hS fw0_0 rfl) rfl rfl hl.1 rfl (lv_room (Nat.le_of_ble_eq_true rfl)) dX10_parse_74 ⟨Nat.zero_le _, Nat.zero_le _⟩) hS (fun H locs hP hS => ?_)
            refine lv_if_ne (tgt := 85) hx hb dX10_parse_77 (by decide) (fun c34011 => ?_) (fun c34011 => ?_)
            · have hf := c_ie c34011 hf
              obtain ⟨v34012, ev34012, hf⟩ := c_letE hf
              refine lv_iinc (v := v34012) (lv' := [(3, .int v34012), (0, .ref (ad w0))]) hx hb dX10_parse_85 hl (k := 1) rfl (by rw [ev34012]; rfl) (by decide) rfl (fun ls hl => ?_)
              refine lv_goto (tgt := 34) hx hb dX10_parse_88 (by decide) ?_
              exact ih v34012 g34009 hf _ _ hP hS _ (lv_sub hl [1, 0] rfl)
            · have hf := c_it c34011 hf
              refine lv_aload_n hx hb dX10_parse_80 rfl (lv_at hl 0 rfl) ?_
              refine c_get hx hb hts i_X10_parse_X10 hown hK hP w0 fw0_0 rfl 2 (by decide) (hts _ (List.mem_of_getElem? (i := 7) rfl)) (fun _ h9 => h9) rfl (v := .int (g34009.1 w0 2)) rfl dX10_parse_81 ?_
              exact c_iret hx hb hr hlk hP hS rfl (c_inj hf) dX10_parse_84
        · have hf := c_ie c34006 hf
          refine lv_iconst (v := (-1 : Int32)) hx hb dX10_parse_63 (by decide) ?_
          exact c_iret hx hb hr hlk hP hS rfl (c_inj hf) dX10_parse_64
      · have hf := c_it c34005 hf
        refine lv_aload_n hx hb dX10_parse_47 rfl (lv_at hl 0 rfl) ?_
        refine c_get hx hb hts i_X10_parse_X10 hown hK hP w0 fw0_0 rfl 2 (by decide) (hts _ (List.mem_of_getElem? (i := 7) rfl)) (fun _ h9 => h9) rfl (v := .int (g34003.1 w0 2)) rfl dX10_parse_48 ?_
        exact c_iret hx hb hr hlk hP hS rfl (c_inj hf) dX10_parse_51
def fX10_parse (g : c_G) (w0 : Nat) (a2 : Int32) : Option (c_G × Int32) :=
  if c_isV w0 = true then (if c_fb (g.1 1) 100 = true then c_let (c_sr g (c_vt w0) (va_cpy (g.1 1) (g.1 (c_vt w0)) ((0 : Int32)).toNatClampNeg ((0 : Int32)).toNatClampNeg ((100 : Int32)).toNatClampNeg)) fun g2 => c_let (c_si g2 w0 1 a2) fun g3 => c_let (c_si g3 w0 2 (0 : Int32)) fun g4 => c_let (c_si g4 w0 6 (0 : Int32)) fun g5 => c_let (c_si g5 w0 7 (0 : Int32)) fun g6 => fX10_parse_34 w0 a2 c_F ((1 : Int32)) g6 else none) else none
set_option maxRecDepth 100000 in
set_option maxHeartbeats 4000000 in
theorem kX10_parse {l : Launch} {D : va_G} {tc : Nat → ClassId} {ad : Nat → Nat} {A : Nat → Prop} {E : (Nat → Nat) × (Nat → Nat) × Nat} (hD : c_D A ad TC) {w0 : Nat} {a2 : Int32} {g g' : c_G} {r : Int32} (hf : fX10_parse g w0 a2 = some (g', r)) : c_Mi l yX10_parse wsX10_parse (c_rm 48) D tc ad A E TC ([.ref (ad w0), .ref (ad 1), .int a2] : List Value) g g' r := by
  refine c_ofW (bytes := cX10_parse) (maxL := 4) (ret := (some .int)) (by decide) rfl (Nat.le_of_ble_eq_true rfl) ?_
  intro p e s m below meth c ls C hP hS hl
  unfold fX10_parse at hf
  obtain ⟨hq_w0, hf⟩ := c_gd hf
  obtain ⟨hx, hb, hr, hml, hts, hown, hlk, hK, hE⟩ := id C
  obtain ⟨fw0_0, fw0_1, fw0_2, fw0_3, fw0_4⟩ := c_isVE hq_w0
  have hl : lv_has ls 4 [(0, .ref (ad w0)), (1, .ref (ad 1)), (2, .int a2)] := hl
  refine lv_aload_n hx hb dX10_parse_0 rfl (lv_at hl 1 rfl) ?_
  refine lv_iconst (v := (0 : Int32)) hx hb dX10_parse_1 (by decide) ?_
  refine lv_aload_n hx hb dX10_parse_2 rfl (lv_at hl 0 rfl) ?_
  refine c_get hx hb hts i_X10_parse_X10 hown hK hP w0 fw0_0 rfl 0 (by decide) (hts _ (List.mem_of_getElem? (i := 1) rfl)) (fun _ h9 => h9) rfl (v := .ref (ad (c_vt w0))) rfl dX10_parse_3 ?_
  refine lv_iconst (v := (0 : Int32)) hx hb dX10_parse_6 (by decide) ?_
  refine lv_bipush (v := (100 : Int32)) hx hb dX10_parse_7 (by decide) ?_
  obtain ⟨hb1, hf⟩ := c_gd hf
  obtain ⟨g2, eg2, hf⟩ := c_letE hf
  refine c_copyb hx hb (hml.trans hl.1.symm) hown (hts _ (List.mem_of_getElem? (i := 2) rfl)) (hts _ (List.mem_of_getElem? (i := 3) rfl)) (hts _ (List.mem_of_getElem? (i := 4) rfl)) (hts _ (List.mem_of_getElem? (i := 5) rfl)) hK hP hD hS 1 (c_vt w0) tC1 fw0_4 (by decide) (by decide) (by decide) (by decide) (by decide) hb1 (Nat.le_of_ble_eq_true rfl) (Nat.le_of_ble_eq_true rfl) eg2 dX10_parse_9 (fun H locs hP hS => ?_)
  refine lv_aload_n hx hb dX10_parse_12 rfl (lv_at hl 0 rfl) ?_
  refine lv_iload_n hx hb dX10_parse_13 rfl (lv_at hl 2 rfl) ?_
  obtain ⟨g3, eg3, hf⟩ := c_letE hf
  refine c_put hx hb hts i_X10_parse_X10 tyX10 tyX10_ok nmX10 hown hK hP hD hS w0 fw0_0 rfl 1 (by decide) (hts _ (List.mem_of_getElem? (i := 6) rfl)) (fun _ h9 => h9) rfl (ty := .int) (by decide +kernel) rfl rfl rfl eg3 dX10_parse_14 (fun H locs hP hS => ?_)
  refine lv_aload_n hx hb dX10_parse_17 rfl (lv_at hl 0 rfl) ?_
  refine lv_iconst (v := (0 : Int32)) hx hb dX10_parse_18 (by decide) ?_
  obtain ⟨g4, eg4, hf⟩ := c_letE hf
  refine c_put hx hb hts i_X10_parse_X10 tyX10 tyX10_ok nmX10 hown hK hP hD hS w0 fw0_0 rfl 2 (by decide) (hts _ (List.mem_of_getElem? (i := 7) rfl)) (fun _ h9 => h9) rfl (ty := .int) (by decide +kernel) rfl rfl rfl eg4 dX10_parse_19 (fun H locs hP hS => ?_)
  refine lv_aload_n hx hb dX10_parse_22 rfl (lv_at hl 0 rfl) ?_
  refine lv_iconst (v := (0 : Int32)) hx hb dX10_parse_23 (by decide) ?_
  obtain ⟨g5, eg5, hf⟩ := c_letE hf
  refine c_put hx hb hts i_X10_parse_X10 tyX10 tyX10_ok nmX10 hown hK hP hD hS w0 fw0_0 rfl 6 (by decide) (hts _ (List.mem_of_getElem? (i := 8) rfl)) (fun _ h9 => h9) rfl (ty := .int) (by decide +kernel) rfl rfl rfl eg5 dX10_parse_24 (fun H locs hP hS => ?_)
  refine lv_aload_n hx hb dX10_parse_27 rfl (lv_at hl 0 rfl) ?_
  refine lv_iconst (v := (0 : Int32)) hx hb dX10_parse_28 (by decide) ?_
  obtain ⟨g6, eg6, hf⟩ := c_letE hf
  refine c_put hx hb hts i_X10_parse_X10 tyX10 tyX10_ok nmX10 hown hK hP hD hS w0 fw0_0 rfl 7 (by decide) (hts _ (List.mem_of_getElem? (i := 9) rfl)) (fun _ h9 => h9) rfl (ty := .int) (by decide +kernel) rfl rfl rfl eg6 dX10_parse_29 (fun H locs hP hS => ?_)
  refine lv_iconst (v := (1 : Int32)) hx hb dX10_parse_32 (by decide) ?_
  refine lv_istore_n (lv' := [(3, .int (1 : Int32)), (0, .ref (ad w0)), (1, .ref (ad 1)), (2, .int a2)]) hx hb dX10_parse_33 rfl hl (by decide) rfl (fun ls hl => ?_)
  exact jX10_parse_34 C hD hq_w0 c_F ((1 : Int32)) g6 hf _ _ hP hS _ (lv_sub hl [1, 0] rfl)
theorem i_X11_valley_X7 : ∀ w ∈ u_ws RX7 TX7 17, w ∈ wsX11_valley := c_inP [193, 194, 195, 196, 197, 198, 199, 200, 201, 202, 203, 204, 205, 206, 207, 208, 209] (by decide +kernel)
theorem i_X11_valley_X11 : ∀ w ∈ u_ws RX11 TX11 19, w ∈ wsX11_valley := c_inP [174, 175, 176, 177, 178, 179, 180, 181, 182, 183, 184, 185, 186, 187, 188, 189, 190, 191, 192] (by decide +kernel)
theorem dX11_valley_0 : decode cX11_valley 0 = .ok (.aload_n 0, 1) := by decide +kernel
theorem dX11_valley_1 : decode cX11_valley 1 = .ok (.getfield 186, 3) := by decide +kernel
theorem dX11_valley_4 : decode cX11_valley 4 = .ok (.bipush 6, 2) := by decide +kernel
theorem dX11_valley_6 : decode cX11_valley 6 = .ok (.if_icmp .lt 6, 3) := by decide +kernel
theorem dX11_valley_9 : decode cX11_valley 9 = .ok (.bipush (-4), 2) := by decide +kernel
theorem dX11_valley_11 : decode cX11_valley 11 = .ok (.ireturn, 1) := by decide +kernel
theorem dX11_valley_12 : decode cX11_valley 12 = .ok (.aload_n 0, 1) := by decide +kernel
theorem dX11_valley_13 : decode cX11_valley 13 = .ok (.getfield 17, 3) := by decide +kernel
theorem dX11_valley_16 : decode cX11_valley 16 = .ok (.aload_n 0, 1) := by decide +kernel
theorem dX11_valley_17 : decode cX11_valley 17 = .ok (.getfield 186, 3) := by decide +kernel
theorem dX11_valley_20 : decode cX11_valley 20 = .ok (.aaload, 1) := by decide +kernel
theorem dX11_valley_21 : decode cX11_valley 21 = .ok (.aload_n 0, 1) := by decide +kernel
theorem dX11_valley_22 : decode cX11_valley 22 = .ok (.getfield 11, 3) := by decide +kernel
theorem dX11_valley_25 : decode cX11_valley 25 = .ok (.aload_n 0, 1) := by decide +kernel
theorem dX11_valley_26 : decode cX11_valley 26 = .ok (.getfield 183, 3) := by decide +kernel
theorem dX11_valley_29 : decode cX11_valley 29 = .ok (.invokevirtual 189, 3) := by decide +kernel
theorem dX11_valley_32 : decode cX11_valley 32 = .ok (.istore_n 1, 1) := by decide +kernel
theorem dX11_valley_33 : decode cX11_valley 33 = .ok (.aload_n 0, 1) := by decide +kernel
theorem dX11_valley_34 : decode cX11_valley 34 = .ok (.iconst 0, 1) := by decide +kernel
theorem dX11_valley_35 : decode cX11_valley 35 = .ok (.putfield 183, 3) := by decide +kernel
theorem dX11_valley_38 : decode cX11_valley 38 = .ok (.iload_n 1, 1) := by decide +kernel
theorem dX11_valley_39 : decode cX11_valley 39 = .ok (.iconst (-1), 1) := by decide +kernel
theorem dX11_valley_40 : decode cX11_valley 40 = .ok (.if_icmp .eq 8, 3) := by decide +kernel
theorem dX11_valley_43 : decode cX11_valley 43 = .ok (.bipush (-10), 2) := by decide +kernel
theorem dX11_valley_45 : decode cX11_valley 45 = .ok (.iload_n 1, 1) := by decide +kernel
theorem dX11_valley_46 : decode cX11_valley 46 = .ok (.isub, 1) := by decide +kernel
theorem dX11_valley_47 : decode cX11_valley 47 = .ok (.ireturn, 1) := by decide +kernel
theorem dX11_valley_48 : decode cX11_valley 48 = .ok (.aload_n 0, 1) := by decide +kernel
theorem dX11_valley_49 : decode cX11_valley 49 = .ok (.getfield 86, 3) := by decide +kernel
theorem dX11_valley_52 : decode cX11_valley 52 = .ok (.aload_n 0, 1) := by decide +kernel
theorem dX11_valley_53 : decode cX11_valley 53 = .ok (.getfield 17, 3) := by decide +kernel
theorem dX11_valley_56 : decode cX11_valley 56 = .ok (.aload_n 0, 1) := by decide +kernel
theorem dX11_valley_57 : decode cX11_valley 57 = .ok (.getfield 186, 3) := by decide +kernel
theorem dX11_valley_60 : decode cX11_valley 60 = .ok (.aaload, 1) := by decide +kernel
theorem dX11_valley_61 : decode cX11_valley 61 = .ok (.putfield 193, 3) := by decide +kernel
theorem dX11_valley_64 : decode cX11_valley 64 = .ok (.aload_n 0, 1) := by decide +kernel
theorem dX11_valley_65 : decode cX11_valley 65 = .ok (.dup, 1) := by decide +kernel
theorem dX11_valley_66 : decode cX11_valley 66 = .ok (.getfield 186, 3) := by decide +kernel
theorem dX11_valley_69 : decode cX11_valley 69 = .ok (.iconst 1, 1) := by decide +kernel
theorem dX11_valley_70 : decode cX11_valley 70 = .ok (.iadd, 1) := by decide +kernel
theorem dX11_valley_71 : decode cX11_valley 71 = .ok (.putfield 186, 3) := by decide +kernel
theorem dX11_valley_74 : decode cX11_valley 74 = .ok (.aload_n 0, 1) := by decide +kernel
theorem dX11_valley_75 : decode cX11_valley 75 = .ok (.getfield 186, 3) := by decide +kernel
theorem dX11_valley_78 : decode cX11_valley 78 = .ok (.iconst 1, 1) := by decide +kernel
theorem dX11_valley_79 : decode cX11_valley 79 = .ok (.isub, 1) := by decide +kernel
theorem dX11_valley_80 : decode cX11_valley 80 = .ok (.ireturn, 1) := by decide +kernel
set_option maxRecDepth 20000 in
theorem ggX11_valley_X10_parse : GoodIn wsX11_valley wsX10_parse := goodIn_r _ [11, 12, 13, 14, 15, 16, 17, 18, 19, 20, 21, 22, 23, 10, 24, 25, 26, 27, 28, 29, 30, 31, 32, 33, 34, 35, 36, 37, 38, 39, 40, 41, 42, 43, 44, 45, 46, 47, 48, 49, 50, 51, 52, 53, 54, 55, 56, 57, 58, 59, 60, 61, 62, 63, 64, 65, 66, 67, 68, 69, 70, 71, 72, 73, 74, 75, 76, 77, 78, 79, 80, 81, 82, 83, 84, 85, 86, 87, 88, 89, 90, 91, 92, 93, 94, 95, 96, 97, 98, 99, 100, 101, 102, 103, 104, 105, 106, 107, 108, 109, 110, 111, 112, 113, 114, 115, 116, 117, 118, 119, 120, 121, 122, 123, 124, 125, 126, 127, 128, 129, 130, 131, 132, 133, 134, 135, 136, 137, 138, 139, 140, 141, 142, 143, 144, 145, 146, 147, 148, 149, 150, 151, 152, 153, 154, 155, 156, 157, 158, 159, 160, 161, 162, 163, 164, 165, 166, 167, 168, 169, 170, 171, 172, 173, 210, 211, 212, 213, 214, 215, 216, 217] (by decide +kernel) (by decide +kernel)
set_option maxRecDepth 20000 in
theorem gX11_valley_X10_parse : GoodIn wsX11_valley (wsV RX11 189 RX10 yX10_parse wsX10_parse) := goodIn_app (goodIn_of _ (by decide +kernel)) ggX11_valley_X10_parse
def fX11_valley (g : c_G)  : Option (c_G × Int32) :=
  if (g.1 0 4) < (6 : Int32) then (if c_in ((g.1 0 4)) (6) = true then c_b2 (fX10_parse g ((27 + 4 * ((g.1 0 4)).toNatClampNeg)) ((g.1 0 2))) fun g4 r5 => if c_isV ((27 + 4 * ((g.1 0 4)).toNatClampNeg)) = true then c_let (c_si g4 0 2 (0 : Int32)) fun g7 => if r5 = (-1 : Int32) then (if c_in ((g7.1 0 4)) (6) = true then c_let (c_so g7 55 (27 + 4 * ((g7.1 0 4)).toNatClampNeg)) fun g10 => c_let (((g10.1 0 4) + (1 : Int32))) fun v11 => c_let (c_si g10 0 4 v11) fun g12 => some (g12, ((g12.1 0 4) - (1 : Int32))) else none) else (some (g7, ((-10 : Int32) - r5))) else none else none) else (some (g, (-4 : Int32)))
set_option maxRecDepth 100000 in
set_option maxHeartbeats 4000000 in
theorem kX11_valley {l : Launch} {D : va_G} {tc : Nat → ClassId} {ad : Nat → Nat} {A : Nat → Prop} {E : (Nat → Nat) × (Nat → Nat) × Nat} (hD : c_D A ad TC)  {g g' : c_G} {r : Int32} (hf : fX11_valley g  = some (g', r)) : c_Mi l yX11_valley wsX11_valley (c_rm 49) D tc ad A E TC ([.ref (ad 0)] : List Value) g g' r := by
  refine c_ofW (bytes := cX11_valley) (maxL := 2) (ret := (some .int)) (by decide) rfl (Nat.le_of_ble_eq_true rfl) ?_
  intro p e s m below meth c ls C hP hS hl
  unfold fX11_valley at hf
  obtain ⟨hx, hb, hr, hml, hts, hown, hlk, hK, hE⟩ := id C
  have hl : lv_has ls 2 [(0, .ref (ad 0))] := hl
  refine lv_aload_n hx hb dX11_valley_0 rfl (lv_at hl 0 rfl) ?_
  refine c_get hx hb hts i_X11_valley_X11 hown hK hP 0 tC0 rfl 4 (by decide) (hts _ (List.mem_of_getElem? (i := 1) rfl)) (fun _ h9 => h9) rfl (v := .int (g.1 0 4)) rfl dX11_valley_1 ?_
  refine lv_bipush (v := (6 : Int32)) hx hb dX11_valley_4 (by decide) ?_
  refine lv_icmp_lt (tgt := 12) hx hb dX11_valley_6 (by decide) (fun c1 => ?_) (fun c1 => ?_)
  · have hf := c_it c1 hf
    refine lv_aload_n hx hb dX11_valley_12 rfl (lv_at hl 0 rfl) ?_
    refine c_get hx hb hts i_X11_valley_X11 hown hK hP 0 tC0 rfl 3 (by decide) (hts _ (List.mem_of_getElem? (i := 2) rfl)) (fun _ h9 => h9) rfl (v := .ref (ad 2)) rfl dX11_valley_13 ?_
    refine lv_aload_n hx hb dX11_valley_16 rfl (lv_at hl 0 rfl) ?_
    refine c_get hx hb hts i_X11_valley_X11 hown hK hP 0 tC0 rfl 4 (by decide) (hts _ (List.mem_of_getElem? (i := 1) rfl)) (fun _ h9 => h9) rfl (v := .int (g.1 0 4)) rfl dX11_valley_17 ?_
    obtain ⟨hi2, hf⟩ := c_gd hf
    refine c_aald6 hx hb hK hP 2 tC2 (c_inV hi2) (y := (27 + 4 * ((g.1 0 4)).toNatClampNeg)) (c_vA (c_iN hi2)) dX11_valley_20 ?_
    refine lv_aload_n hx hb dX11_valley_21 rfl (lv_at hl 0 rfl) ?_
    refine c_get hx hb hts i_X11_valley_X11 hown hK hP 0 tC0 rfl 1 (by decide) (hts _ (List.mem_of_getElem? (i := 3) rfl)) (fun _ h9 => h9) rfl (v := .ref (ad 1)) rfl dX11_valley_22 ?_
    refine lv_aload_n hx hb dX11_valley_25 rfl (lv_at hl 0 rfl) ?_
    refine c_get hx hb hts i_X11_valley_X11 hown hK hP 0 tC0 rfl 2 (by decide) (hts _ (List.mem_of_getElem? (i := 4) rfl)) (fun _ h9 => h9) rfl (v := .int (g.1 0 2)) rfl dX11_valley_26 ?_
    obtain ⟨g4, r5, hc3, hf⟩ := c_b2E hf
    obtain ⟨hq6, hf⟩ := c_gd hf
    have hq6T := c_isVE hq6
    refine c_goi (va_runV (As := [.ref (ad 1), .int (g.1 0 2)]) (rest := []) ⟨hx, hb, hml, hown, hts⟩ (kX10_parse hD hc3) (cwV 2 hts gX11_valley_X10_parse rfl rfl rfl (by decide +kernel) ⟨Nat.le_of_ble_eq_true rfl, Nat.le_of_ble_eq_true rfl⟩) (c_preV hK hP hE hS hq6T.1 rfl) rfl rfl hl.1 rfl (lv_room (Nat.le_of_ble_eq_true rfl)) dX11_valley_29 ⟨Nat.zero_le _, Nat.zero_le _⟩) hS (fun H locs hP hS => ?_)
    refine lv_istore_n (lv' := [(1, .int r5), (0, .ref (ad 0))]) hx hb dX11_valley_32 rfl hl (by decide) rfl (fun ls hl => ?_)
    refine lv_aload_n hx hb dX11_valley_33 rfl (lv_at hl 1 rfl) ?_
    refine lv_iconst (v := (0 : Int32)) hx hb dX11_valley_34 (by decide) ?_
    obtain ⟨g7, eg7, hf⟩ := c_letE hf
    refine c_put hx hb hts i_X11_valley_X11 tyX11 tyX11_ok nmX11 hown hK hP hD hS 0 tC0 rfl 2 (by decide) (hts _ (List.mem_of_getElem? (i := 4) rfl)) (fun _ h9 => h9) rfl (ty := .int) (by decide +kernel) rfl rfl rfl eg7 dX11_valley_35 (fun H locs hP hS => ?_)
    refine lv_iload_n hx hb dX11_valley_38 rfl (lv_at hl 0 rfl) ?_
    refine lv_iconst (v := (-1 : Int32)) hx hb dX11_valley_39 (by decide) ?_
    refine lv_icmp_eq (tgt := 48) hx hb dX11_valley_40 (by decide) (fun c8 => ?_) (fun c8 => ?_)
    · have hf := c_it c8 hf
      refine lv_aload_n hx hb dX11_valley_48 rfl (lv_at hl 1 rfl) ?_
      refine c_get hx hb hts i_X11_valley_X11 hown hK hP 0 tC0 rfl 5 (by decide) (hts _ (List.mem_of_getElem? (i := 5) rfl)) (fun _ h9 => h9) rfl (v := .ref (ad 55)) rfl dX11_valley_49 ?_
      refine lv_aload_n hx hb dX11_valley_52 rfl (lv_at hl 1 rfl) ?_
      refine c_get hx hb hts i_X11_valley_X11 hown hK hP 0 tC0 rfl 3 (by decide) (hts _ (List.mem_of_getElem? (i := 2) rfl)) (fun _ h9 => h9) rfl (v := .ref (ad 2)) rfl dX11_valley_53 ?_
      refine lv_aload_n hx hb dX11_valley_56 rfl (lv_at hl 1 rfl) ?_
      refine c_get hx hb hts i_X11_valley_X11 hown hK hP 0 tC0 rfl 4 (by decide) (hts _ (List.mem_of_getElem? (i := 1) rfl)) (fun _ h9 => h9) rfl (v := .int (g7.1 0 4)) rfl dX11_valley_57 ?_
      obtain ⟨hi9, hf⟩ := c_gd hf
      refine c_aald6 hx hb hK hP 2 tC2 (c_inV hi9) (y := (27 + 4 * ((g7.1 0 4)).toNatClampNeg)) (c_vA (c_iN hi9)) dX11_valley_60 ?_
      obtain ⟨g10, eg10, hf⟩ := c_letE hf
      refine c_putR hx hb hts i_X11_valley_X7 tyX7 tyX7_ok nmX7 hown hK hP hD hS 55 tC55 rfl 16 (by decide) (hts _ (List.mem_of_getElem? (i := 6) rfl)) (fun _ h9 => h9) rfl (ty := .object "NamingElders$Valley") (x := (27 + 4 * ((g7.1 0 4)).toNatClampNeg)) (by decide +kernel) rfl rfl rfl c_hol eg10 dX11_valley_61 (fun H locs hP hS => ?_)
      refine lv_aload_n hx hb dX11_valley_64 rfl (lv_at hl 1 rfl) ?_
      refine lv_dup hx hb dX11_valley_65 rfl ?_
      refine c_get hx hb hts i_X11_valley_X11 hown hK hP 0 tC0 rfl 4 (by decide) (hts _ (List.mem_of_getElem? (i := 1) rfl)) (fun _ h9 => h9) rfl (v := .int (g10.1 0 4)) rfl dX11_valley_66 ?_
      refine lv_iconst (v := (1 : Int32)) hx hb dX11_valley_69 (by decide) ?_
      refine lv_iadd hx hb dX11_valley_70 ?_
      obtain ⟨v11, ev11, hf⟩ := c_letE hf
      refine c_topi ev11 ?_
      obtain ⟨g12, eg12, hf⟩ := c_letE hf
      refine c_put hx hb hts i_X11_valley_X11 tyX11 tyX11_ok nmX11 hown hK hP hD hS 0 tC0 rfl 4 (by decide) (hts _ (List.mem_of_getElem? (i := 1) rfl)) (fun _ h9 => h9) rfl (ty := .int) (by decide +kernel) rfl rfl rfl eg12 dX11_valley_71 (fun H locs hP hS => ?_)
      refine lv_aload_n hx hb dX11_valley_74 rfl (lv_at hl 1 rfl) ?_
      refine c_get hx hb hts i_X11_valley_X11 hown hK hP 0 tC0 rfl 4 (by decide) (hts _ (List.mem_of_getElem? (i := 1) rfl)) (fun _ h9 => h9) rfl (v := .int (g12.1 0 4)) rfl dX11_valley_75 ?_
      refine lv_iconst (v := (1 : Int32)) hx hb dX11_valley_78 (by decide) ?_
      refine lv_isub hx hb dX11_valley_79 ?_
      exact c_iret hx hb hr hlk hP hS rfl (c_inj hf) dX11_valley_80
    · have hf := c_ie c8 hf
      refine lv_bipush (v := (-10 : Int32)) hx hb dX11_valley_43 (by decide) ?_
      refine lv_iload_n hx hb dX11_valley_45 rfl (lv_at hl 0 rfl) ?_
      refine lv_isub hx hb dX11_valley_46 ?_
      exact c_iret hx hb hr hlk hP hS rfl (c_inj hf) dX11_valley_47
  · have hf := c_ie c1 hf
    refine lv_bipush (v := (-4 : Int32)) hx hb dX11_valley_9 (by decide) ?_
    exact c_iret hx hb hr hlk hP hS rfl (c_inj hf) dX11_valley_11
