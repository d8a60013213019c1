theorem i_X12_plan_X12 : ∀ w ∈ u_ws RX12 TX12 32, w ∈ wsX12_plan := c_inP [13, 14, 15, 16, 17, 18, 19, 20, 21, 22, 23, 24, 25, 26, 27, 28, 29, 30, 31, 32, 33, 34, 35, 36, 37, 38, 39, 40, 41, 42, 43, 44] (by decide +kernel)
theorem dX12_plan_0 : decode cX12_plan 0 = .ok (.iload_n 1, 1) := by decide +kernel
theorem dX12_plan_1 : decode cX12_plan 1 = .ok (.iconst (-1), 1) := by decide +kernel
theorem dX12_plan_2 : decode cX12_plan 2 = .ok (.if_icmp .ne 13, 3) := by decide +kernel
theorem dX12_plan_5 : decode cX12_plan 5 = .ok (.aload_n 0, 1) := by decide +kernel
theorem dX12_plan_6 : decode cX12_plan 6 = .ok (.getfield 15, 3) := by decide +kernel
theorem dX12_plan_9 : decode cX12_plan 9 = .ok (.bipush 98, 2) := by decide +kernel
theorem dX12_plan_11 : decode cX12_plan 11 = .ok (.iconst 0, 1) := by decide +kernel
theorem dX12_plan_12 : decode cX12_plan 12 = .ok (.iastore, 1) := by decide +kernel
theorem dX12_plan_13 : decode cX12_plan 13 = .ok (.iconst 0, 1) := by decide +kernel
theorem dX12_plan_14 : decode cX12_plan 14 = .ok (.ireturn, 1) := by decide +kernel
theorem dX12_plan_15 : decode cX12_plan 15 = .ok (.iload_n 1, 1) := by decide +kernel
theorem dX12_plan_16 : decode cX12_plan 16 = .ok (.ifCond .eq 50, 3) := by decide +kernel
theorem dX12_plan_19 : decode cX12_plan 19 = .ok (.iload_n 1, 1) := by decide +kernel
theorem dX12_plan_20 : decode cX12_plan 20 = .ok (.iconst 1, 1) := by decide +kernel
theorem dX12_plan_21 : decode cX12_plan 21 = .ok (.if_icmp .ne 28, 3) := by decide +kernel
theorem dX12_plan_24 : decode cX12_plan 24 = .ok (.iload_n 2, 1) := by decide +kernel
theorem dX12_plan_25 : decode cX12_plan 25 = .ok (.ifCond .lt 24, 3) := by decide +kernel
theorem dX12_plan_28 : decode cX12_plan 28 = .ok (.aload_n 0, 1) := by decide +kernel
theorem dX12_plan_29 : decode cX12_plan 29 = .ok (.iload_n 2, 1) := by decide +kernel
theorem dX12_plan_30 : decode cX12_plan 30 = .ok (.bipush 10, 2) := by decide +kernel
theorem dX12_plan_32 : decode cX12_plan 32 = .ok (.idiv, 1) := by decide +kernel
theorem dX12_plan_33 : decode cX12_plan 33 = .ok (.invokevirtual 101, 3) := by decide +kernel
theorem dX12_plan_36 : decode cX12_plan 36 = .ok (.ifCond .eq 13, 3) := by decide +kernel
theorem dX12_plan_39 : decode cX12_plan 39 = .ok (.iload_n 2, 1) := by decide +kernel
theorem dX12_plan_40 : decode cX12_plan 40 = .ok (.bipush 10, 2) := by decide +kernel
theorem dX12_plan_42 : decode cX12_plan 42 = .ok (.irem, 1) := by decide +kernel
theorem dX12_plan_43 : decode cX12_plan 43 = .ok (.invokestatic 112, 3) := by decide +kernel
theorem dX12_plan_46 : decode cX12_plan 46 = .ok (.ifCond .ne 20, 3) := by decide +kernel
theorem dX12_plan_49 : decode cX12_plan 49 = .ok (.iload_n 1, 1) := by decide +kernel
theorem dX12_plan_50 : decode cX12_plan 50 = .ok (.iconst 2, 1) := by decide +kernel
theorem dX12_plan_51 : decode cX12_plan 51 = .ok (.if_icmp .eq 8, 3) := by decide +kernel
theorem dX12_plan_54 : decode cX12_plan 54 = .ok (.iload_n 1, 1) := by decide +kernel
theorem dX12_plan_55 : decode cX12_plan 55 = .ok (.iconst 3, 1) := by decide +kernel
theorem dX12_plan_56 : decode cX12_plan 56 = .ok (.if_icmp .ne 14, 3) := by decide +kernel
theorem dX12_plan_59 : decode cX12_plan 59 = .ok (.iload_n 2, 1) := by decide +kernel
theorem dX12_plan_60 : decode cX12_plan 60 = .ok (.invokestatic 112, 3) := by decide +kernel
theorem dX12_plan_63 : decode cX12_plan 63 = .ok (.ifCond .eq 7, 3) := by decide +kernel
theorem dX12_plan_66 : decode cX12_plan 66 = .ok (.iconst 1, 1) := by decide +kernel
theorem dX12_plan_67 : decode cX12_plan 67 = .ok (.goto 4, 3) := by decide +kernel
theorem dX12_plan_70 : decode cX12_plan 70 = .ok (.iconst 0, 1) := by decide +kernel
theorem dX12_plan_71 : decode cX12_plan 71 = .ok (.istore_n 3, 1) := by decide +kernel
theorem dX12_plan_72 : decode cX12_plan 72 = .ok (.iload_n 3, 1) := by decide +kernel
theorem dX12_plan_73 : decode cX12_plan 73 = .ok (.ifCond .ne 5, 3) := by decide +kernel
theorem dX12_plan_76 : decode cX12_plan 76 = .ok (.iconst (-1), 1) := by decide +kernel
theorem dX12_plan_77 : decode cX12_plan 77 = .ok (.ireturn, 1) := by decide +kernel
theorem dX12_plan_78 : decode cX12_plan 78 = .ok (.aload_n 0, 1) := by decide +kernel
theorem dX12_plan_79 : decode cX12_plan 79 = .ok (.getfield 15, 3) := by decide +kernel
theorem dX12_plan_82 : decode cX12_plan 82 = .ok (.bipush 98, 2) := by decide +kernel
theorem dX12_plan_84 : decode cX12_plan 84 = .ok (.iaload, 1) := by decide +kernel
theorem dX12_plan_85 : decode cX12_plan 85 = .ok (.bipush 10, 2) := by decide +kernel
theorem dX12_plan_87 : decode cX12_plan 87 = .ok (.if_icmp .ne 6, 3) := by decide +kernel
theorem dX12_plan_90 : decode cX12_plan 90 = .ok (.bipush (-4), 2) := by decide +kernel
theorem dX12_plan_92 : decode cX12_plan 92 = .ok (.ireturn, 1) := by decide +kernel
theorem dX12_plan_93 : decode cX12_plan 93 = .ok (.aload_n 0, 1) := by decide +kernel
theorem dX12_plan_94 : decode cX12_plan 94 = .ok (.getfield 15, 3) := by decide +kernel
theorem dX12_plan_97 : decode cX12_plan 97 = .ok (.bipush 99, 2) := by decide +kernel
theorem dX12_plan_99 : decode cX12_plan 99 = .ok (.iconst 2, 1) := by decide +kernel
theorem dX12_plan_100 : decode cX12_plan 100 = .ok (.aload_n 0, 1) := by decide +kernel
theorem dX12_plan_101 : decode cX12_plan 101 = .ok (.getfield 15, 3) := by decide +kernel
theorem dX12_plan_104 : decode cX12_plan 104 = .ok (.bipush 98, 2) := by decide +kernel
theorem dX12_plan_106 : decode cX12_plan 106 = .ok (.iaload, 1) := by decide +kernel
theorem dX12_plan_107 : decode cX12_plan 107 = .ok (.imul, 1) := by decide +kernel
theorem dX12_plan_108 : decode cX12_plan 108 = .ok (.iadd, 1) := by decide +kernel
theorem dX12_plan_109 : decode cX12_plan 109 = .ok (.iload_n 1, 1) := by decide +kernel
theorem dX12_plan_110 : decode cX12_plan 110 = .ok (.iastore, 1) := by decide +kernel
theorem dX12_plan_111 : decode cX12_plan 111 = .ok (.aload_n 0, 1) := by decide +kernel
theorem dX12_plan_112 : decode cX12_plan 112 = .ok (.getfield 15, 3) := by decide +kernel
theorem dX12_plan_115 : decode cX12_plan 115 = .ok (.bipush 100, 2) := by decide +kernel
theorem dX12_plan_117 : decode cX12_plan 117 = .ok (.iconst 2, 1) := by decide +kernel
theorem dX12_plan_118 : decode cX12_plan 118 = .ok (.aload_n 0, 1) := by decide +kernel
theorem dX12_plan_119 : decode cX12_plan 119 = .ok (.getfield 15, 3) := by decide +kernel
theorem dX12_plan_122 : decode cX12_plan 122 = .ok (.bipush 98, 2) := by decide +kernel
theorem dX12_plan_124 : decode cX12_plan 124 = .ok (.iaload, 1) := by decide +kernel
theorem dX12_plan_125 : decode cX12_plan 125 = .ok (.imul, 1) := by decide +kernel
theorem dX12_plan_126 : decode cX12_plan 126 = .ok (.iadd, 1) := by decide +kernel
theorem dX12_plan_127 : decode cX12_plan 127 = .ok (.iload_n 2, 1) := by decide +kernel
theorem dX12_plan_128 : decode cX12_plan 128 = .ok (.iastore, 1) := by decide +kernel
theorem dX12_plan_129 : decode cX12_plan 129 = .ok (.aload_n 0, 1) := by decide +kernel
theorem dX12_plan_130 : decode cX12_plan 130 = .ok (.getfield 15, 3) := by decide +kernel
theorem dX12_plan_133 : decode cX12_plan 133 = .ok (.bipush 98, 2) := by decide +kernel
theorem dX12_plan_135 : decode cX12_plan 135 = .ok (.dup2, 1) := by decide +kernel
theorem dX12_plan_136 : decode cX12_plan 136 = .ok (.iaload, 1) := by decide +kernel
theorem dX12_plan_137 : decode cX12_plan 137 = .ok (.iconst 1, 1) := by decide +kernel
theorem dX12_plan_138 : decode cX12_plan 138 = .ok (.iadd, 1) := by decide +kernel
theorem dX12_plan_139 : decode cX12_plan 139 = .ok (.iastore, 1) := by decide +kernel
theorem dX12_plan_140 : decode cX12_plan 140 = .ok (.aload_n 0, 1) := by decide +kernel
theorem dX12_plan_141 : decode cX12_plan 141 = .ok (.getfield 15, 3) := by decide +kernel
theorem dX12_plan_144 : decode cX12_plan 144 = .ok (.bipush 98, 2) := by decide +kernel
theorem dX12_plan_146 : decode cX12_plan 146 = .ok (.iaload, 1) := by decide +kernel
theorem dX12_plan_147 : decode cX12_plan 147 = .ok (.ireturn, 1) := by decide +kernel
set_option maxRecDepth 20000 in
theorem ggX12_plan_X12_isChild : GoodIn wsX12_plan wsX12_isChild := goodIn_r _ [6, 1, 7, 8, 5, 9, 13, 14, 15, 16, 17, 18, 19, 20, 21, 22, 23, 24, 25, 26, 27, 28, 29, 30, 31, 32, 33, 34, 35, 36, 37, 38, 39, 40, 41, 42, 43, 44] (by decide +kernel) (by decide +kernel)
set_option maxRecDepth 20000 in
theorem gX12_plan_X12_isChild : GoodIn wsX12_plan (wsV RX12 101 RX12 yX12_isChild wsX12_isChild) := goodIn_app (goodIn_of _ (by decide +kernel)) ggX12_plan_X12_isChild
set_option maxRecDepth 20000 in
theorem ggX12_plan_X12_isElder : GoodIn wsX12_plan wsX12_isElder := goodIn_r _ [12, 7, 8, 5, 9] (by decide +kernel) (by decide +kernel)
set_option maxRecDepth 20000 in
theorem gX12_plan_X12_isElder : GoodIn wsX12_plan (va_wsS RX12 112 yX12_isElder wsX12_isElder) := goodIn_app (goodIn_of _ (by decide +kernel)) ggX12_plan_X12_isElder
def fX12_plan_71  (a1 : Int32) (a2 : Int32) (x1 : Int32) (x2 : Int32) (y0 : Int32) (g : c_G) : Option (c_G × Int32) :=
  if y0 = 0 then (some (g, (-1 : Int32))) else (if (g.1 1 98) = (10 : Int32) then (some (g, (-4 : Int32))) else (if c_in (((99 : Int32) + ((2 : Int32) * (g.1 1 98)))) (136) = true then c_let (c_si g 1 (((99 : Int32) + ((2 : Int32) * (g.1 1 98)))).toNatClampNeg x1) fun g71004 => if c_in (((100 : Int32) + ((2 : Int32) * (g71004.1 1 98)))) (136) = true then c_let (c_si g71004 1 (((100 : Int32) + ((2 : Int32) * (g71004.1 1 98)))).toNatClampNeg x2) fun g71006 => c_let (((g71006.1 1 98) + (1 : Int32))) fun v71007 => c_let (c_si g71006 1 98 v71007) fun g71008 => some (g71008, (g71008.1 1 98)) else none else none))
set_option maxRecDepth 100000 in
set_option maxHeartbeats 4000000 in
theorem jX12_plan_71 {p : Program} {l : Launch} {e : Env} {s : State} {m : MethodId} {below : List Frame} {meth : Method} {c : Code} {D : va_G} {tc : Nat → ClassId} {ad : Nat → Nat} {A : Nat → Prop} {E : (Nat → Nat) × (Nat → Nat) × Nat} {a1 : Int32} {a2 : Int32} {g' : c_G} {r : Int32} (C : c_C p s m meth c D tc A E RX12 wsX12_plan cX12_plan 4 (some .int) ([.ref (ad 0), .int a1, .int a2] : List Value).toArray) (hD : c_D A ad TM)  : ∀ (x1 : Int32) (x2 : Int32) (y0 : Int32) (g : c_G), fX12_plan_71 a1 a2 x1 x2 y0 g = some (g', r) → ∀ (H : Heap) (locs : List Loc), va_P D vwCl (c_ws tc ad TM g) H → va_S A s.heap H locs → ∀ ls : Array Slot, lv_has ls 4 [(0, .ref (ad 0)), (1, .int x1), (2, .int x2)] → W p l e (c_rm 2) s m ([.ref (ad 0), .int a1, .int a2] : List Value).toArray below meth c H locs 0 0 (MQ below (va_Qi (fun (x : Int32) (_ : Unit) => x = r) (fun _ t => va_P D vwCl (c_ws tc ad TM g') t.heap) A) ([.ref (ad 0), .int a1, .int a2] : List Value).toArray s 0 0 A) (F0 m 71 ls [.int y0]) := by
  obtain ⟨hx, hb, hr, hml, hts, hown, hlk, hK, hE⟩ := id C
  intro x1 x2 y0 g hf H locs hP hS ls hl
  unfold fX12_plan_71 at hf
  refine lv_istore_n (lv' := [(3, .int y0), (0, .ref (ad 0)), (1, .int x1), (2, .int x2)]) hx hb dX12_plan_71 rfl hl (by decide) rfl (fun ls hl => ?_)
  refine lv_iload_n hx hb dX12_plan_72 rfl (lv_at hl 0 rfl) ?_
  refine lv_if_ne (tgt := 78) hx hb dX12_plan_73 (by decide) (fun c71001 => ?_) (fun c71001 => ?_)
  · have hf := c_ie c71001 hf
    refine lv_aload_n hx hb dX12_plan_78 rfl (lv_at hl 1 rfl) ?_
    refine c_get hx hb hts i_X12_plan_X12 hown hK hP 0 tM0 rfl 0 (by decide) (hts _ (List.mem_of_getElem? (i := 1) rfl)) (fun _ h9 => h9) rfl (v := .ref (ad 1)) rfl dX12_plan_79 ?_
    refine lv_bipush (v := (98 : Int32)) hx hb dX12_plan_82 (by decide) ?_
    refine c_iald (j := 98) hx hb hK hP 1 tM1 (by decide) (c_inV (by decide)) dX12_plan_84 ?_
    refine lv_bipush (v := (10 : Int32)) hx hb dX12_plan_85 (by decide) ?_
    refine lv_icmp_ne (tgt := 93) hx hb dX12_plan_87 (by decide) (fun c71002 => ?_) (fun c71002 => ?_)
    · have hf := c_ie c71002 hf
      refine lv_aload_n hx hb dX12_plan_93 rfl (lv_at hl 1 rfl) ?_
      refine c_get hx hb hts i_X12_plan_X12 hown hK hP 0 tM0 rfl 0 (by decide) (hts _ (List.mem_of_getElem? (i := 1) rfl)) (fun _ h9 => h9) rfl (v := .ref (ad 1)) rfl dX12_plan_94 ?_
      refine lv_bipush (v := (99 : Int32)) hx hb dX12_plan_97 (by decide) ?_
      refine lv_iconst (v := (2 : Int32)) hx hb dX12_plan_99 (by decide) ?_
      refine lv_aload_n hx hb dX12_plan_100 rfl (lv_at hl 1 rfl) ?_
      refine c_get hx hb hts i_X12_plan_X12 hown hK hP 0 tM0 rfl 0 (by decide) (hts _ (List.mem_of_getElem? (i := 1) rfl)) (fun _ h9 => h9) rfl (v := .ref (ad 1)) rfl dX12_plan_101 ?_
      refine lv_bipush (v := (98 : Int32)) hx hb dX12_plan_104 (by decide) ?_
      refine c_iald (j := 98) hx hb hK hP 1 tM1 (by decide) (c_inV (by decide)) dX12_plan_106 ?_
      refine lv_imul hx hb dX12_plan_107 ?_
      refine lv_iadd hx hb dX12_plan_108 ?_
      refine lv_iload_n hx hb dX12_plan_109 rfl (lv_at hl 2 rfl) ?_
      obtain ⟨hi71003, hf⟩ := c_gd hf
      obtain ⟨g71004, eg71004, hf⟩ := c_letE hf
      refine c_iast (j := (((99 : Int32) + ((2 : Int32) * (g.1 1 98)))).toNatClampNeg) hx hb hK hP hD hS 1 tM1 rfl (c_inV hi71003) eg71004 dX12_plan_110 (fun H locs hP hS => ?_)
      refine lv_aload_n hx hb dX12_plan_111 rfl (lv_at hl 1 rfl) ?_
      refine c_get hx hb hts i_X12_plan_X12 hown hK hP 0 tM0 rfl 0 (by decide) (hts _ (List.mem_of_getElem? (i := 1) rfl)) (fun _ h9 => h9) rfl (v := .ref (ad 1)) rfl dX12_plan_112 ?_
      refine lv_bipush (v := (100 : Int32)) hx hb dX12_plan_115 (by decide) ?_
      refine lv_iconst (v := (2 : Int32)) hx hb dX12_plan_117 (by decide) ?_
      refine lv_aload_n hx hb dX12_plan_118 rfl (lv_at hl 1 rfl) ?_
      refine c_get hx hb hts i_X12_plan_X12 hown hK hP 0 tM0 rfl 0 (by decide) (hts _ (List.mem_of_getElem? (i := 1) rfl)) (fun _ h9 => h9) rfl (v := .ref (ad 1)) rfl dX12_plan_119 ?_
      refine lv_bipush (v := (98 : Int32)) hx hb dX12_plan_122 (by decide) ?_
      refine c_iald (j := 98) hx hb hK hP 1 tM1 (by decide) (c_inV (by decide)) dX12_plan_124 ?_
      refine lv_imul hx hb dX12_plan_125 ?_
      refine lv_iadd hx hb dX12_plan_126 ?_
      refine lv_iload_n hx hb dX12_plan_127 rfl (lv_at hl 3 rfl) ?_
      obtain ⟨hi71005, hf⟩ := c_gd hf
      obtain ⟨g71006, eg71006, hf⟩ := c_letE hf
      refine c_iast (j := (((100 : Int32) + ((2 : Int32) * (g71004.1 1 98)))).toNatClampNeg) hx hb hK hP hD hS 1 tM1 rfl (c_inV hi71005) eg71006 dX12_plan_128 (fun H locs hP hS => ?_)
      refine lv_aload_n hx hb dX12_plan_129 rfl (lv_at hl 1 rfl) ?_
      refine c_get hx hb hts i_X12_plan_X12 hown hK hP 0 tM0 rfl 0 (by decide) (hts _ (List.mem_of_getElem? (i := 1) rfl)) (fun _ h9 => h9) rfl (v := .ref (ad 1)) rfl dX12_plan_130 ?_
      refine lv_bipush (v := (98 : Int32)) hx hb dX12_plan_133 (by decide) ?_
      refine lv_dup2_11 hx hb dX12_plan_135 rfl rfl ?_
      refine c_iald (j := 98) hx hb hK hP 1 tM1 (by decide) (c_inV (by decide)) dX12_plan_136 ?_
      refine lv_iconst (v := (1 : Int32)) hx hb dX12_plan_137 (by decide) ?_
      refine lv_iadd hx hb dX12_plan_138 ?_
      obtain ⟨v71007, ev71007, hf⟩ := c_letE hf
      refine c_topi ev71007 ?_
      obtain ⟨g71008, eg71008, hf⟩ := c_letE hf
      refine c_iast (j := 98) hx hb hK hP hD hS 1 tM1 (by decide) (c_inV (by decide)) eg71008 dX12_plan_139 (fun H locs hP hS => ?_)
      refine lv_aload_n hx hb dX12_plan_140 rfl (lv_at hl 1 rfl) ?_
      refine c_get hx hb hts i_X12_plan_X12 hown hK hP 0 tM0 rfl 0 (by decide) (hts _ (List.mem_of_getElem? (i := 1) rfl)) (fun _ h9 => h9) rfl (v := .ref (ad 1)) rfl dX12_plan_141 ?_
      refine lv_bipush (v := (98 : Int32)) hx hb dX12_plan_144 (by decide) ?_
      refine c_iald (j := 98) hx hb hK hP 1 tM1 (by decide) (c_inV (by decide)) dX12_plan_146 ?_
      exact c_iret hx hb hr hlk hP hS rfl (c_inj hf) dX12_plan_147
    · have hf := c_it c71002 hf
      refine lv_bipush (v := (-4 : Int32)) hx hb dX12_plan_90 (by decide) ?_
      exact c_iret hx hb hr hlk hP hS rfl (c_inj hf) dX12_plan_92
  · have hf := c_it c71001 hf
    refine lv_iconst (v := (-1 : Int32)) hx hb dX12_plan_76 (by decide) ?_
    exact c_iret hx hb hr hlk hP hS rfl (c_inj hf) dX12_plan_77
def fX12_plan_66  (a1 : Int32) (a2 : Int32) (x1 : Int32) (x2 : Int32) (g : c_G) : Option (c_G × Int32) :=
  fX12_plan_71 a1 a2 x1 x2 ((1 : Int32)) g
set_option maxRecDepth 100000 in
set_option maxHeartbeats 4000000 in
theorem jX12_plan_66 {p : Program} {l : Launch} {e : Env} {s : State} {m : MethodId} {below : List Frame} {meth : Method} {c : Code} {D : va_G} {tc : Nat → ClassId} {ad : Nat → Nat} {A : Nat → Prop} {E : (Nat → Nat) × (Nat → Nat) × Nat} {a1 : Int32} {a2 : Int32} {g' : c_G} {r : Int32} (C : c_C p s m meth c D tc A E RX12 wsX12_plan cX12_plan 4 (some .int) ([.ref (ad 0), .int a1, .int a2] : List Value).toArray) (hD : c_D A ad TM)  : ∀ (x1 : Int32) (x2 : Int32) (g : c_G), fX12_plan_66 a1 a2 x1 x2 g = some (g', r) → ∀ (H : Heap) (locs : List Loc), va_P D vwCl (c_ws tc ad TM g) H → va_S A s.heap H locs → ∀ ls : Array Slot, lv_has ls 4 [(0, .ref (ad 0)), (1, .int x1), (2, .int x2)] → W p l e (c_rm 2) s m ([.ref (ad 0), .int a1, .int a2] : List Value).toArray below meth c H locs 0 0 (MQ below (va_Qi (fun (x : Int32) (_ : Unit) => x = r) (fun _ t => va_P D vwCl (c_ws tc ad TM g') t.heap) A) ([.ref (ad 0), .int a1, .int a2] : List Value).toArray s 0 0 A) (F0 m 66 ls []) := by
  obtain ⟨hx, hb, hr, hml, hts, hown, hlk, hK, hE⟩ := id C
  intro x1 x2 g hf H locs hP hS ls hl
  unfold fX12_plan_66 at hf
  refine lv_iconst (v := (1 : Int32)) hx hb dX12_plan_66 (by decide) ?_
  refine lv_goto (tgt := 71) hx hb dX12_plan_67 (by decide) ?_
  exact jX12_plan_71 C hD x1 x2 ((1 : Int32)) g hf _ _ hP hS _ (lv_sub hl [0, 1, 2] rfl)
def fX12_plan_70  (a1 : Int32) (a2 : Int32) (x1 : Int32) (x2 : Int32) (g : c_G) : Option (c_G × Int32) :=
  fX12_plan_71 a1 a2 x1 x2 ((0 : Int32)) g
set_option maxRecDepth 100000 in
set_option maxHeartbeats 4000000 in
theorem jX12_plan_70 {p : Program} {l : Launch} {e : Env} {s : State} {m : MethodId} {below : List Frame} {meth : Method} {c : Code} {D : va_G} {tc : Nat → ClassId} {ad : Nat → Nat} {A : Nat → Prop} {E : (Nat → Nat) × (Nat → Nat) × Nat} {a1 : Int32} {a2 : Int32} {g' : c_G} {r : Int32} (C : c_C p s m meth c D tc A E RX12 wsX12_plan cX12_plan 4 (some .int) ([.ref (ad 0), .int a1, .int a2] : List Value).toArray) (hD : c_D A ad TM)  : ∀ (x1 : Int32) (x2 : Int32) (g : c_G), fX12_plan_70 a1 a2 x1 x2 g = some (g', r) → ∀ (H : Heap) (locs : List Loc), va_P D vwCl (c_ws tc ad TM g) H → va_S A s.heap H locs → ∀ ls : Array Slot, lv_has ls 4 [(0, .ref (ad 0)), (1, .int x1), (2, .int x2)] → W p l e (c_rm 2) s m ([.ref (ad 0), .int a1, .int a2] : List Value).toArray below meth c H locs 0 0 (MQ below (va_Qi (fun (x : Int32) (_ : Unit) => x = r) (fun _ t => va_P D vwCl (c_ws tc ad TM g') t.heap) A) ([.ref (ad 0), .int a1, .int a2] : List Value).toArray s 0 0 A) (F0 m 70 ls []) := by
  obtain ⟨hx, hb, hr, hml, hts, hown, hlk, hK, hE⟩ := id C
  intro x1 x2 g hf H locs hP hS ls hl
  unfold fX12_plan_70 at hf
  refine lv_iconst (v := (0 : Int32)) hx hb dX12_plan_70 (by decide) ?_
  exact jX12_plan_71 C hD x1 x2 ((0 : Int32)) g hf _ _ hP hS _ (lv_sub hl [0, 1, 2] rfl)
def fX12_plan_59  (a1 : Int32) (a2 : Int32) (x1 : Int32) (x2 : Int32) (g : c_G) : Option (c_G × Int32) :=
  if (fX12_isElder x2) = 0 then (fX12_plan_70 a1 a2 x1 x2 g) else (fX12_plan_66 a1 a2 x1 x2 g)
set_option maxRecDepth 100000 in
set_option maxHeartbeats 4000000 in
theorem jX12_plan_59 {p : Program} {l : Launch} {e : Env} {s : State} {m : MethodId} {below : List Frame} {meth : Method} {c : Code} {D : va_G} {tc : Nat → ClassId} {ad : Nat → Nat} {A : Nat → Prop} {E : (Nat → Nat) × (Nat → Nat) × Nat} {a1 : Int32} {a2 : Int32} {g' : c_G} {r : Int32} (C : c_C p s m meth c D tc A E RX12 wsX12_plan cX12_plan 4 (some .int) ([.ref (ad 0), .int a1, .int a2] : List Value).toArray) (hD : c_D A ad TM)  : ∀ (x1 : Int32) (x2 : Int32) (g : c_G), fX12_plan_59 a1 a2 x1 x2 g = some (g', r) → ∀ (H : Heap) (locs : List Loc), va_P D vwCl (c_ws tc ad TM g) H → va_S A s.heap H locs → ∀ ls : Array Slot, lv_has ls 4 [(0, .ref (ad 0)), (1, .int x1), (2, .int x2)] → W p l e (c_rm 2) s m ([.ref (ad 0), .int a1, .int a2] : List Value).toArray below meth c H locs 0 0 (MQ below (va_Qi (fun (x : Int32) (_ : Unit) => x = r) (fun _ t => va_P D vwCl (c_ws tc ad TM g') t.heap) A) ([.ref (ad 0), .int a1, .int a2] : List Value).toArray s 0 0 A) (F0 m 59 ls []) := by
  obtain ⟨hx, hb, hr, hml, hts, hown, hlk, hK, hE⟩ := id C
  intro x1 x2 g hf H locs hP hS ls hl
  unfold fX12_plan_59 at hf
  refine lv_iload_n hx hb dX12_plan_59 rfl (lv_at hl 2 rfl) ?_
  refine c_goi (va_runS (As := [.int x2]) (rest := []) ⟨hx, hb, hml, hown, hts⟩ (kX12_isElder (T := TM) (g := g) rfl) (va_cwS 1 hts gX12_plan_X12_isElder rfl rfl rfl (by decide +kernel) ⟨Nat.le_of_ble_eq_true rfl, Nat.le_of_ble_eq_true rfl⟩) (c_preS hK hP hE hS) rfl rfl hl.1 rfl (lv_room (Nat.le_of_ble_eq_true rfl)) dX12_plan_60 ⟨Nat.zero_le _, Nat.zero_le _⟩) hS (fun H locs hP hS => ?_)
  refine lv_if_eq (tgt := 70) hx hb dX12_plan_63 (by decide) (fun c59001 => ?_) (fun c59001 => ?_)
  · have hf := c_it c59001 hf
    exact jX12_plan_70 C hD x1 x2 g hf _ _ hP hS _ (lv_sub hl [0, 1, 2] rfl)
  · have hf := c_ie c59001 hf
    exact jX12_plan_66 C hD x1 x2 g hf _ _ hP hS _ (lv_sub hl [0, 1, 2] rfl)
def fX12_plan_49  (a1 : Int32) (a2 : Int32) (x1 : Int32) (x2 : Int32) (g : c_G) : Option (c_G × Int32) :=
  if x1 = (2 : Int32) then (fX12_plan_59 a1 a2 x1 x2 g) else (if x1 = (3 : Int32) then (fX12_plan_59 a1 a2 x1 x2 g) else (fX12_plan_70 a1 a2 x1 x2 g))
set_option maxRecDepth 100000 in
set_option maxHeartbeats 4000000 in
theorem jX12_plan_49 {p : Program} {l : Launch} {e : Env} {s : State} {m : MethodId} {below : List Frame} {meth : Method} {c : Code} {D : va_G} {tc : Nat → ClassId} {ad : Nat → Nat} {A : Nat → Prop} {E : (Nat → Nat) × (Nat → Nat) × Nat} {a1 : Int32} {a2 : Int32} {g' : c_G} {r : Int32} (C : c_C p s m meth c D tc A E RX12 wsX12_plan cX12_plan 4 (some .int) ([.ref (ad 0), .int a1, .int a2] : List Value).toArray) (hD : c_D A ad TM)  : ∀ (x1 : Int32) (x2 : Int32) (g : c_G), fX12_plan_49 a1 a2 x1 x2 g = some (g', r) → ∀ (H : Heap) (locs : List Loc), va_P D vwCl (c_ws tc ad TM g) H → va_S A s.heap H locs → ∀ ls : Array Slot, lv_has ls 4 [(0, .ref (ad 0)), (1, .int x1), (2, .int x2)] → W p l e (c_rm 2) s m ([.ref (ad 0), .int a1, .int a2] : List Value).toArray below meth c H locs 0 0 (MQ below (va_Qi (fun (x : Int32) (_ : Unit) => x = r) (fun _ t => va_P D vwCl (c_ws tc ad TM g') t.heap) A) ([.ref (ad 0), .int a1, .int a2] : List Value).toArray s 0 0 A) (F0 m 49 ls []) := by
  obtain ⟨hx, hb, hr, hml, hts, hown, hlk, hK, hE⟩ := id C
  intro x1 x2 g hf H locs hP hS ls hl
  unfold fX12_plan_49 at hf
  refine lv_iload_n hx hb dX12_plan_49 rfl (lv_at hl 1 rfl) ?_
  refine lv_iconst (v := (2 : Int32)) hx hb dX12_plan_50 (by decide) ?_
  refine lv_icmp_eq (tgt := 59) hx hb dX12_plan_51 (by decide) (fun c49001 => ?_) (fun c49001 => ?_)
  · have hf := c_it c49001 hf
    exact jX12_plan_59 C hD x1 x2 g hf _ _ hP hS _ (lv_sub hl [0, 1, 2] rfl)
  · have hf := c_ie c49001 hf
    refine lv_iload_n hx hb dX12_plan_54 rfl (lv_at hl 1 rfl) ?_
    refine lv_iconst (v := (3 : Int32)) hx hb dX12_plan_55 (by decide) ?_
    refine lv_icmp_ne (tgt := 70) hx hb dX12_plan_56 (by decide) (fun c49002 => ?_) (fun c49002 => ?_)
    · have hf := c_ie c49002 hf
      exact jX12_plan_70 C hD x1 x2 g hf _ _ hP hS _ (lv_sub hl [0, 1, 2] rfl)
    · have hf := c_it c49002 hf
      exact jX12_plan_59 C hD x1 x2 g hf _ _ hP hS _ (lv_sub hl [0, 1, 2] rfl)
def fX12_plan (g : c_G) (a1 : Int32) (a2 : Int32) : Option (c_G × Int32) :=
  if a1 = (-1 : Int32) then (c_let (c_si g 1 98 (0 : Int32)) fun g9 => some (g9, (0 : Int32))) else (if a1 = 0 then (fX12_plan_66 a1 a2 a1 a2 g) else (if a1 = (1 : Int32) then (if a2 < 0 then (fX12_plan_49 a1 a2 a1 a2 g) else ((fX12_isChild g ((a2 / (10 : Int32)))).bind fun r5 => if r5 = 0 then (fX12_plan_49 a1 a2 a1 a2 g) else (if (fX12_isElder ((a2 - a2 / (10 : Int32) * (10 : Int32)))) = 0 then (fX12_plan_49 a1 a2 a1 a2 g) else (fX12_plan_66 a1 a2 a1 a2 g)))) else (fX12_plan_49 a1 a2 a1 a2 g)))
set_option maxRecDepth 100000 in
set_option maxHeartbeats 4000000 in
theorem kX12_plan {l : Launch} {D : va_G} {tc : Nat → ClassId} {ad : Nat → Nat} {A : Nat → Prop} {E : (Nat → Nat) × (Nat → Nat) × Nat} (hD : c_D A ad TM) {a1 : Int32} {a2 : Int32} {g g' : c_G} {r : Int32} (hf : fX12_plan g a1 a2 = some (g', r)) : c_Mi l yX12_plan wsX12_plan (c_rm 2) D tc ad A E TM ([.ref (ad 0), .int a1, .int a2] : List Value) g g' r := by
  refine c_ofW (bytes := cX12_plan) (maxL := 4) (ret := (some .int)) (by decide) rfl (Nat.le_of_ble_eq_true rfl) ?_
  intro p e s m below meth c ls C hP hS hl
  unfold fX12_plan at hf
  obtain ⟨hx, hb, hr, hml, hts, hown, hlk, hK, hE⟩ := id C
  have hl : lv_has ls 4 [(0, .ref (ad 0)), (1, .int a1), (2, .int a2)] := hl
  refine lv_iload_n hx hb dX12_plan_0 rfl (lv_at hl 1 rfl) ?_
  refine lv_iconst (v := (-1 : Int32)) hx hb dX12_plan_1 (by decide) ?_
  refine lv_icmp_ne (tgt := 15) hx hb dX12_plan_2 (by decide) (fun c1 => ?_) (fun c1 => ?_)
  · have hf := c_ie c1 hf
    refine lv_iload_n hx hb dX12_plan_15 rfl (lv_at hl 1 rfl) ?_
    refine lv_if_eq (tgt := 66) hx hb dX12_plan_16 (by decide) (fun c2 => ?_) (fun c2 => ?_)
    · have hf := c_it c2 hf
      exact jX12_plan_66 C hD a1 a2 g hf _ _ hP hS _ (lv_sub hl [0, 1, 2] rfl)
    · have hf := c_ie c2 hf
      refine lv_iload_n hx hb dX12_plan_19 rfl (lv_at hl 1 rfl) ?_
      refine lv_iconst (v := (1 : Int32)) hx hb dX12_plan_20 (by decide) ?_
      refine lv_icmp_ne (tgt := 49) hx hb dX12_plan_21 (by decide) (fun c3 => ?_) (fun c3 => ?_)
      · have hf := c_ie c3 hf
        exact jX12_plan_49 C hD a1 a2 g hf _ _ hP hS _ (lv_sub hl [0, 1, 2] rfl)
      · have hf := c_it c3 hf
        refine lv_iload_n hx hb dX12_plan_24 rfl (lv_at hl 2 rfl) ?_
        refine lv_if_lt (tgt := 49) hx hb dX12_plan_25 (by decide) (fun c4 => ?_) (fun c4 => ?_)
        · have hf := c_it c4 hf
          exact jX12_plan_49 C hD a1 a2 g hf _ _ hP hS _ (lv_sub hl [0, 1, 2] rfl)
        · have hf := c_ie c4 hf
          refine lv_aload_n hx hb dX12_plan_28 rfl (lv_at hl 0 rfl) ?_
          refine lv_iload_n hx hb dX12_plan_29 rfl (lv_at hl 2 rfl) ?_
          refine lv_bipush (v := (10 : Int32)) hx hb dX12_plan_30 (by decide) ?_
          refine lv_idiv hx hb dX12_plan_32 (by decide) ?_
          obtain ⟨r5, hc6, hf⟩ := c_bd hf
          refine c_goi (va_runV (As := [.int (a2 / (10 : Int32))]) (rest := []) ⟨hx, hb, hml, hown, hts⟩ (kX12_isChild hD hc6) (cwV 1 hts gX12_plan_X12_isChild rfl rfl rfl (by decide +kernel) ⟨Nat.le_of_ble_eq_true rfl, Nat.le_of_ble_eq_true rfl⟩) (c_preV hK hP hE hS tM0 rfl) rfl rfl hl.1 rfl (lv_room (Nat.le_of_ble_eq_true rfl)) dX12_plan_33 ⟨Nat.zero_le _, Nat.zero_le _⟩) hS (fun H locs hP hS => ?_)
          refine lv_if_eq (tgt := 49) hx hb dX12_plan_36 (by decide) (fun c7 => ?_) (fun c7 => ?_)
          · have hf := c_it c7 hf
            exact jX12_plan_49 C hD a1 a2 g hf _ _ hP hS _ (lv_sub hl [0, 1, 2] rfl)
          · have hf := c_ie c7 hf
            refine lv_iload_n hx hb dX12_plan_39 rfl (lv_at hl 2 rfl) ?_
            refine lv_bipush (v := (10 : Int32)) hx hb dX12_plan_40 (by decide) ?_
            refine lv_irem hx hb dX12_plan_42 (by decide) ?_
            refine c_goi (va_runS (As := [.int (a2 - a2 / (10 : Int32) * (10 : Int32))]) (rest := []) ⟨hx, hb, hml, hown, hts⟩ (kX12_isElder (T := TM) (g := g) rfl) (va_cwS 1 hts gX12_plan_X12_isElder rfl rfl rfl (by decide +kernel) ⟨Nat.le_of_ble_eq_true rfl, Nat.le_of_ble_eq_true rfl⟩) (c_preS hK hP hE hS) rfl rfl hl.1 rfl (lv_room (Nat.le_of_ble_eq_true rfl)) dX12_plan_43 ⟨Nat.zero_le _, Nat.zero_le _⟩) hS (fun H locs hP hS => ?_)
            refine lv_if_ne (tgt := 66) hx hb dX12_plan_46 (by decide) (fun c8 => ?_) (fun c8 => ?_)
            · have hf := c_ie c8 hf
              exact jX12_plan_66 C hD a1 a2 g hf _ _ hP hS _ (lv_sub hl [0, 1, 2] rfl)
            · have hf := c_it c8 hf
              exact jX12_plan_49 C hD a1 a2 g hf _ _ hP hS _ (lv_sub hl [0, 1, 2] rfl)
  · have hf := c_it c1 hf
    refine lv_aload_n hx hb dX12_plan_5 rfl (lv_at hl 0 rfl) ?_
    refine c_get hx hb hts i_X12_plan_X12 hown hK hP 0 tM0 rfl 0 (by decide) (hts _ (List.mem_of_getElem? (i := 1) rfl)) (fun _ h9 => h9) rfl (v := .ref (ad 1)) rfl dX12_plan_6 ?_
    refine lv_bipush (v := (98 : Int32)) hx hb dX12_plan_9 (by decide) ?_
    refine lv_iconst (v := (0 : Int32)) hx hb dX12_plan_11 (by decide) ?_
    obtain ⟨g9, eg9, hf⟩ := c_letE hf
    refine c_iast (j := 98) hx hb hK hP hD hS 1 tM1 (by decide) (c_inV (by decide)) eg9 dX12_plan_12 (fun H locs hP hS => ?_)
    refine lv_iconst (v := (0 : Int32)) hx hb dX12_plan_13 (by decide) ?_
    exact c_iret hx hb hr hlk hP hS rfl (c_inj hf) dX12_plan_14
theorem i_X12_ends_X12 : ∀ w ∈ u_ws RX12 TX12 32, w ∈ wsX12_ends := c_inP [129, 130, 131, 132, 133, 134, 135, 136, 137, 138, 139, 140, 141, 142, 143, 144, 145, 146, 147, 148, 149, 150, 151, 152, 153, 154, 155, 156, 157, 158, 159, 160] (by decide +kernel)
theorem dX12_ends_0 : decode cX12_ends 0 = .ok (.iload_n 1, 1) := by decide +kernel
theorem dX12_ends_1 : decode cX12_ends 1 = .ok (.iconst 0, 1) := by decide +kernel
theorem dX12_ends_2 : decode cX12_ends 2 = .ok (.iconst 1, 1) := by decide +kernel
theorem dX12_ends_3 : decode cX12_ends 3 = .ok (.invokestatic 85, 3) := by decide +kernel
theorem dX12_ends_6 : decode cX12_ends 6 = .ok (.ifCond .ne 5, 3) := by decide +kernel
theorem dX12_ends_9 : decode cX12_ends 9 = .ok (.iconst (-1), 1) := by decide +kernel
theorem dX12_ends_10 : decode cX12_ends 10 = .ok (.ireturn, 1) := by decide +kernel
theorem dX12_ends_11 : decode cX12_ends 11 = .ok (.aload_n 0, 1) := by decide +kernel
theorem dX12_ends_12 : decode cX12_ends 12 = .ok (.iconst 0, 1) := by decide +kernel
theorem dX12_ends_13 : decode cX12_ends 13 = .ok (.invokevirtual 217, 3) := by decide +kernel
theorem dX12_ends_16 : decode cX12_ends 16 = .ok (.iconst 0, 1) := by decide +kernel
theorem dX12_ends_17 : decode cX12_ends 17 = .ok (.istore_n 2, 1) := by decide +kernel
theorem dX12_ends_18 : decode cX12_ends 18 = .ok (.iload_n 2, 1) := by decide +kernel
theorem dX12_ends_19 : decode cX12_ends 19 = .ok (.aload_n 0, 1) := by decide +kernel
theorem dX12_ends_20 : decode cX12_ends 20 = .ok (.getfield 15, 3) := by decide +kernel
theorem dX12_ends_23 : decode cX12_ends 23 = .ok (.bipush 98, 2) := by decide +kernel
theorem dX12_ends_25 : decode cX12_ends 25 = .ok (.iaload, 1) := by decide +kernel
theorem dX12_ends_26 : decode cX12_ends 26 = .ok (.if_icmp .ge 94, 3) := by decide +kernel
theorem dX12_ends_29 : decode cX12_ends 29 = .ok (.aload_n 0, 1) := by decide +kernel
theorem dX12_ends_30 : decode cX12_ends 30 = .ok (.getfield 15, 3) := by decide +kernel
theorem dX12_ends_33 : decode cX12_ends 33 = .ok (.bipush 99, 2) := by decide +kernel
theorem dX12_ends_35 : decode cX12_ends 35 = .ok (.iconst 2, 1) := by decide +kernel
theorem dX12_ends_36 : decode cX12_ends 36 = .ok (.iload_n 2, 1) := by decide +kernel
theorem dX12_ends_37 : decode cX12_ends 37 = .ok (.imul, 1) := by decide +kernel
theorem dX12_ends_38 : decode cX12_ends 38 = .ok (.iadd, 1) := by decide +kernel
theorem dX12_ends_39 : decode cX12_ends 39 = .ok (.iaload, 1) := by decide +kernel
theorem dX12_ends_40 : decode cX12_ends 40 = .ok (.istore_n 3, 1) := by decide +kernel
theorem dX12_ends_41 : decode cX12_ends 41 = .ok (.aload_n 0, 1) := by decide +kernel
theorem dX12_ends_42 : decode cX12_ends 42 = .ok (.getfield 15, 3) := by decide +kernel
theorem dX12_ends_45 : decode cX12_ends 45 = .ok (.bipush 100, 2) := by decide +kernel
theorem dX12_ends_47 : decode cX12_ends 47 = .ok (.iconst 2, 1) := by decide +kernel
theorem dX12_ends_48 : decode cX12_ends 48 = .ok (.iload_n 2, 1) := by decide +kernel
theorem dX12_ends_49 : decode cX12_ends 49 = .ok (.imul, 1) := by decide +kernel
theorem dX12_ends_50 : decode cX12_ends 50 = .ok (.iadd, 1) := by decide +kernel
theorem dX12_ends_51 : decode cX12_ends 51 = .ok (.iaload, 1) := by decide +kernel
theorem dX12_ends_52 : decode cX12_ends 52 = .ok (.istore 4, 2) := by decide +kernel
theorem dX12_ends_54 : decode cX12_ends 54 = .ok (.iload_n 3, 1) := by decide +kernel
theorem dX12_ends_55 : decode cX12_ends 55 = .ok (.ifCond .ne 10, 3) := by decide +kernel
theorem dX12_ends_58 : decode cX12_ends 58 = .ok (.aload_n 0, 1) := by decide +kernel
theorem dX12_ends_59 : decode cX12_ends 59 = .ok (.invokevirtual 214, 3) := by decide +kernel
theorem dX12_ends_62 : decode cX12_ends 62 = .ok (.goto 52, 3) := by decide +kernel
theorem dX12_ends_65 : decode cX12_ends 65 = .ok (.iload_n 3, 1) := by decide +kernel
theorem dX12_ends_66 : decode cX12_ends 66 = .ok (.iconst 1, 1) := by decide +kernel
theorem dX12_ends_67 : decode cX12_ends 67 = .ok (.if_icmp .ne 21, 3) := by decide +kernel
theorem dX12_ends_70 : decode cX12_ends 70 = .ok (.aload_n 0, 1) := by decide +kernel
theorem dX12_ends_71 : decode cX12_ends 71 = .ok (.iload 4, 2) := by decide +kernel
theorem dX12_ends_73 : decode cX12_ends 73 = .ok (.bipush 10, 2) := by decide +kernel
theorem dX12_ends_75 : decode cX12_ends 75 = .ok (.idiv, 1) := by decide +kernel
theorem dX12_ends_76 : decode cX12_ends 76 = .ok (.iload 4, 2) := by decide +kernel
theorem dX12_ends_78 : decode cX12_ends 78 = .ok (.bipush 10, 2) := by decide +kernel
theorem dX12_ends_80 : decode cX12_ends 80 = .ok (.irem, 1) := by decide +kernel
theorem dX12_ends_81 : decode cX12_ends 81 = .ok (.invokevirtual 130, 3) := by decide +kernel
theorem dX12_ends_84 : decode cX12_ends 84 = .ok (.pop, 1) := by decide +kernel
theorem dX12_ends_85 : decode cX12_ends 85 = .ok (.goto 29, 3) := by decide +kernel
theorem dX12_ends_88 : decode cX12_ends 88 = .ok (.iload_n 3, 1) := by decide +kernel
theorem dX12_ends_89 : decode cX12_ends 89 = .ok (.iconst 2, 1) := by decide +kernel
theorem dX12_ends_90 : decode cX12_ends 90 = .ok (.if_icmp .ne 12, 3) := by decide +kernel
theorem dX12_ends_93 : decode cX12_ends 93 = .ok (.aload_n 0, 1) := by decide +kernel
theorem dX12_ends_94 : decode cX12_ends 94 = .ok (.iload 4, 2) := by decide +kernel
theorem dX12_ends_96 : decode cX12_ends 96 = .ok (.invokevirtual 133, 3) := by decide +kernel
theorem dX12_ends_99 : decode cX12_ends 99 = .ok (.goto 15, 3) := by decide +kernel
theorem dX12_ends_102 : decode cX12_ends 102 = .ok (.aload_n 0, 1) := by decide +kernel
theorem dX12_ends_103 : decode cX12_ends 103 = .ok (.getfield 15, 3) := by decide +kernel
theorem dX12_ends_106 : decode cX12_ends 106 = .ok (.iconst 4, 1) := by decide +kernel
theorem dX12_ends_107 : decode cX12_ends 107 = .ok (.iload 4, 2) := by decide +kernel
theorem dX12_ends_109 : decode cX12_ends 109 = .ok (.imul, 1) := by decide +kernel
theorem dX12_ends_110 : decode cX12_ends 110 = .ok (.iconst 3, 1) := by decide +kernel
theorem dX12_ends_111 : decode cX12_ends 111 = .ok (.iadd, 1) := by decide +kernel
theorem dX12_ends_112 : decode cX12_ends 112 = .ok (.iconst 1, 1) := by decide +kernel
theorem dX12_ends_113 : decode cX12_ends 113 = .ok (.iastore, 1) := by decide +kernel
theorem dX12_ends_114 : decode cX12_ends 114 = .ok (.iinc 2 1, 3) := by decide +kernel
theorem dX12_ends_117 : decode cX12_ends 117 = .ok (.goto (-99), 3) := by decide +kernel
theorem dX12_ends_120 : decode cX12_ends 120 = .ok (.iload_n 1, 1) := by decide +kernel
theorem dX12_ends_121 : decode cX12_ends 121 = .ok (.ifCond .ne 10, 3) := by decide +kernel
theorem dX12_ends_124 : decode cX12_ends 124 = .ok (.aload_n 0, 1) := by decide +kernel
theorem dX12_ends_125 : decode cX12_ends 125 = .ok (.invokevirtual 223, 3) := by decide +kernel
theorem dX12_ends_128 : decode cX12_ends 128 = .ok (.goto 7, 3) := by decide +kernel
theorem dX12_ends_131 : decode cX12_ends 131 = .ok (.aload_n 0, 1) := by decide +kernel
theorem dX12_ends_132 : decode cX12_ends 132 = .ok (.invokevirtual 205, 3) := by decide +kernel
theorem dX12_ends_135 : decode cX12_ends 135 = .ok (.istore_n 2, 1) := by decide +kernel
theorem dX12_ends_136 : decode cX12_ends 136 = .ok (.aload_n 0, 1) := by decide +kernel
theorem dX12_ends_137 : decode cX12_ends 137 = .ok (.iconst 0, 1) := by decide +kernel
theorem dX12_ends_138 : decode cX12_ends 138 = .ok (.invokevirtual 220, 3) := by decide +kernel
theorem dX12_ends_141 : decode cX12_ends 141 = .ok (.iload_n 2, 1) := by decide +kernel
theorem dX12_ends_142 : decode cX12_ends 142 = .ok (.ireturn, 1) := by decide +kernel
set_option maxRecDepth 20000 in
theorem ggX12_ends_X12_isIn : GoodIn wsX12_ends wsX12_isIn := goodIn_r _ [5] (by decide +kernel) (by decide +kernel)
set_option maxRecDepth 20000 in
theorem gX12_ends_X12_isIn : GoodIn wsX12_ends (va_wsS RX12 85 yX12_isIn wsX12_isIn) := goodIn_app (goodIn_of _ (by decide +kernel)) ggX12_ends_X12_isIn
set_option maxRecDepth 20000 in
theorem ggX12_ends_X12_keep : GoodIn wsX12_ends wsX12_keep := goodIn_r _ [9, 10, 1, 129, 130, 131, 132, 133, 134, 135, 136, 137, 138, 139, 140, 141, 142, 143, 144, 145, 146, 147, 148, 149, 150, 151, 152, 153, 154, 155, 156, 157, 158, 159, 160] (by decide +kernel) (by decide +kernel)
set_option maxRecDepth 20000 in
theorem gX12_ends_X12_keep : GoodIn wsX12_ends (wsV RX12 217 RX12 yX12_keep wsX12_keep) := goodIn_app (goodIn_of _ (by decide +kernel)) ggX12_ends_X12_keep
set_option maxRecDepth 20000 in
theorem ggX12_ends_X12_sunday : GoodIn wsX12_ends wsX12_sunday := goodIn_r _ [14, 1, 15, 16, 17, 4, 18, 19, 20, 21, 22, 23, 24, 25, 26, 27, 28, 29, 30, 31, 32, 33, 34, 35, 36, 37, 38, 39, 40, 41, 42, 43, 44, 45, 46, 47, 48, 49, 50, 51, 52, 53, 54, 55, 56, 57, 58, 59, 60, 61, 62, 63, 64, 65, 66, 67, 68, 69, 70, 71, 72, 73, 74, 75, 76, 77, 78, 79, 80, 81, 82, 83, 84, 85, 86, 87, 88, 89, 90, 91, 92, 93, 94, 95, 96, 97, 98, 99, 100, 101, 102, 103, 104, 105, 106, 107, 108, 109, 110, 111, 112, 113, 114, 115, 116, 129, 130, 131, 132, 133, 134, 135, 136, 137, 138, 139, 140, 141, 142, 143, 144, 145, 146, 147, 148, 149, 150, 151, 152, 153, 154, 155, 156, 157, 158, 159, 160] (by decide +kernel) (by decide +kernel)
set_option maxRecDepth 20000 in
theorem gX12_ends_X12_sunday : GoodIn wsX12_ends (wsV RX12 214 RX12 yX12_sunday wsX12_sunday) := goodIn_app (goodIn_of _ (by decide +kernel)) ggX12_ends_X12_sunday
set_option maxRecDepth 20000 in
theorem ggX12_ends_X12_goesTo : GoodIn wsX12_ends wsX12_goesTo := goodIn_r _ [22, 1, 23, 24, 25, 4, 26, 27, 28, 29, 30, 31, 32, 33, 34, 35, 36, 37, 38, 39, 40, 41, 42, 43, 44, 45, 46, 15, 16, 17, 18, 47, 48, 49, 50, 51, 52, 53, 54, 55, 56, 57, 58, 59, 60, 61, 62, 63, 64, 65, 66, 67, 68, 69, 70, 71, 72, 73, 74, 75, 76, 77, 78, 79, 80, 81, 82, 83, 84, 85, 86, 87, 88, 89, 90, 91, 92, 93, 94, 95, 96, 97, 98, 99, 100, 101, 102, 103, 104, 105, 106, 107, 108, 129, 130, 131, 132, 133, 134, 135, 136, 137, 138, 139, 140, 141, 142, 143, 144, 145, 146, 147, 148, 149, 150, 151, 152, 153, 154, 155, 156, 157, 158, 159, 160] (by decide +kernel) (by decide +kernel)
set_option maxRecDepth 20000 in
theorem gX12_ends_X12_goesTo : GoodIn wsX12_ends (wsV RX12 130 RX12 yX12_goesTo wsX12_goesTo) := goodIn_app (goodIn_of _ (by decide +kernel)) ggX12_ends_X12_goesTo
set_option maxRecDepth 20000 in
theorem ggX12_ends_X12_forgets : GoodIn wsX12_ends wsX12_forgets := goodIn_r _ [120, 1, 129, 130, 131, 132, 133, 134, 135, 136, 137, 138, 139, 140, 141, 142, 143, 144, 145, 146, 147, 148, 149, 150, 151, 152, 153, 154, 155, 156, 157, 158, 159, 160] (by decide +kernel) (by decide +kernel)
set_option maxRecDepth 20000 in
theorem gX12_ends_X12_forgets : GoodIn wsX12_ends (wsV RX12 133 RX12 yX12_forgets wsX12_forgets) := goodIn_app (goodIn_of _ (by decide +kernel)) ggX12_ends_X12_forgets
set_option maxRecDepth 20000 in
theorem ggX12_ends_X12_howMany : GoodIn wsX12_ends wsX12_howMany := goodIn_r _ [124, 1, 47, 48, 49, 4, 50, 129, 130, 131, 132, 133, 134, 135, 136, 137, 138, 139, 140, 141, 142, 143, 144, 145, 146, 147, 148, 149, 150, 151, 152, 153, 154, 155, 156, 157, 158, 159, 160] (by decide +kernel) (by decide +kernel)
set_option maxRecDepth 20000 in
theorem gX12_ends_X12_howMany : GoodIn wsX12_ends (wsV RX12 223 RX12 yX12_howMany wsX12_howMany) := goodIn_app (goodIn_of _ (by decide +kernel)) ggX12_ends_X12_howMany
set_option maxRecDepth 20000 in
theorem ggX12_ends_X12_used : GoodIn wsX12_ends wsX12_used := goodIn_r _ [100, 1, 47, 48, 49, 4, 50, 129, 130, 131, 132, 133, 134, 135, 136, 137, 138, 139, 140, 141, 142, 143, 144, 145, 146, 147, 148, 149, 150, 151, 152, 153, 154, 155, 156, 157, 158, 159, 160] (by decide +kernel) (by decide +kernel)
set_option maxRecDepth 20000 in
theorem gX12_ends_X12_used : GoodIn wsX12_ends (wsV RX12 205 RX12 yX12_used wsX12_used) := goodIn_app (goodIn_of _ (by decide +kernel)) ggX12_ends_X12_used
set_option maxRecDepth 20000 in
theorem ggX12_ends_X12_lay : GoodIn wsX12_ends wsX12_lay := goodIn_r _ [128, 1, 10, 129, 130, 131, 132, 133, 134, 135, 136, 137, 138, 139, 140, 141, 142, 143, 144, 145, 146, 147, 148, 149, 150, 151, 152, 153, 154, 155, 156, 157, 158, 159, 160] (by decide +kernel) (by decide +kernel)
set_option maxRecDepth 20000 in
theorem gX12_ends_X12_lay : GoodIn wsX12_ends (wsV RX12 220 RX12 yX12_lay wsX12_lay) := goodIn_app (goodIn_of _ (by decide +kernel)) ggX12_ends_X12_lay
def fX12_ends_135  (a1 : Int32) (y0 : Int32) (g : c_G) : Option (c_G × Int32) :=
  (fX12_lay g ((0 : Int32))).bind fun g135002 => some (g135002, y0)
set_option maxRecDepth 100000 in
set_option maxHeartbeats 4000000 in
theorem jX12_ends_135 {p : Program} {l : Launch} {e : Env} {s : State} {m : MethodId} {below : List Frame} {meth : Method} {c : Code} {D : va_G} {tc : Nat → ClassId} {ad : Nat → Nat} {A : Nat → Prop} {E : (Nat → Nat) × (Nat → Nat) × Nat} {a1 : Int32} {g' : c_G} {r : Int32} (C : c_C p s m meth c D tc A E RX12 wsX12_ends cX12_ends 5 (some .int) ([.ref (ad 0), .int a1] : List Value).toArray) (hD : c_D A ad TM)  : ∀ (y0 : Int32) (g : c_G), fX12_ends_135 a1 y0 g = some (g', r) → ∀ (H : Heap) (locs : List Loc), va_P D vwCl (c_ws tc ad TM g) H → va_S A s.heap H locs → ∀ ls : Array Slot, lv_has ls 5 [(0, .ref (ad 0))] → W p l e (c_rm 52) s m ([.ref (ad 0), .int a1] : List Value).toArray below meth c H locs 0 0 (MQ below (va_Qi (fun (x : Int32) (_ : Unit) => x = r) (fun _ t => va_P D vwCl (c_ws tc ad TM g') t.heap) A) ([.ref (ad 0), .int a1] : List Value).toArray s 0 0 A) (F0 m 135 ls [.int y0]) := by
  obtain ⟨hx, hb, hr, hml, hts, hown, hlk, hK, hE⟩ := id C
  intro y0 g hf H locs hP hS ls hl
  unfold fX12_ends_135 at hf
  refine lv_istore_n (lv' := [(2, .int y0), (0, .ref (ad 0))]) hx hb dX12_ends_135 rfl hl (by decide) rfl (fun ls hl => ?_)
  refine lv_aload_n hx hb dX12_ends_136 rfl (lv_at hl 1 rfl) ?_
  refine lv_iconst (v := (0 : Int32)) hx hb dX12_ends_137 (by decide) ?_
  obtain ⟨g135002, hc135001, hf⟩ := c_bd hf
  refine c_gov (va_runV (As := [.int (0 : Int32)]) (rest := []) ⟨hx, hb, hml, hown, hts⟩ (kX12_lay hD hc135001) (cwV 1 hts gX12_ends_X12_lay rfl rfl rfl (by decide +kernel) ⟨Nat.le_of_ble_eq_true rfl, Nat.le_of_ble_eq_true rfl⟩) (c_preV hK hP hE hS tM0 rfl) rfl rfl hl.1 rfl (lv_room (Nat.le_of_ble_eq_true rfl)) dX12_ends_138 ⟨Nat.zero_le _, Nat.zero_le _⟩) hS (fun H locs hP hS => ?_)
  refine lv_iload_n hx hb dX12_ends_141 rfl (lv_at hl 0 rfl) ?_
  exact c_iret hx hb hr hlk hP hS rfl (c_inj hf) dX12_ends_142
def fX12_ends_114 (rec18 : Int32 → Int32 → c_G → Option (c_G × Int32)) (a1 : Int32) (x1 : Int32) (x2 : Int32) (g : c_G) : Option (c_G × Int32) :=
  c_let (x2 + (1 : Int32)) fun v114001 => rec18 x1 v114001 g
set_option maxRecDepth 100000 in
set_option maxHeartbeats 4000000 in
theorem jX12_ends_114 {p : Program} {l : Launch} {e : Env} {s : State} {m : MethodId} {below : List Frame} {meth : Method} {c : Code} {D : va_G} {tc : Nat → ClassId} {ad : Nat → Nat} {A : Nat → Prop} {E : (Nat → Nat) × (Nat → Nat) × Nat} {a1 : Int32} {g' : c_G} {r : Int32} (C : c_C p s m meth c D tc A E RX12 wsX12_ends cX12_ends 5 (some .int) ([.ref (ad 0), .int a1] : List Value).toArray) (hD : c_D A ad TM) {rec18 : Int32 → Int32 → c_G → Option (c_G × Int32)} (hrec18 : ∀ (x1 : Int32) (x2 : Int32) (g : c_G), rec18 x1 x2 g = some (g', r) → ∀ (H : Heap) (locs : List Loc), va_P D vwCl (c_ws tc ad TM g) H → va_S A s.heap H locs → ∀ ls : Array Slot, lv_has ls 5 [(0, .ref (ad 0)), (1, .int x1), (2, .int x2)] → W p l e (c_rm 52) s m ([.ref (ad 0), .int a1] : List Value).toArray below meth c H locs 0 0 (MQ below (va_Qi (fun (x : Int32) (_ : Unit) => x = r) (fun _ t => va_P D vwCl (c_ws tc ad TM g') t.heap) A) ([.ref (ad 0), .int a1] : List Value).toArray s 0 0 A) (F0 m 18 ls [])) : ∀ (x1 : Int32) (x2 : Int32) (g : c_G), fX12_ends_114 rec18 a1 x1 x2 g = some (g', r) → ∀ (H : Heap) (locs : List Loc), va_P D vwCl (c_ws tc ad TM g) H → va_S A s.heap H locs → ∀ ls : Array Slot, lv_has ls 5 [(0, .ref (ad 0)), (1, .int x1), (2, .int x2)] → W p l e (c_rm 52) s m ([.ref (ad 0), .int a1] : List Value).toArray below meth c H locs 0 0 (MQ below (va_Qi (fun (x : Int32) (_ : Unit) => x = r) (fun _ t => va_P D vwCl (c_ws tc ad TM g') t.heap) A) ([.ref (ad 0), .int a1] : List Value).toArray s 0 0 A) (F0 m 114 ls []) := by
  obtain ⟨hx, hb, hr, hml, hts, hown, hlk, hK, hE⟩ := id C
  intro x1 x2 g hf H locs hP hS ls hl
  unfold fX12_ends_114 at hf
  obtain ⟨v114001, ev114001, hf⟩ := c_letE hf
  refine lv_iinc (v := v114001) (lv' := [(2, .int v114001), (0, .ref (ad 0)), (1, .int x1)]) hx hb dX12_ends_114 hl (k := 2) rfl (by rw [ev114001]; rfl) (by decide) rfl (fun ls hl => ?_)
  refine lv_goto (tgt := 18) hx hb dX12_ends_117 (by decide) ?_
  exact hrec18 x1 v114001 g hf _ _ hP hS _ (lv_sub hl [1, 2, 0] rfl)
def fX12_ends_18  (a1 : Int32) : Nat → Int32 → Int32 → c_G → Option (c_G × Int32)
  | 0, _, _, _ => none
  | n + 1, x1, x2, g => if (g.1 1 98) ≤ x2 then (if x1 = 0 then ((fX12_howMany g).bind fun r18005 => fX12_ends_135 a1 r18005 g) else ((fX12_used g).bind fun r18003 => fX12_ends_135 a1 r18003 g)) else (if c_in (((99 : Int32) + ((2 : Int32) * x2))) (136) = true then if c_in (((100 : Int32) + ((2 : Int32) * x2))) (136) = true then if (g.1 1 (((99 : Int32) + ((2 : Int32) * x2))).toNatClampNeg) = 0 then ((fX12_sunday g).bind fun g18020 => fX12_ends_114 (fX12_ends_18 a1 n) a1 x1 x2 g18020) else (if (g.1 1 (((99 : Int32) + ((2 : Int32) * x2))).toNatClampNeg) = (1 : Int32) then (c_b2 (fX12_goesTo g (((g.1 1 (((100 : Int32) + ((2 : Int32) * x2))).toNatClampNeg) / (10 : Int32))) (((g.1 1 (((100 : Int32) + ((2 : Int32) * x2))).toNatClampNeg) - (g.1 1 (((100 : Int32) + ((2 : Int32) * x2))).toNatClampNeg) / (10 : Int32) * (10 : Int32)))) fun g18017 r18018 => fX12_ends_114 (fX12_ends_18 a1 n) a1 x1 x2 g18017) else (if (g.1 1 (((99 : Int32) + ((2 : Int32) * x2))).toNatClampNeg) = (2 : Int32) then ((fX12_forgets g ((g.1 1 (((100 : Int32) + ((2 : Int32) * x2))).toNatClampNeg))).bind fun g18015 => fX12_ends_114 (fX12_ends_18 a1 n) a1 x1 x2 g18015) else (if c_in ((((4 : Int32) * (g.1 1 (((100 : Int32) + ((2 : Int32) * x2))).toNatClampNeg)) + (3 : Int32))) (136) = true then c_let (c_si g 1 ((((4 : Int32) * (g.1 1 (((100 : Int32) + ((2 : Int32) * x2))).toNatClampNeg)) + (3 : Int32))).toNatClampNeg (1 : Int32)) fun g18013 => fX12_ends_114 (fX12_ends_18 a1 n) a1 x1 x2 g18013 else none))) else none else none)
set_option maxRecDepth 100000 in
set_option maxHeartbeats 4000000 in
theorem jX12_ends_18 {p : Program} {l : Launch} {e : Env} {s : State} {m : MethodId} {below : List Frame} {meth : Method} {c : Code} {D : va_G} {tc : Nat → ClassId} {ad : Nat → Nat} {A : Nat → Prop} {E : (Nat → Nat) × (Nat → Nat) × Nat} {a1 : Int32} {g' : c_G} {r : Int32} (C : c_C p s m meth c D tc A E RX12 wsX12_ends cX12_ends 5 (some .int) ([.ref (ad 0), .int a1] : List Value).toArray) (hD : c_D A ad TM)  : ∀ (n : Nat) (x1 : Int32) (x2 : Int32) (g : c_G), fX12_ends_18 a1 n x1 x2 g = some (g', r) → ∀ (H : Heap) (locs : List Loc), va_P D vwCl (c_ws tc ad TM g) H → va_S A s.heap H locs → ∀ ls : Array Slot, lv_has ls 5 [(0, .ref (ad 0)), (1, .int x1), (2, .int x2)] → W p l e (c_rm 52) s m ([.ref (ad 0), .int a1] : List Value).toArray below meth c H locs 0 0 (MQ below (va_Qi (fun (x : Int32) (_ : Unit) => x = r) (fun _ t => va_P D vwCl (c_ws tc ad TM g') t.heap) A) ([.ref (ad 0), .int a1] : List Value).toArray s 0 0 A) (F0 m 18 ls []) := by
  obtain ⟨hx, hb, hr, hml, hts, hown, hlk, hK, hE⟩ := id C
  intro n
  induction n with
  | zero =>
    intro x1 x2 g hf
    cases hf
  | succ n ih =>
    intro x1 x2 g hf H locs hP hS ls hl
    unfold fX12_ends_18 at hf
    refine lv_iload_n hx hb dX12_ends_18 rfl (lv_at hl 2 rfl) ?_
    refine lv_aload_n hx hb dX12_ends_19 rfl (lv_at hl 0 rfl) ?_
    refine c_get hx hb hts i_X12_ends_X12 hown hK hP 0 tM0 rfl 0 (by decide) (hts _ (List.mem_of_getElem? (i := 1) rfl)) (fun _ h9 => h9) rfl (v := .ref (ad 1)) rfl dX12_ends_20 ?_
    refine lv_bipush (v := (98 : Int32)) hx hb dX12_ends_23 (by decide) ?_
    refine c_iald (j := 98) hx hb hK hP 1 tM1 (by decide) (c_inV (by decide)) dX12_ends_25 ?_
    refine lv_icmp_ge (tgt := 120) hx hb dX12_ends_26 (by decide) (fun c18001 => ?_) (fun c18001 => ?_)
    · have hf := c_it c18001 hf
      refine lv_iload_n hx hb dX12_ends_120 rfl (lv_at hl 1 rfl) ?_
      refine lv_if_ne (tgt := 131) hx hb dX12_ends_121 (by decide) (fun c18002 => ?_) (fun c18002 => ?_)
      · have hf := c_ie c18002 hf
        refine lv_aload_n hx hb dX12_ends_131 rfl (lv_at hl 0 rfl) ?_
        obtain ⟨r18003, hc18004, hf⟩ := c_bd hf
        refine c_goi (va_runV (As := []) (rest := []) ⟨hx, hb, hml, hown, hts⟩ (kX12_used hD hc18004) (cwV 0 hts gX12_ends_X12_used rfl rfl rfl (by decide +kernel) ⟨Nat.le_of_ble_eq_true rfl, Nat.le_of_ble_eq_true rfl⟩) (c_preV hK hP hE hS tM0 rfl) rfl rfl hl.1 rfl (lv_room (Nat.le_of_ble_eq_true rfl)) dX12_ends_132 ⟨Nat.zero_le _, Nat.zero_le _⟩) hS (fun H locs hP hS => ?_)
        exact jX12_ends_135 C hD r18003 g hf _ _ hP hS _ (lv_sub hl [0] rfl)
      · have hf := c_it c18002 hf
        refine lv_aload_n hx hb dX12_ends_124 rfl (lv_at hl 0 rfl) ?_
        obtain ⟨r18005, hc18006, hf⟩ := c_bd hf
        refine c_goi (va_runV (As := []) (rest := []) ⟨hx, hb, hml, hown, hts⟩ (kX12_howMany hD hc18006) (cwV 0 hts gX12_ends_X12_howMany rfl rfl rfl (by decide +kernel) ⟨Nat.le_of_ble_eq_true rfl, Nat.le_of_ble_eq_true rfl⟩) (c_preV hK hP hE hS tM0 rfl) rfl rfl hl.1 rfl (lv_room (Nat.le_of_ble_eq_true rfl)) dX12_ends_125 ⟨Nat.zero_le _, Nat.zero_le _⟩) hS (fun H locs hP hS => ?_)
        refine lv_goto (tgt := 135) hx hb dX12_ends_128 (by decide) ?_
        exact jX12_ends_135 C hD r18005 g hf _ _ hP hS _ (lv_sub hl [0] rfl)
    · have hf := c_ie c18001 hf
      refine lv_aload_n hx hb dX12_ends_29 rfl (lv_at hl 0 rfl) ?_
      refine c_get hx hb hts i_X12_ends_X12 hown hK hP 0 tM0 rfl 0 (by decide) (hts _ (List.mem_of_getElem? (i := 1) rfl)) (fun _ h9 => h9) rfl (v := .ref (ad 1)) rfl dX12_ends_30 ?_
      refine lv_bipush (v := (99 : Int32)) hx hb dX12_ends_33 (by decide) ?_
      refine lv_iconst (v := (2 : Int32)) hx hb dX12_ends_35 (by decide) ?_
      refine lv_iload_n hx hb dX12_ends_36 rfl (lv_at hl 2 rfl) ?_
      refine lv_imul hx hb dX12_ends_37 ?_
      refine lv_iadd hx hb dX12_ends_38 ?_
      obtain ⟨hi18007, hf⟩ := c_gd hf
      refine c_iald (j := (((99 : Int32) + ((2 : Int32) * x2))).toNatClampNeg) hx hb hK hP 1 tM1 rfl (c_inV hi18007) dX12_ends_39 ?_
      refine lv_istore_n (lv' := [(3, .int (g.1 1 (((99 : Int32) + ((2 : Int32) * x2))).toNatClampNeg)), (0, .ref (ad 0)), (1, .int x1), (2, .int x2)]) hx hb dX12_ends_40 rfl hl (by decide) rfl (fun ls hl => ?_)
      refine lv_aload_n hx hb dX12_ends_41 rfl (lv_at hl 1 rfl) ?_
      refine c_get hx hb hts i_X12_ends_X12 hown hK hP 0 tM0 rfl 0 (by decide) (hts _ (List.mem_of_getElem? (i := 1) rfl)) (fun _ h9 => h9) rfl (v := .ref (ad 1)) rfl dX12_ends_42 ?_
      refine lv_bipush (v := (100 : Int32)) hx hb dX12_ends_45 (by decide) ?_
      refine lv_iconst (v := (2 : Int32)) hx hb dX12_ends_47 (by decide) ?_
      refine lv_iload_n hx hb dX12_ends_48 rfl (lv_at hl 3 rfl) ?_
      refine lv_imul hx hb dX12_ends_49 ?_
      refine lv_iadd hx hb dX12_ends_50 ?_
      obtain ⟨hi18008, hf⟩ := c_gd hf
      refine c_iald (j := (((100 : Int32) + ((2 : Int32) * x2))).toNatClampNeg) hx hb hK hP 1 tM1 rfl (c_inV hi18008) dX12_ends_51 ?_
      refine lv_istore (lv' := [(4, .int (g.1 1 (((100 : Int32) + ((2 : Int32) * x2))).toNatClampNeg)), (3, .int (g.1 1 (((99 : Int32) + ((2 : Int32) * x2))).toNatClampNeg)), (0, .ref (ad 0)), (1, .int x1), (2, .int x2)]) hx hb dX12_ends_52 hl (by decide) rfl (fun ls hl => ?_)
      refine lv_iload_n hx hb dX12_ends_54 rfl (lv_at hl 1 rfl) ?_
      refine lv_if_ne (tgt := 65) hx hb dX12_ends_55 (by decide) (fun c18009 => ?_) (fun c18009 => ?_)
      · have hf := c_ie c18009 hf
        refine lv_iload_n hx hb dX12_ends_65 rfl (lv_at hl 1 rfl) ?_
        refine lv_iconst (v := (1 : Int32)) hx hb dX12_ends_66 (by decide) ?_
        refine lv_icmp_ne (tgt := 88) hx hb dX12_ends_67 (by decide) (fun c18010 => ?_) (fun c18010 => ?_)
        · have hf := c_ie c18010 hf
          refine lv_iload_n hx hb dX12_ends_88 rfl (lv_at hl 1 rfl) ?_
          refine lv_iconst (v := (2 : Int32)) hx hb dX12_ends_89 (by decide) ?_
          refine lv_icmp_ne (tgt := 102) hx hb dX12_ends_90 (by decide) (fun c18011 => ?_) (fun c18011 => ?_)
          · have hf := c_ie c18011 hf
            refine lv_aload_n hx hb dX12_ends_102 rfl (lv_at hl 2 rfl) ?_
            refine c_get hx hb hts i_X12_ends_X12 hown hK hP 0 tM0 rfl 0 (by decide) (hts _ (List.mem_of_getElem? (i := 1) rfl)) (fun _ h9 => h9) rfl (v := .ref (ad 1)) rfl dX12_ends_103 ?_
            refine lv_iconst (v := (4 : Int32)) hx hb dX12_ends_106 (by decide) ?_
            refine lv_iload hx hb dX12_ends_107 (lv_at hl 0 rfl) ?_
            refine lv_imul hx hb dX12_ends_109 ?_
            refine lv_iconst (v := (3 : Int32)) hx hb dX12_ends_110 (by decide) ?_
            refine lv_iadd hx hb dX12_ends_111 ?_
            refine lv_iconst (v := (1 : Int32)) hx hb dX12_ends_112 (by decide) ?_
            obtain ⟨hi18012, hf⟩ := c_gd hf
            obtain ⟨g18013, eg18013, hf⟩ := c_letE hf
            refine c_iast (j := ((((4 : Int32) * (g.1 1 (((100 : Int32) + ((2 : Int32) * x2))).toNatClampNeg)) + (3 : Int32))).toNatClampNeg) hx hb hK hP hD hS 1 tM1 rfl (c_inV hi18012) eg18013 dX12_ends_113 (fun H locs hP hS => ?_)
            exact jX12_ends_114 C hD ih x1 x2 g18013 hf _ _ hP hS _ (lv_sub hl [2, 3, 4] rfl)
          · have hf := c_it c18011 hf
            refine lv_aload_n hx hb dX12_ends_93 rfl (lv_at hl 2 rfl) ?_
            refine lv_iload hx hb dX12_ends_94 (lv_at hl 0 rfl) ?_
            obtain ⟨g18015, hc18014, hf⟩ := c_bd hf
            refine c_gov (va_runV (As := [.int (g.1 1 (((100 : Int32) + ((2 : Int32) * x2))).toNatClampNeg)]) (rest := []) ⟨hx, hb, hml, hown, hts⟩ (kX12_forgets hD hc18014) (cwV 1 hts gX12_ends_X12_forgets rfl rfl rfl (by decide +kernel) ⟨Nat.le_of_ble_eq_true rfl, Nat.le_of_ble_eq_true rfl⟩) (c_preV hK hP hE hS tM0 rfl) rfl rfl hl.1 rfl (lv_room (Nat.le_of_ble_eq_true rfl)) dX12_ends_96 ⟨Nat.zero_le _, Nat.zero_le _⟩) hS (fun H locs hP hS => ?_)
            refine lv_goto (tgt := 114) hx hb dX12_ends_99 (by decide) ?_
            exact jX12_ends_114 C hD ih x1 x2 g18015 hf _ _ hP hS _ (lv_sub hl [2, 3, 4] rfl)
        · have hf := c_it c18010 hf
          refine lv_aload_n hx hb dX12_ends_70 rfl (lv_at hl 2 rfl) ?_
          refine lv_iload hx hb dX12_ends_71 (lv_at hl 0 rfl) ?_
          refine lv_bipush (v := (10 : Int32)) hx hb dX12_ends_73 (by decide) ?_
          refine lv_idiv hx hb dX12_ends_75 (by decide) ?_
          refine lv_iload hx hb dX12_ends_76 (lv_at hl 0 rfl) ?_
          refine lv_bipush (v := (10 : Int32)) hx hb dX12_ends_78 (by decide) ?_
          refine lv_irem hx hb dX12_ends_80 (by decide) ?_
          obtain ⟨g18017, r18018, hc18016, hf⟩ := c_b2E hf
          refine c_goi (va_runV (As := [.int ((g.1 1 (((100 : Int32) + ((2 : Int32) * x2))).toNatClampNeg) / (10 : Int32)), .int ((g.1 1 (((100 : Int32) + ((2 : Int32) * x2))).toNatClampNeg) - (g.1 1 (((100 : Int32) + ((2 : Int32) * x2))).toNatClampNeg) / (10 : Int32) * (10 : Int32))]) (rest := []) ⟨hx, hb, hml, hown, hts⟩ (kX12_goesTo hD hc18016) (cwV 2 hts gX12_ends_X12_goesTo rfl rfl rfl (by decide +kernel) ⟨Nat.le_of_ble_eq_true rfl, Nat.le_of_ble_eq_true rfl⟩) (c_preV hK hP hE hS tM0 rfl) rfl rfl hl.1 rfl (lv_room (Nat.le_of_ble_eq_true rfl)) dX12_ends_81 ⟨Nat.zero_le _, Nat.zero_le _⟩) hS (fun H locs hP hS => ?_)
          refine lv_pop hx hb dX12_ends_84 rfl ?_
          refine lv_goto (tgt := 114) hx hb dX12_ends_85 (by decide) ?_
          exact jX12_ends_114 C hD ih x1 x2 g18017 hf _ _ hP hS _ (lv_sub hl [2, 3, 4] rfl)
      · have hf := c_it c18009 hf
        refine lv_aload_n hx hb dX12_ends_58 rfl (lv_at hl 2 rfl) ?_
        obtain ⟨g18020, hc18019, hf⟩ := c_bd hf
        refine c_gov (va_runV (As := []) (rest := []) ⟨hx, hb, hml, hown, hts⟩ (kX12_sunday hD hc18019) (cwV 0 hts gX12_ends_X12_sunday rfl rfl rfl (by decide +kernel) ⟨Nat.le_of_ble_eq_true rfl, Nat.le_of_ble_eq_true rfl⟩) (c_preV hK hP hE hS tM0 rfl) rfl rfl hl.1 rfl (lv_room (Nat.le_of_ble_eq_true rfl)) dX12_ends_59 ⟨Nat.zero_le _, Nat.zero_le _⟩) hS (fun H locs hP hS => ?_)
        refine lv_goto (tgt := 114) hx hb dX12_ends_62 (by decide) ?_
        exact jX12_ends_114 C hD ih x1 x2 g18020 hf _ _ hP hS _ (lv_sub hl [2, 3, 4] rfl)
def fX12_ends (g : c_G) (a1 : Int32) : Option (c_G × Int32) :=
  if (fX12_isIn a1 ((0 : Int32)) ((1 : Int32))) = 0 then (some (g, (-1 : Int32))) else ((fX12_keep g ((0 : Int32))).bind fun g3 => fX12_ends_18 a1 c_F a1 ((0 : Int32)) g3)
set_option maxRecDepth 100000 in
set_option maxHeartbeats 4000000 in
theorem kX12_ends {l : Launch} {D : va_G} {tc : Nat → ClassId} {ad : Nat → Nat} {A : Nat → Prop} {E : (Nat → Nat) × (Nat → Nat) × Nat} (hD : c_D A ad TM) {a1 : Int32} {g g' : c_G} {r : Int32} (hf : fX12_ends g a1 = some (g', r)) : c_Mi l yX12_ends wsX12_ends (c_rm 52) D tc ad A E TM ([.ref (ad 0), .int a1] : List Value) g g' r := by
  refine c_ofW (bytes := cX12_ends) (maxL := 5) (ret := (some .int)) (by decide) rfl (Nat.le_of_ble_eq_true rfl) ?_
  intro p e s m below meth c ls C hP hS hl
  unfold fX12_ends at hf
  obtain ⟨hx, hb, hr, hml, hts, hown, hlk, hK, hE⟩ := id C
  have hl : lv_has ls 5 [(0, .ref (ad 0)), (1, .int a1)] := hl
  refine lv_iload_n hx hb dX12_ends_0 rfl (lv_at hl 1 rfl) ?_
  refine lv_iconst (v := (0 : Int32)) hx hb dX12_ends_1 (by decide) ?_
  refine lv_iconst (v := (1 : Int32)) hx hb dX12_ends_2 (by decide) ?_
  refine c_goi (va_runS (As := [.int a1, .int (0 : Int32), .int (1 : Int32)]) (rest := []) ⟨hx, hb, hml, hown, hts⟩ (kX12_isIn (T := TM) (g := g) rfl) (va_cwS 3 hts gX12_ends_X12_isIn rfl rfl rfl (by decide +kernel) ⟨Nat.le_of_ble_eq_true rfl, Nat.le_of_ble_eq_true rfl⟩) (c_preS hK hP hE hS) rfl rfl hl.1 rfl (lv_room (Nat.le_of_ble_eq_true rfl)) dX12_ends_3 ⟨Nat.zero_le _, Nat.zero_le _⟩) hS (fun H locs hP hS => ?_)
  refine lv_if_ne (tgt := 11) hx hb dX12_ends_6 (by decide) (fun c1 => ?_) (fun c1 => ?_)
  · have hf := c_ie c1 hf
    refine lv_aload_n hx hb dX12_ends_11 rfl (lv_at hl 0 rfl) ?_
    refine lv_iconst (v := (0 : Int32)) hx hb dX12_ends_12 (by decide) ?_
    obtain ⟨g3, hc2, hf⟩ := c_bd hf
    refine c_gov (va_runV (As := [.int (0 : Int32)]) (rest := []) ⟨hx, hb, hml, hown, hts⟩ (kX12_keep hD hc2) (cwV 1 hts gX12_ends_X12_keep rfl rfl rfl (by decide +kernel) ⟨Nat.le_of_ble_eq_true rfl, Nat.le_of_ble_eq_true rfl⟩) (c_preV hK hP hE hS tM0 rfl) rfl rfl hl.1 rfl (lv_room (Nat.le_of_ble_eq_true rfl)) dX12_ends_13 ⟨Nat.zero_le _, Nat.zero_le _⟩) hS (fun H locs hP hS => ?_)
    refine lv_iconst (v := (0 : Int32)) hx hb dX12_ends_16 (by decide) ?_
    refine lv_istore_n (lv' := [(2, .int (0 : Int32)), (0, .ref (ad 0)), (1, .int a1)]) hx hb dX12_ends_17 rfl hl (by decide) rfl (fun ls hl => ?_)
    exact jX12_ends_18 C hD c_F a1 ((0 : Int32)) g3 hf _ _ hP hS _ (lv_sub hl [1, 2, 0] rfl)
  · have hf := c_it c1 hf
    refine lv_iconst (v := (-1 : Int32)) hx hb dX12_ends_9 (by decide) ?_
    exact c_iret hx hb hr hlk hP hS rfl (c_inj hf) dX12_ends_10
theorem i_X12_book_X12 : ∀ w ∈ u_ws RX12 TX12 32, w ∈ wsX12_book := c_inP [9, 10, 11, 12, 13, 14, 15, 16, 17, 18, 19, 20, 21, 22, 23, 24, 25, 26, 27, 28, 29, 30, 31, 32, 33, 34, 35, 36, 37, 38, 39, 40] (by decide +kernel)
theorem dX12_book_0 : decode cX12_book 0 = .ok (.iload_n 1, 1) := by decide +kernel
theorem dX12_book_1 : decode cX12_book 1 = .ok (.iconst (-1), 1) := by decide +kernel
theorem dX12_book_2 : decode cX12_book 2 = .ok (.if_icmp .ne 13, 3) := by decide +kernel
theorem dX12_book_5 : decode cX12_book 5 = .ok (.aload_n 0, 1) := by decide +kernel
theorem dX12_book_6 : decode cX12_book 6 = .ok (.getfield 15, 3) := by decide +kernel
theorem dX12_book_9 : decode cX12_book 9 = .ok (.bipush 119, 2) := by decide +kernel
theorem dX12_book_11 : decode cX12_book 11 = .ok (.iconst 0, 1) := by decide +kernel
theorem dX12_book_12 : decode cX12_book 12 = .ok (.iastore, 1) := by decide +kernel
theorem dX12_book_13 : decode cX12_book 13 = .ok (.iconst 0, 1) := by decide +kernel
theorem dX12_book_14 : decode cX12_book 14 = .ok (.ireturn, 1) := by decide +kernel
theorem dX12_book_15 : decode cX12_book 15 = .ok (.iload_n 1, 1) := by decide +kernel
theorem dX12_book_16 : decode cX12_book 16 = .ok (.invokestatic 112, 3) := by decide +kernel
theorem dX12_book_19 : decode cX12_book 19 = .ok (.ifCond .eq 13, 3) := by decide +kernel
theorem dX12_book_22 : decode cX12_book 22 = .ok (.iload_n 2, 1) := by decide +kernel
theorem dX12_book_23 : decode cX12_book 23 = .ok (.iconst (-1), 1) := by decide +kernel
theorem dX12_book_24 : decode cX12_book 24 = .ok (.bipush 11, 2) := by decide +kernel
theorem dX12_book_26 : decode cX12_book 26 = .ok (.invokestatic 85, 3) := by decide +kernel
theorem dX12_book_29 : decode cX12_book 29 = .ok (.ifCond .ne 5, 3) := by decide +kernel
theorem dX12_book_32 : decode cX12_book 32 = .ok (.iconst (-1), 1) := by decide +kernel
theorem dX12_book_33 : decode cX12_book 33 = .ok (.ireturn, 1) := by decide +kernel
theorem dX12_book_34 : decode cX12_book 34 = .ok (.aload_n 0, 1) := by decide +kernel
theorem dX12_book_35 : decode cX12_book 35 = .ok (.getfield 15, 3) := by decide +kernel
theorem dX12_book_38 : decode cX12_book 38 = .ok (.bipush 119, 2) := by decide +kernel
theorem dX12_book_40 : decode cX12_book 40 = .ok (.iaload, 1) := by decide +kernel
theorem dX12_book_41 : decode cX12_book 41 = .ok (.bipush 8, 2) := by decide +kernel
theorem dX12_book_43 : decode cX12_book 43 = .ok (.if_icmp .ne 6, 3) := by decide +kernel
theorem dX12_book_46 : decode cX12_book 46 = .ok (.bipush (-4), 2) := by decide +kernel
theorem dX12_book_48 : decode cX12_book 48 = .ok (.ireturn, 1) := by decide +kernel
theorem dX12_book_49 : decode cX12_book 49 = .ok (.aload_n 0, 1) := by decide +kernel
theorem dX12_book_50 : decode cX12_book 50 = .ok (.getfield 15, 3) := by decide +kernel
theorem dX12_book_53 : decode cX12_book 53 = .ok (.bipush 120, 2) := by decide +kernel
theorem dX12_book_55 : decode cX12_book 55 = .ok (.iconst 2, 1) := by decide +kernel
theorem dX12_book_56 : decode cX12_book 56 = .ok (.aload_n 0, 1) := by decide +kernel
theorem dX12_book_57 : decode cX12_book 57 = .ok (.getfield 15, 3) := by decide +kernel
theorem dX12_book_60 : decode cX12_book 60 = .ok (.bipush 119, 2) := by decide +kernel
theorem dX12_book_62 : decode cX12_book 62 = .ok (.iaload, 1) := by decide +kernel
theorem dX12_book_63 : decode cX12_book 63 = .ok (.imul, 1) := by decide +kernel
theorem dX12_book_64 : decode cX12_book 64 = .ok (.iadd, 1) := by decide +kernel
theorem dX12_book_65 : decode cX12_book 65 = .ok (.iload_n 1, 1) := by decide +kernel
theorem dX12_book_66 : decode cX12_book 66 = .ok (.iastore, 1) := by decide +kernel
theorem dX12_book_67 : decode cX12_book 67 = .ok (.aload_n 0, 1) := by decide +kernel
theorem dX12_book_68 : decode cX12_book 68 = .ok (.getfield 15, 3) := by decide +kernel
theorem dX12_book_71 : decode cX12_book 71 = .ok (.bipush 121, 2) := by decide +kernel
theorem dX12_book_73 : decode cX12_book 73 = .ok (.iconst 2, 1) := by decide +kernel
theorem dX12_book_74 : decode cX12_book 74 = .ok (.aload_n 0, 1) := by decide +kernel
theorem dX12_book_75 : decode cX12_book 75 = .ok (.getfield 15, 3) := by decide +kernel
theorem dX12_book_78 : decode cX12_book 78 = .ok (.bipush 119, 2) := by decide +kernel
theorem dX12_book_80 : decode cX12_book 80 = .ok (.iaload, 1) := by decide +kernel
theorem dX12_book_81 : decode cX12_book 81 = .ok (.imul, 1) := by decide +kernel
theorem dX12_book_82 : decode cX12_book 82 = .ok (.iadd, 1) := by decide +kernel
theorem dX12_book_83 : decode cX12_book 83 = .ok (.iload_n 2, 1) := by decide +kernel
theorem dX12_book_84 : decode cX12_book 84 = .ok (.iastore, 1) := by decide +kernel
theorem dX12_book_85 : decode cX12_book 85 = .ok (.aload_n 0, 1) := by decide +kernel
theorem dX12_book_86 : decode cX12_book 86 = .ok (.getfield 15, 3) := by decide +kernel
theorem dX12_book_89 : decode cX12_book 89 = .ok (.bipush 119, 2) := by decide +kernel
theorem dX12_book_91 : decode cX12_book 91 = .ok (.dup2, 1) := by decide +kernel
theorem dX12_book_92 : decode cX12_book 92 = .ok (.iaload, 1) := by decide +kernel
theorem dX12_book_93 : decode cX12_book 93 = .ok (.iconst 1, 1) := by decide +kernel
theorem dX12_book_94 : decode cX12_book 94 = .ok (.iadd, 1) := by decide +kernel
theorem dX12_book_95 : decode cX12_book 95 = .ok (.iastore, 1) := by decide +kernel
theorem dX12_book_96 : decode cX12_book 96 = .ok (.aload_n 0, 1) := by decide +kernel
theorem dX12_book_97 : decode cX12_book 97 = .ok (.getfield 15, 3) := by decide +kernel
theorem dX12_book_100 : decode cX12_book 100 = .ok (.bipush 119, 2) := by decide +kernel
theorem dX12_book_102 : decode cX12_book 102 = .ok (.iaload, 1) := by decide +kernel
theorem dX12_book_103 : decode cX12_book 103 = .ok (.ireturn, 1) := by decide +kernel
set_option maxRecDepth 20000 in
theorem ggX12_book_X12_isElder : GoodIn wsX12_book wsX12_isElder := goodIn_r _ [5, 6, 7, 4, 8] (by decide +kernel) (by decide +kernel)
set_option maxRecDepth 20000 in
theorem gX12_book_X12_isElder : GoodIn wsX12_book (va_wsS RX12 112 yX12_isElder wsX12_isElder) := goodIn_app (goodIn_of _ (by decide +kernel)) ggX12_book_X12_isElder
set_option maxRecDepth 20000 in
theorem ggX12_book_X12_isIn : GoodIn wsX12_book wsX12_isIn := goodIn_r _ [8] (by decide +kernel) (by decide +kernel)
set_option maxRecDepth 20000 in
theorem gX12_book_X12_isIn : GoodIn wsX12_book (va_wsS RX12 85 yX12_isIn wsX12_isIn) := goodIn_app (goodIn_of _ (by decide +kernel)) ggX12_book_X12_isIn
def fX12_book (g : c_G) (a1 : Int32) (a2 : Int32) : Option (c_G × Int32) :=
  if a1 = (-1 : Int32) then (c_let (c_si g 1 119 (0 : Int32)) fun g11 => some (g11, (0 : Int32))) else (if (fX12_isElder a1) = 0 then (some (g, (-1 : Int32))) else (if (fX12_isIn a2 ((-1 : Int32)) ((11 : Int32))) = 0 then (some (g, (-1 : Int32))) else (if (g.1 1 119) = (8 : Int32) then (some (g, (-4 : Int32))) else (if c_in (((120 : Int32) + ((2 : Int32) * (g.1 1 119)))) (136) = true then c_let (c_si g 1 (((120 : Int32) + ((2 : Int32) * (g.1 1 119)))).toNatClampNeg a1) fun g6 => if c_in (((121 : Int32) + ((2 : Int32) * (g6.1 1 119)))) (136) = true then c_let (c_si g6 1 (((121 : Int32) + ((2 : Int32) * (g6.1 1 119)))).toNatClampNeg a2) fun g8 => c_let (((g8.1 1 119) + (1 : Int32))) fun v9 => c_let (c_si g8 1 119 v9) fun g10 => some (g10, (g10.1 1 119)) else none else none))))
set_option maxRecDepth 100000 in
set_option maxHeartbeats 4000000 in
theorem kX12_book {l : Launch} {D : va_G} {tc : Nat → ClassId} {ad : Nat → Nat} {A : Nat → Prop} {E : (Nat → Nat) × (Nat → Nat) × Nat} (hD : c_D A ad TM) {a1 : Int32} {a2 : Int32} {g g' : c_G} {r : Int32} (hf : fX12_book g a1 a2 = some (g', r)) : c_Mi l yX12_book wsX12_book (c_rm 2) D tc ad A E TM ([.ref (ad 0), .int a1, .int a2] : List Value) g g' r := by
  refine c_ofW (bytes := cX12_book) (maxL := 3) (ret := (some .int)) (by decide) rfl (Nat.le_of_ble_eq_true rfl) ?_
  intro p e s m below meth c ls C hP hS hl
  unfold fX12_book at hf
  obtain ⟨hx, hb, hr, hml, hts, hown, hlk, hK, hE⟩ := id C
  have hl : lv_has ls 3 [(0, .ref (ad 0)), (1, .int a1), (2, .int a2)] := hl
  refine lv_iload_n hx hb dX12_book_0 rfl (lv_at hl 1 rfl) ?_
  refine lv_iconst (v := (-1 : Int32)) hx hb dX12_book_1 (by decide) ?_
  refine lv_icmp_ne (tgt := 15) hx hb dX12_book_2 (by decide) (fun c1 => ?_) (fun c1 => ?_)
  · have hf := c_ie c1 hf
    refine lv_iload_n hx hb dX12_book_15 rfl (lv_at hl 1 rfl) ?_
    refine c_goi (va_runS (As := [.int a1]) (rest := []) ⟨hx, hb, hml, hown, hts⟩ (kX12_isElder (T := TM) (g := g) rfl) (va_cwS 1 hts gX12_book_X12_isElder rfl rfl rfl (by decide +kernel) ⟨Nat.le_of_ble_eq_true rfl, Nat.le_of_ble_eq_true rfl⟩) (c_preS hK hP hE hS) rfl rfl hl.1 rfl (lv_room (Nat.le_of_ble_eq_true rfl)) dX12_book_16 ⟨Nat.zero_le _, Nat.zero_le _⟩) hS (fun H locs hP hS => ?_)
    refine lv_if_eq (tgt := 32) hx hb dX12_book_19 (by decide) (fun c2 => ?_) (fun c2 => ?_)
    · have hf := c_it c2 hf
      refine lv_iconst (v := (-1 : Int32)) hx hb dX12_book_32 (by decide) ?_
      exact c_iret hx hb hr hlk hP hS rfl (c_inj hf) dX12_book_33
    · have hf := c_ie c2 hf
      refine lv_iload_n hx hb dX12_book_22 rfl (lv_at hl 2 rfl) ?_
      refine lv_iconst (v := (-1 : Int32)) hx hb dX12_book_23 (by decide) ?_
      refine lv_bipush (v := (11 : Int32)) hx hb dX12_book_24 (by decide) ?_
      refine c_goi (va_runS (As := [.int a2, .int (-1 : Int32), .int (11 : Int32)]) (rest := []) ⟨hx, hb, hml, hown, hts⟩ (kX12_isIn (T := TM) (g := g) rfl) (va_cwS 3 hts gX12_book_X12_isIn rfl rfl rfl (by decide +kernel) ⟨Nat.le_of_ble_eq_true rfl, Nat.le_of_ble_eq_true rfl⟩) (c_preS hK hP hE hS) rfl rfl hl.1 rfl (lv_room (Nat.le_of_ble_eq_true rfl)) dX12_book_26 ⟨Nat.zero_le _, Nat.zero_le _⟩) hS (fun H locs hP hS => ?_)
      refine lv_if_ne (tgt := 34) hx hb dX12_book_29 (by decide) (fun c3 => ?_) (fun c3 => ?_)
      · have hf := c_ie c3 hf
        refine lv_aload_n hx hb dX12_book_34 rfl (lv_at hl 0 rfl) ?_
        refine c_get hx hb hts i_X12_book_X12 hown hK hP 0 tM0 rfl 0 (by decide) (hts _ (List.mem_of_getElem? (i := 1) rfl)) (fun _ h9 => h9) rfl (v := .ref (ad 1)) rfl dX12_book_35 ?_
        refine lv_bipush (v := (119 : Int32)) hx hb dX12_book_38 (by decide) ?_
        refine c_iald (j := 119) hx hb hK hP 1 tM1 (by decide) (c_inV (by decide)) dX12_book_40 ?_
        refine lv_bipush (v := (8 : Int32)) hx hb dX12_book_41 (by decide) ?_
        refine lv_icmp_ne (tgt := 49) hx hb dX12_book_43 (by decide) (fun c4 => ?_) (fun c4 => ?_)
        · have hf := c_ie c4 hf
          refine lv_aload_n hx hb dX12_book_49 rfl (lv_at hl 0 rfl) ?_
          refine c_get hx hb hts i_X12_book_X12 hown hK hP 0 tM0 rfl 0 (by decide) (hts _ (List.mem_of_getElem? (i := 1) rfl)) (fun _ h9 => h9) rfl (v := .ref (ad 1)) rfl dX12_book_50 ?_
          refine lv_bipush (v := (120 : Int32)) hx hb dX12_book_53 (by decide) ?_
          refine lv_iconst (v := (2 : Int32)) hx hb dX12_book_55 (by decide) ?_
          refine lv_aload_n hx hb dX12_book_56 rfl (lv_at hl 0 rfl) ?_
          refine c_get hx hb hts i_X12_book_X12 hown hK hP 0 tM0 rfl 0 (by decide) (hts _ (List.mem_of_getElem? (i := 1) rfl)) (fun _ h9 => h9) rfl (v := .ref (ad 1)) rfl dX12_book_57 ?_
          refine lv_bipush (v := (119 : Int32)) hx hb dX12_book_60 (by decide) ?_
          refine c_iald (j := 119) hx hb hK hP 1 tM1 (by decide) (c_inV (by decide)) dX12_book_62 ?_
          refine lv_imul hx hb dX12_book_63 ?_
          refine lv_iadd hx hb dX12_book_64 ?_
          refine lv_iload_n hx hb dX12_book_65 rfl (lv_at hl 1 rfl) ?_
          obtain ⟨hi5, hf⟩ := c_gd hf
          obtain ⟨g6, eg6, hf⟩ := c_letE hf
          refine c_iast (j := (((120 : Int32) + ((2 : Int32) * (g.1 1 119)))).toNatClampNeg) hx hb hK hP hD hS 1 tM1 rfl (c_inV hi5) eg6 dX12_book_66 (fun H locs hP hS => ?_)
          refine lv_aload_n hx hb dX12_book_67 rfl (lv_at hl 0 rfl) ?_
          refine c_get hx hb hts i_X12_book_X12 hown hK hP 0 tM0 rfl 0 (by decide) (hts _ (List.mem_of_getElem? (i := 1) rfl)) (fun _ h9 => h9) rfl (v := .ref (ad 1)) rfl dX12_book_68 ?_
          refine lv_bipush (v := (121 : Int32)) hx hb dX12_book_71 (by decide) ?_
          refine lv_iconst (v := (2 : Int32)) hx hb dX12_book_73 (by decide) ?_
          refine lv_aload_n hx hb dX12_book_74 rfl (lv_at hl 0 rfl) ?_
          refine c_get hx hb hts i_X12_book_X12 hown hK hP 0 tM0 rfl 0 (by decide) (hts _ (List.mem_of_getElem? (i := 1) rfl)) (fun _ h9 => h9) rfl (v := .ref (ad 1)) rfl dX12_book_75 ?_
          refine lv_bipush (v := (119 : Int32)) hx hb dX12_book_78 (by decide) ?_
          refine c_iald (j := 119) hx hb hK hP 1 tM1 (by decide) (c_inV (by decide)) dX12_book_80 ?_
          refine lv_imul hx hb dX12_book_81 ?_
          refine lv_iadd hx hb dX12_book_82 ?_
          refine lv_iload_n hx hb dX12_book_83 rfl (lv_at hl 2 rfl) ?_
          obtain ⟨hi7, hf⟩ := c_gd hf
          obtain ⟨g8, eg8, hf⟩ := c_letE hf
          refine c_iast (j := (((121 : Int32) + ((2 : Int32) * (g6.1 1 119)))).toNatClampNeg) hx hb hK hP hD hS 1 tM1 rfl (c_inV hi7) eg8 dX12_book_84 (fun H locs hP hS => ?_)
          refine lv_aload_n hx hb dX12_book_85 rfl (lv_at hl 0 rfl) ?_
          refine c_get hx hb hts i_X12_book_X12 hown hK hP 0 tM0 rfl 0 (by decide) (hts _ (List.mem_of_getElem? (i := 1) rfl)) (fun _ h9 => h9) rfl (v := .ref (ad 1)) rfl dX12_book_86 ?_
          refine lv_bipush (v := (119 : Int32)) hx hb dX12_book_89 (by decide) ?_
          refine lv_dup2_11 hx hb dX12_book_91 rfl rfl ?_
          refine c_iald (j := 119) hx hb hK hP 1 tM1 (by decide) (c_inV (by decide)) dX12_book_92 ?_
          refine lv_iconst (v := (1 : Int32)) hx hb dX12_book_93 (by decide) ?_
          refine lv_iadd hx hb dX12_book_94 ?_
          obtain ⟨v9, ev9, hf⟩ := c_letE hf
          refine c_topi ev9 ?_
          obtain ⟨g10, eg10, hf⟩ := c_letE hf
          refine c_iast (j := 119) hx hb hK hP hD hS 1 tM1 (by decide) (c_inV (by decide)) eg10 dX12_book_95 (fun H locs hP hS => ?_)
          refine lv_aload_n hx hb dX12_book_96 rfl (lv_at hl 0 rfl) ?_
          refine c_get hx hb hts i_X12_book_X12 hown hK hP 0 tM0 rfl 0 (by decide) (hts _ (List.mem_of_getElem? (i := 1) rfl)) (fun _ h9 => h9) rfl (v := .ref (ad 1)) rfl dX12_book_97 ?_
          refine lv_bipush (v := (119 : Int32)) hx hb dX12_book_100 (by decide) ?_
          refine c_iald (j := 119) hx hb hK hP 1 tM1 (by decide) (c_inV (by decide)) dX12_book_102 ?_
          exact c_iret hx hb hr hlk hP hS rfl (c_inj hf) dX12_book_103
        · have hf := c_it c4 hf
          refine lv_bipush (v := (-4 : Int32)) hx hb dX12_book_46 (by decide) ?_
          exact c_iret hx hb hr hlk hP hS rfl (c_inj hf) dX12_book_48
      · have hf := c_it c3 hf
        refine lv_iconst (v := (-1 : Int32)) hx hb dX12_book_32 (by decide) ?_
        exact c_iret hx hb hr hlk hP hS rfl (c_inj hf) dX12_book_33
  · have hf := c_it c1 hf
    refine lv_aload_n hx hb dX12_book_5 rfl (lv_at hl 0 rfl) ?_
    refine c_get hx hb hts i_X12_book_X12 hown hK hP 0 tM0 rfl 0 (by decide) (hts _ (List.mem_of_getElem? (i := 1) rfl)) (fun _ h9 => h9) rfl (v := .ref (ad 1)) rfl dX12_book_6 ?_
    refine lv_bipush (v := (119 : Int32)) hx hb dX12_book_9 (by decide) ?_
    refine lv_iconst (v := (0 : Int32)) hx hb dX12_book_11 (by decide) ?_
    obtain ⟨g11, eg11, hf⟩ := c_letE hf
    refine c_iast (j := 119) hx hb hK hP hD hS 1 tM1 (by decide) (c_inV (by decide)) eg11 dX12_book_12 (fun H locs hP hS => ?_)
    refine lv_iconst (v := (0 : Int32)) hx hb dX12_book_13 (by decide) ?_
    exact c_iret hx hb hr hlk hP hS rfl (c_inj hf) dX12_book_14
theorem i_X12_looked_X12 : ∀ w ∈ u_ws RX12 TX12 32, w ∈ wsX12_looked := c_inP [7, 8, 9, 10, 11, 12, 13, 14, 15, 16, 17, 18, 19, 20, 21, 22, 23, 24, 25, 26, 27, 28, 29, 30, 31, 32, 33, 34, 35, 36, 37, 38] (by decide +kernel)
theorem dX12_looked_0 : decode cX12_looked 0 = .ok (.iconst 0, 1) := by decide +kernel
theorem dX12_looked_1 : decode cX12_looked 1 = .ok (.istore_n 1, 1) := by decide +kernel
theorem dX12_looked_2 : decode cX12_looked 2 = .ok (.iload_n 1, 1) := by decide +kernel
theorem dX12_looked_3 : decode cX12_looked 3 = .ok (.aload_n 0, 1) := by decide +kernel
theorem dX12_looked_4 : decode cX12_looked 4 = .ok (.getfield 15, 3) := by decide +kernel
theorem dX12_looked_7 : decode cX12_looked 7 = .ok (.bipush 119, 2) := by decide +kernel
theorem dX12_looked_9 : decode cX12_looked 9 = .ok (.iaload, 1) := by decide +kernel
theorem dX12_looked_10 : decode cX12_looked 10 = .ok (.if_icmp .ge 45, 3) := by decide +kernel
theorem dX12_looked_13 : decode cX12_looked 13 = .ok (.aload_n 0, 1) := by decide +kernel
theorem dX12_looked_14 : decode cX12_looked 14 = .ok (.aload_n 0, 1) := by decide +kernel
theorem dX12_looked_15 : decode cX12_looked 15 = .ok (.getfield 15, 3) := by decide +kernel
theorem dX12_looked_18 : decode cX12_looked 18 = .ok (.aload_n 0, 1) := by decide +kernel
theorem dX12_looked_19 : decode cX12_looked 19 = .ok (.getfield 15, 3) := by decide +kernel
theorem dX12_looked_22 : decode cX12_looked 22 = .ok (.bipush 120, 2) := by decide +kernel
theorem dX12_looked_24 : decode cX12_looked 24 = .ok (.iconst 2, 1) := by decide +kernel
theorem dX12_looked_25 : decode cX12_looked 25 = .ok (.iload_n 1, 1) := by decide +kernel
theorem dX12_looked_26 : decode cX12_looked 26 = .ok (.imul, 1) := by decide +kernel
theorem dX12_looked_27 : decode cX12_looked 27 = .ok (.iadd, 1) := by decide +kernel
theorem dX12_looked_28 : decode cX12_looked 28 = .ok (.iaload, 1) := by decide +kernel
theorem dX12_looked_29 : decode cX12_looked 29 = .ok (.iconst 1, 1) := by decide +kernel
theorem dX12_looked_30 : decode cX12_looked 30 = .ok (.invokevirtual 118, 3) := by decide +kernel
theorem dX12_looked_33 : decode cX12_looked 33 = .ok (.aload_n 0, 1) := by decide +kernel
theorem dX12_looked_34 : decode cX12_looked 34 = .ok (.getfield 15, 3) := by decide +kernel
theorem dX12_looked_37 : decode cX12_looked 37 = .ok (.bipush 121, 2) := by decide +kernel
theorem dX12_looked_39 : decode cX12_looked 39 = .ok (.iconst 2, 1) := by decide +kernel
theorem dX12_looked_40 : decode cX12_looked 40 = .ok (.iload_n 1, 1) := by decide +kernel
theorem dX12_looked_41 : decode cX12_looked 41 = .ok (.imul, 1) := by decide +kernel
theorem dX12_looked_42 : decode cX12_looked 42 = .ok (.iadd, 1) := by decide +kernel
theorem dX12_looked_43 : decode cX12_looked 43 = .ok (.iaload, 1) := by decide +kernel
theorem dX12_looked_44 : decode cX12_looked 44 = .ok (.if_icmp .eq 5, 3) := by decide +kernel
theorem dX12_looked_47 : decode cX12_looked 47 = .ok (.iload_n 1, 1) := by decide +kernel
theorem dX12_looked_48 : decode cX12_looked 48 = .ok (.ireturn, 1) := by decide +kernel
theorem dX12_looked_49 : decode cX12_looked 49 = .ok (.iinc 1 1, 3) := by decide +kernel
theorem dX12_looked_52 : decode cX12_looked 52 = .ok (.goto (-50), 3) := by decide +kernel
theorem dX12_looked_55 : decode cX12_looked 55 = .ok (.bipush (-5), 2) := by decide +kernel
theorem dX12_looked_57 : decode cX12_looked 57 = .ok (.ireturn, 1) := by decide +kernel
set_option maxRecDepth 20000 in
theorem ggX12_looked_X12_of : GoodIn wsX12_looked wsX12_of := goodIn_r _ [6] (by decide +kernel) (by decide +kernel)
set_option maxRecDepth 20000 in
theorem gX12_looked_X12_of : GoodIn wsX12_looked (wsV RX12 118 RX12 yX12_of wsX12_of) := goodIn_app (goodIn_of _ (by decide +kernel)) ggX12_looked_X12_of
def fX12_looked_2   : Nat → Int32 → c_G → Option (Int32)
  | 0, _, _ => none
  | n + 1, x1, g => if (g.1 1 119) ≤ x1 then (some (-5 : Int32)) else (if c_in (((120 : Int32) + ((2 : Int32) * x1))) (136) = true then (fX12_of g ((g.1 1 (((120 : Int32) + ((2 : Int32) * x1))).toNatClampNeg)) ((1 : Int32))).bind fun r2003 => if c_in (((121 : Int32) + ((2 : Int32) * x1))) (136) = true then if r2003 = (g.1 1 (((121 : Int32) + ((2 : Int32) * x1))).toNatClampNeg) then (c_let (x1 + (1 : Int32)) fun v2007 => (fX12_looked_2 n) v2007 g) else (some x1) else none else none)
set_option maxRecDepth 100000 in
set_option maxHeartbeats 4000000 in
theorem jX12_looked_2 {p : Program} {l : Launch} {e : Env} {s : State} {m : MethodId} {below : List Frame} {meth : Method} {c : Code} {D : va_G} {tc : Nat → ClassId} {ad : Nat → Nat} {A : Nat → Prop} {E : (Nat → Nat) × (Nat → Nat) × Nat} {r : Int32} (C : c_C p s m meth c D tc A E RX12 wsX12_looked cX12_looked 2 (some .int) ([.ref (ad 0)] : List Value).toArray) (hD : c_D A ad TM)  : ∀ (n : Nat) (x1 : Int32) (g : c_G), fX12_looked_2 n x1 g = some r → ∀ (H : Heap) (locs : List Loc), va_P D vwCl (c_ws tc ad TM g) H → va_S A s.heap H locs → ∀ ls : Array Slot, lv_has ls 2 [(0, .ref (ad 0)), (1, .int x1)] → W p l e (c_rm 1) s m ([.ref (ad 0)] : List Value).toArray below meth c H locs 0 0 (MQ below (va_Qi (fun (x : Int32) (_ : Unit) => x = r) (fun _ t => va_P D vwCl (c_ws tc ad TM g) t.heap) A) ([.ref (ad 0)] : List Value).toArray s 0 0 A) (F0 m 2 ls []) := by
  obtain ⟨hx, hb, hr, hml, hts, hown, hlk, hK, hE⟩ := id C
  intro n
  induction n with
  | zero =>
    intro x1 g hf
    cases hf
  | succ n ih =>
    intro x1 g hf H locs hP hS ls hl
    unfold fX12_looked_2 at hf
    refine lv_iload_n hx hb dX12_looked_2 rfl (lv_at hl 1 rfl) ?_
    refine lv_aload_n hx hb dX12_looked_3 rfl (lv_at hl 0 rfl) ?_
    refine c_get hx hb hts i_X12_looked_X12 hown hK hP 0 tM0 rfl 0 (by decide) (hts _ (List.mem_of_getElem? (i := 1) rfl)) (fun _ h9 => h9) rfl (v := .ref (ad 1)) rfl dX12_looked_4 ?_
    refine lv_bipush (v := (119 : Int32)) hx hb dX12_looked_7 (by decide) ?_
    refine c_iald (j := 119) hx hb hK hP 1 tM1 (by decide) (c_inV (by decide)) dX12_looked_9 ?_
    refine lv_icmp_ge (tgt := 55) hx hb dX12_looked_10 (by decide) (fun c2001 => ?_) (fun c2001 => ?_)
    · have hf := c_it c2001 hf
      refine lv_bipush (v := (-5 : Int32)) hx hb dX12_looked_55 (by decide) ?_
      exact c_iret hx hb hr hlk hP hS rfl ⟨rfl, Option.some.inj hf⟩ dX12_looked_57
    · have hf := c_ie c2001 hf
      refine lv_aload_n hx hb dX12_looked_13 rfl (lv_at hl 0 rfl) ?_
      refine lv_aload_n hx hb dX12_looked_14 rfl (lv_at hl 0 rfl) ?_
      refine c_get hx hb hts i_X12_looked_X12 hown hK hP 0 tM0 rfl 0 (by decide) (hts _ (List.mem_of_getElem? (i := 1) rfl)) (fun _ h9 => h9) rfl (v := .ref (ad 1)) rfl dX12_looked_15 ?_
      refine lv_aload_n hx hb dX12_looked_18 rfl (lv_at hl 0 rfl) ?_
      refine c_get hx hb hts i_X12_looked_X12 hown hK hP 0 tM0 rfl 0 (by decide) (hts _ (List.mem_of_getElem? (i := 1) rfl)) (fun _ h9 => h9) rfl (v := .ref (ad 1)) rfl dX12_looked_19 ?_
      refine lv_bipush (v := (120 : Int32)) hx hb dX12_looked_22 (by decide) ?_
      refine lv_iconst (v := (2 : Int32)) hx hb dX12_looked_24 (by decide) ?_
      refine lv_iload_n hx hb dX12_looked_25 rfl (lv_at hl 1 rfl) ?_
      refine lv_imul hx hb dX12_looked_26 ?_
      refine lv_iadd hx hb dX12_looked_27 ?_
      obtain ⟨hi2002, hf⟩ := c_gd hf
      refine c_iald (j := (((120 : Int32) + ((2 : Int32) * x1))).toNatClampNeg) hx hb hK hP 1 tM1 rfl (c_inV hi2002) dX12_looked_28 ?_
      refine lv_iconst (v := (1 : Int32)) hx hb dX12_looked_29 (by decide) ?_
      obtain ⟨r2003, hc2004, hf⟩ := c_bd hf
      refine c_goi (va_runV (As := [.ref (ad 1), .int (g.1 1 (((120 : Int32) + ((2 : Int32) * x1))).toNatClampNeg), .int (1 : Int32)]) (rest := []) ⟨hx, hb, hml, hown, hts⟩ (kX12_of hD hc2004) (cwV 3 hts gX12_looked_X12_of rfl rfl rfl (by decide +kernel) ⟨Nat.le_of_ble_eq_true rfl, Nat.le_of_ble_eq_true rfl⟩) (c_preV hK hP hE hS tM0 rfl) rfl rfl hl.1 rfl (lv_room (Nat.le_of_ble_eq_true rfl)) dX12_looked_30 ⟨Nat.zero_le _, Nat.zero_le _⟩) hS (fun H locs hP hS => ?_)
      refine lv_aload_n hx hb dX12_looked_33 rfl (lv_at hl 0 rfl) ?_
      refine c_get hx hb hts i_X12_looked_X12 hown hK hP 0 tM0 rfl 0 (by decide) (hts _ (List.mem_of_getElem? (i := 1) rfl)) (fun _ h9 => h9) rfl (v := .ref (ad 1)) rfl dX12_looked_34 ?_
      refine lv_bipush (v := (121 : Int32)) hx hb dX12_looked_37 (by decide) ?_
      refine lv_iconst (v := (2 : Int32)) hx hb dX12_looked_39 (by decide) ?_
      refine lv_iload_n hx hb dX12_looked_40 rfl (lv_at hl 1 rfl) ?_
      refine lv_imul hx hb dX12_looked_41 ?_
      refine lv_iadd hx hb dX12_looked_42 ?_
      obtain ⟨hi2005, hf⟩ := c_gd hf
      refine c_iald (j := (((121 : Int32) + ((2 : Int32) * x1))).toNatClampNeg) hx hb hK hP 1 tM1 rfl (c_inV hi2005) dX12_looked_43 ?_
      refine lv_icmp_eq (tgt := 49) hx hb dX12_looked_44 (by decide) (fun c2006 => ?_) (fun c2006 => ?_)
      · have hf := c_it c2006 hf
        obtain ⟨v2007, ev2007, hf⟩ := c_letE hf
        refine lv_iinc (v := v2007) (lv' := [(1, .int v2007), (0, .ref (ad 0))]) hx hb dX12_looked_49 hl (k := 1) rfl (by rw [ev2007]; rfl) (by decide) rfl (fun ls hl => ?_)
        refine lv_goto (tgt := 2) hx hb dX12_looked_52 (by decide) ?_
        exact ih v2007 g hf _ _ hP hS _ (lv_sub hl [1, 0] rfl)
      · have hf := c_ie c2006 hf
        refine lv_iload_n hx hb dX12_looked_47 rfl (lv_at hl 1 rfl) ?_
        exact c_iret hx hb hr hlk hP hS rfl ⟨rfl, Option.some.inj hf⟩ dX12_looked_48
def fX12_looked (g : c_G)  : Option (Int32) :=
  fX12_looked_2 c_F ((0 : Int32)) g
set_option maxRecDepth 100000 in
set_option maxHeartbeats 4000000 in
theorem kX12_looked {l : Launch} {D : va_G} {tc : Nat → ClassId} {ad : Nat → Nat} {A : Nat → Prop} {E : (Nat → Nat) × (Nat → Nat) × Nat} (hD : c_D A ad TM)  {g : c_G} {r : Int32} (hf : fX12_looked g  = some r) : c_Mi l yX12_looked wsX12_looked (c_rm 1) D tc ad A E TM ([.ref (ad 0)] : List Value) g g r := by
  refine c_ofW (bytes := cX12_looked) (maxL := 2) (ret := (some .int)) (by decide) rfl (Nat.le_of_ble_eq_true rfl) ?_
  intro p e s m below meth c ls C hP hS hl
  unfold fX12_looked at hf
  obtain ⟨hx, hb, hr, hml, hts, hown, hlk, hK, hE⟩ := id C
  have hl : lv_has ls 2 [(0, .ref (ad 0))] := hl
  refine lv_iconst (v := (0 : Int32)) hx hb dX12_looked_0 (by decide) ?_
  refine lv_istore_n (lv' := [(1, .int (0 : Int32)), (0, .ref (ad 0))]) hx hb dX12_looked_1 rfl hl (by decide) rfl (fun ls hl => ?_)
  exact jX12_looked_2 C hD c_F ((0 : Int32)) g hf _ _ hP hS _ (lv_sub hl [1, 0] rfl)
theorem i_X12_body_X12 : ∀ w ∈ u_ws RX12 TX12 32, w ∈ wsX12_body := c_inP [3, 4, 5, 6, 7, 8, 9, 10, 11, 12, 13, 14, 15, 16, 17, 18, 19, 20, 21, 22, 23, 24, 25, 26, 27, 28, 29, 30, 31, 32, 33, 34] (by decide +kernel)
theorem dX12_body_0 : decode cX12_body 0 = .ok (.aload_n 0, 1) := by decide +kernel
theorem dX12_body_1 : decode cX12_body 1 = .ok (.getfield 255, 3) := by decide +kernel
theorem dX12_body_4 : decode cX12_body 4 = .ok (.bipush 20, 2) := by decide +kernel
theorem dX12_body_6 : decode cX12_body 6 = .ok (.if_icmp .ge 13, 3) := by decide +kernel
theorem dX12_body_9 : decode cX12_body 9 = .ok (.aload_n 0, 1) := by decide +kernel
theorem dX12_body_10 : decode cX12_body 10 = .ok (.getfield 65, 3) := by decide +kernel
theorem dX12_body_13 : decode cX12_body 13 = .ok (.aload_n 0, 1) := by decide +kernel
theorem dX12_body_14 : decode cX12_body 14 = .ok (.getfield 255, 3) := by decide +kernel
theorem dX12_body_17 : decode cX12_body 17 = .ok (.iload_n 1, 1) := by decide +kernel
theorem dX12_body_18 : decode cX12_body 18 = .ok (.iastore, 1) := by decide +kernel
theorem dX12_body_19 : decode cX12_body 19 = .ok (.aload_n 0, 1) := by decide +kernel
theorem dX12_body_20 : decode cX12_body 20 = .ok (.dup, 1) := by decide +kernel
theorem dX12_body_21 : decode cX12_body 21 = .ok (.getfield 255, 3) := by decide +kernel
theorem dX12_body_24 : decode cX12_body 24 = .ok (.iconst 1, 1) := by decide +kernel
theorem dX12_body_25 : decode cX12_body 25 = .ok (.iadd, 1) := by decide +kernel
theorem dX12_body_26 : decode cX12_body 26 = .ok (.putfield 255, 3) := by decide +kernel
theorem dX12_body_29 : decode cX12_body 29 = .ok (.iload_n 1, 1) := by decide +kernel
theorem dX12_body_30 : decode cX12_body 30 = .ok (.ireturn, 1) := by decide +kernel
def fX12_body_19  (a1 : Int32) (x1 : Int32) (g : c_G) : Option (c_G × Int32) :=
  c_let (((g.1 0 27) + (1 : Int32))) fun v19001 => c_let (c_si g 0 27 v19001) fun g19002 => some (g19002, x1)
set_option maxRecDepth 100000 in
set_option maxHeartbeats 4000000 in
theorem jX12_body_19 {p : Program} {l : Launch} {e : Env} {s : State} {m : MethodId} {below : List Frame} {meth : Method} {c : Code} {D : va_G} {tc : Nat → ClassId} {ad : Nat → Nat} {A : Nat → Prop} {E : (Nat → Nat) × (Nat → Nat) × Nat} {a1 : Int32} {g' : c_G} {r : Int32} (C : c_C p s m meth c D tc A E RX12 wsX12_body cX12_body 2 (some .int) ([.ref (ad 0), .int a1] : List Value).toArray) (hD : c_D A ad TM)  : ∀ (x1 : Int32) (g : c_G), fX12_body_19 a1 x1 g = some (g', r) → ∀ (H : Heap) (locs : List Loc), va_P D vwCl (c_ws tc ad TM g) H → va_S A s.heap H locs → ∀ ls : Array Slot, lv_has ls 2 [(0, .ref (ad 0)), (1, .int x1)] → W p l e (c_rm 0) s m ([.ref (ad 0), .int a1] : List Value).toArray below meth c H locs 0 0 (MQ below (va_Qi (fun (x : Int32) (_ : Unit) => x = r) (fun _ t => va_P D vwCl (c_ws tc ad TM g') t.heap) A) ([.ref (ad 0), .int a1] : List Value).toArray s 0 0 A) (F0 m 19 ls []) := by
  obtain ⟨hx, hb, hr, hml, hts, hown, hlk, hK, hE⟩ := id C
  intro x1 g hf H locs hP hS ls hl
  unfold fX12_body_19 at hf
  refine lv_aload_n hx hb dX12_body_19 rfl (lv_at hl 0 rfl) ?_
  refine lv_dup hx hb dX12_body_20 rfl ?_
  refine c_get hx hb hts i_X12_body_X12 hown hK hP 0 tM0 rfl 27 (by decide) (hts _ (List.mem_of_getElem? (i := 1) rfl)) (fun _ h9 => h9) rfl (v := .int (g.1 0 27)) rfl dX12_body_21 ?_
  refine lv_iconst (v := (1 : Int32)) hx hb dX12_body_24 (by decide) ?_
  refine lv_iadd hx hb dX12_body_25 ?_
  obtain ⟨v19001, ev19001, hf⟩ := c_letE hf
  refine c_topi ev19001 ?_
  obtain ⟨g19002, eg19002, hf⟩ := c_letE hf
  refine c_put hx hb hts i_X12_body_X12 tyX12 tyX12_ok nmX12 hown hK hP hD hS 0 tM0 rfl 27 (by decide) (hts _ (List.mem_of_getElem? (i := 1) rfl)) (fun _ h9 => h9) rfl (ty := .int) (by decide +kernel) rfl rfl rfl eg19002 dX12_body_26 (fun H locs hP hS => ?_)
  refine lv_iload_n hx hb dX12_body_29 rfl (lv_at hl 1 rfl) ?_
  exact c_iret hx hb hr hlk hP hS rfl (c_inj hf) dX12_body_30
def fX12_body (g : c_G) (a1 : Int32) : Option (c_G × Int32) :=
  if (20 : Int32) ≤ (g.1 0 27) then (fX12_body_19 a1 a1 g) else (if c_in ((g.1 0 27)) (20) = true then c_let (c_si g 17 ((g.1 0 27)).toNatClampNeg a1) fun g3 => fX12_body_19 a1 a1 g3 else none)
set_option maxRecDepth 100000 in
set_option maxHeartbeats 4000000 in
theorem kX12_body {l : Launch} {D : va_G} {tc : Nat → ClassId} {ad : Nat → Nat} {A : Nat → Prop} {E : (Nat → Nat) × (Nat → Nat) × Nat} (hD : c_D A ad TM) {a1 : Int32} {g g' : c_G} {r : Int32} (hf : fX12_body g a1 = some (g', r)) : c_Mi l yX12_body wsX12_body (c_rm 0) D tc ad A E TM ([.ref (ad 0), .int a1] : List Value) g g' r := by
  refine c_ofW (bytes := cX12_body) (maxL := 2) (ret := (some .int)) (by decide) rfl (Nat.le_of_ble_eq_true rfl) ?_
  intro p e s m below meth c ls C hP hS hl
  unfold fX12_body at hf
  obtain ⟨hx, hb, hr, hml, hts, hown, hlk, hK, hE⟩ := id C
  have hl : lv_has ls 2 [(0, .ref (ad 0)), (1, .int a1)] := hl
  refine lv_aload_n hx hb dX12_body_0 rfl (lv_at hl 0 rfl) ?_
  refine c_get hx hb hts i_X12_body_X12 hown hK hP 0 tM0 rfl 27 (by decide) (hts _ (List.mem_of_getElem? (i := 1) rfl)) (fun _ h9 => h9) rfl (v := .int (g.1 0 27)) rfl dX12_body_1 ?_
  refine lv_bipush (v := (20 : Int32)) hx hb dX12_body_4 (by decide) ?_
  refine lv_icmp_ge (tgt := 19) hx hb dX12_body_6 (by decide) (fun c1 => ?_) (fun c1 => ?_)
  · have hf := c_it c1 hf
    exact jX12_body_19 C hD a1 g hf _ _ hP hS _ (lv_sub hl [0, 1] rfl)
  · have hf := c_ie c1 hf
    refine lv_aload_n hx hb dX12_body_9 rfl (lv_at hl 0 rfl) ?_
    refine c_get hx hb hts i_X12_body_X12 hown hK hP 0 tM0 rfl 26 (by decide) (hts _ (List.mem_of_getElem? (i := 2) rfl)) (fun _ h9 => h9) rfl (v := .ref (ad 17)) rfl dX12_body_10 ?_
    refine lv_aload_n hx hb dX12_body_13 rfl (lv_at hl 0 rfl) ?_
    refine c_get hx hb hts i_X12_body_X12 hown hK hP 0 tM0 rfl 27 (by decide) (hts _ (List.mem_of_getElem? (i := 1) rfl)) (fun _ h9 => h9) rfl (v := .int (g.1 0 27)) rfl dX12_body_14 ?_
    refine lv_iload_n hx hb dX12_body_17 rfl (lv_at hl 1 rfl) ?_
    obtain ⟨hi2, hf⟩ := c_gd hf
    obtain ⟨g3, eg3, hf⟩ := c_letE hf
    refine c_iast (j := ((g.1 0 27)).toNatClampNeg) hx hb hK hP hD hS 17 tM17 rfl (c_inV hi2) eg3 dX12_body_18 (fun H locs hP hS => ?_)
    exact jX12_body_19 C hD a1 g3 hf _ _ hP hS _ (lv_sub hl [0, 1] rfl)
theorem i_X12_trace_X12 : ∀ w ∈ u_ws RX12 TX12 32, w ∈ wsX12_trace := c_inP [11, 12, 13, 14, 15, 16, 17, 18, 19, 20, 21, 22, 23, 24, 25, 26, 27, 28, 29, 30, 31, 32, 33, 34, 35, 36, 37, 38, 39, 40, 41, 42] (by decide +kernel)
theorem dX12_trace_0 : decode cX12_trace 0 = .ok (.iload_n 1, 1) := by decide +kernel
theorem dX12_trace_1 : decode cX12_trace 1 = .ok (.iconst 0, 1) := by decide +kernel
theorem dX12_trace_2 : decode cX12_trace 2 = .ok (.bipush 20, 2) := by decide +kernel
theorem dX12_trace_4 : decode cX12_trace 4 = .ok (.aload_n 0, 1) := by decide +kernel
theorem dX12_trace_5 : decode cX12_trace 5 = .ok (.getfield 255, 3) := by decide +kernel
theorem dX12_trace_8 : decode cX12_trace 8 = .ok (.invokestatic 268, 3) := by decide +kernel
theorem dX12_trace_11 : decode cX12_trace 11 = .ok (.iconst 1, 1) := by decide +kernel
theorem dX12_trace_12 : decode cX12_trace 12 = .ok (.isub, 1) := by decide +kernel
theorem dX12_trace_13 : decode cX12_trace 13 = .ok (.invokestatic 85, 3) := by decide +kernel
theorem dX12_trace_16 : decode cX12_trace 16 = .ok (.ifCond .eq 12, 3) := by decide +kernel
theorem dX12_trace_19 : decode cX12_trace 19 = .ok (.aload_n 0, 1) := by decide +kernel
theorem dX12_trace_20 : decode cX12_trace 20 = .ok (.getfield 65, 3) := by decide +kernel
theorem dX12_trace_23 : decode cX12_trace 23 = .ok (.iload_n 1, 1) := by decide +kernel
theorem dX12_trace_24 : decode cX12_trace 24 = .ok (.iaload, 1) := by decide +kernel
theorem dX12_trace_25 : decode cX12_trace 25 = .ok (.goto 4, 3) := by decide +kernel
theorem dX12_trace_28 : decode cX12_trace 28 = .ok (.iconst (-1), 1) := by decide +kernel
theorem dX12_trace_29 : decode cX12_trace 29 = .ok (.ireturn, 1) := by decide +kernel
set_option maxRecDepth 20000 in
theorem ggX12_trace_X12_isIn : GoodIn wsX12_trace wsX12_isIn := goodIn_r _ [10] (by decide +kernel) (by decide +kernel)
set_option maxRecDepth 20000 in
theorem gX12_trace_X12_isIn : GoodIn wsX12_trace (va_wsS RX12 85 yX12_isIn wsX12_isIn) := goodIn_app (goodIn_of _ (by decide +kernel)) ggX12_trace_X12_isIn
def fX12_trace (g : c_G) (a1 : Int32) : Option (Int32) :=
  if (fX12_isIn a1 ((0 : Int32)) (((if (g.1 0 27) < (20 : Int32) then (g.1 0 27) else (20 : Int32)) - (1 : Int32)))) = 0 then (some (-1 : Int32)) else (if c_in (a1) (20) = true then some (g.1 17 (a1).toNatClampNeg) else none)
set_option maxRecDepth 100000 in
set_option maxHeartbeats 4000000 in
theorem kX12_trace {l : Launch} {D : va_G} {tc : Nat → ClassId} {ad : Nat → Nat} {A : Nat → Prop} {E : (Nat → Nat) × (Nat → Nat) × Nat} (hD : c_D A ad TM) {a1 : Int32} {g : c_G} {r : Int32} (hf : fX12_trace g a1 = some r) : c_Mi l yX12_trace wsX12_trace (c_rm 1) D tc ad A E TM ([.ref (ad 0), .int a1] : List Value) g g r := by
  refine c_ofW (bytes := cX12_trace) (maxL := 2) (ret := (some .int)) (by decide) rfl (Nat.le_of_ble_eq_true rfl) ?_
  intro p e s m below meth c ls C hP hS hl
  unfold fX12_trace at hf
  obtain ⟨hx, hb, hr, hml, hts, hown, hlk, hK, hE⟩ := id C
  have hl : lv_has ls 2 [(0, .ref (ad 0)), (1, .int a1)] := hl
  refine lv_iload_n hx hb dX12_trace_0 rfl (lv_at hl 1 rfl) ?_
  refine lv_iconst (v := (0 : Int32)) hx hb dX12_trace_1 (by decide) ?_
  refine lv_bipush (v := (20 : Int32)) hx hb dX12_trace_2 (by decide) ?_
  refine lv_aload_n hx hb dX12_trace_4 rfl (lv_at hl 0 rfl) ?_
  refine c_get hx hb hts i_X12_trace_X12 hown hK hP 0 tM0 rfl 27 (by decide) (hts _ (List.mem_of_getElem? (i := 1) rfl)) (fun _ h9 => h9) rfl (v := .int (g.1 0 27)) rfl dX12_trace_5 ?_
  refine va_mmin hx hb (hml.trans hl.1.symm) hown (hts _ (List.mem_of_getElem? (i := 2) rfl)) (hts _ (List.mem_of_getElem? (i := 3) rfl)) (hts _ (List.mem_of_getElem? (i := 4) rfl)) (hts _ (List.mem_of_getElem? (i := 5) rfl)) (Nat.le_of_ble_eq_true rfl) (Nat.le_of_ble_eq_true rfl) (Nat.zero_le _) (Nat.zero_le _) dX12_trace_8 ?_
  refine lv_iconst (v := (1 : Int32)) hx hb dX12_trace_11 (by decide) ?_
  refine lv_isub hx hb dX12_trace_12 ?_
  refine c_goi (va_runS (As := [.int a1, .int (0 : Int32), .int ((if (g.1 0 27) < (20 : Int32) then (g.1 0 27) else (20 : Int32)) - (1 : Int32))]) (rest := []) ⟨hx, hb, hml, hown, hts⟩ (kX12_isIn (T := TM) (g := g) rfl) (va_cwS 3 hts gX12_trace_X12_isIn rfl rfl rfl (by decide +kernel) ⟨Nat.le_of_ble_eq_true rfl, Nat.le_of_ble_eq_true rfl⟩) (c_preS hK hP hE hS) rfl rfl hl.1 rfl (lv_room (Nat.le_of_ble_eq_true rfl)) dX12_trace_13 ⟨Nat.zero_le _, Nat.zero_le _⟩) hS (fun H locs hP hS => ?_)
  refine lv_if_eq (tgt := 28) hx hb dX12_trace_16 (by decide) (fun c1 => ?_) (fun c1 => ?_)
  · have hf := c_it c1 hf
    refine lv_iconst (v := (-1 : Int32)) hx hb dX12_trace_28 (by decide) ?_
    exact c_iret hx hb hr hlk hP hS rfl ⟨rfl, Option.some.inj hf⟩ dX12_trace_29
  · have hf := c_ie c1 hf
    refine lv_aload_n hx hb dX12_trace_19 rfl (lv_at hl 0 rfl) ?_
    refine c_get hx hb hts i_X12_trace_X12 hown hK hP 0 tM0 rfl 26 (by decide) (hts _ (List.mem_of_getElem? (i := 6) rfl)) (fun _ h9 => h9) rfl (v := .ref (ad 17)) rfl dX12_trace_20 ?_
    refine lv_iload_n hx hb dX12_trace_23 rfl (lv_at hl 1 rfl) ?_
    obtain ⟨hi2, hf⟩ := c_gd hf
    refine c_iald (j := (a1).toNatClampNeg) hx hb hK hP 17 tM17 rfl (c_inV hi2) dX12_trace_24 ?_
    refine lv_goto (tgt := 29) hx hb dX12_trace_25 (by decide) ?_
    exact c_iret hx hb hr hlk hP hS rfl ⟨rfl, Option.some.inj hf⟩ dX12_trace_29
theorem i_X12_taken_X12 : ∀ w ∈ u_ws RX12 TX12 32, w ∈ wsX12_taken := c_inP [15, 16, 17, 18, 19, 20, 21, 22, 23, 24, 25, 26, 27, 28, 29, 30, 31, 32, 33, 34, 35, 36, 37, 38, 39, 40, 41, 42, 43, 44, 45, 46] (by decide +kernel)
theorem dX12_taken_0 : decode cX12_taken 0 = .ok (.iload_n 2, 1) := by decide +kernel
theorem dX12_taken_1 : decode cX12_taken 1 = .ok (.iconst 0, 1) := by decide +kernel
theorem dX12_taken_2 : decode cX12_taken 2 = .ok (.bipush 6, 2) := by decide +kernel
theorem dX12_taken_4 : decode cX12_taken 4 = .ok (.invokestatic 85, 3) := by decide +kernel
theorem dX12_taken_7 : decode cX12_taken 7 = .ok (.ifCond .ne 6, 3) := by decide +kernel
theorem dX12_taken_10 : decode cX12_taken 10 = .ok (.bipush (-2), 2) := by decide +kernel
theorem dX12_taken_12 : decode cX12_taken 12 = .ok (.ireturn, 1) := by decide +kernel
theorem dX12_taken_13 : decode cX12_taken 13 = .ok (.aload_n 0, 1) := by decide +kernel
theorem dX12_taken_14 : decode cX12_taken 14 = .ok (.iload_n 1, 1) := by decide +kernel
theorem dX12_taken_15 : decode cX12_taken 15 = .ok (.invokevirtual 101, 3) := by decide +kernel
theorem dX12_taken_18 : decode cX12_taken 18 = .ok (.ifCond .ne 6, 3) := by decide +kernel
theorem dX12_taken_21 : decode cX12_taken 21 = .ok (.bipush (-11), 2) := by decide +kernel
theorem dX12_taken_23 : decode cX12_taken 23 = .ok (.ireturn, 1) := by decide +kernel
theorem dX12_taken_24 : decode cX12_taken 24 = .ok (.aload_n 0, 1) := by decide +kernel
theorem dX12_taken_25 : decode cX12_taken 25 = .ok (.iload_n 1, 1) := by decide +kernel
theorem dX12_taken_26 : decode cX12_taken 26 = .ok (.iconst 0, 1) := by decide +kernel
theorem dX12_taken_27 : decode cX12_taken 27 = .ok (.invokevirtual 89, 3) := by decide +kernel
theorem dX12_taken_30 : decode cX12_taken 30 = .ok (.istore_n 3, 1) := by decide +kernel
theorem dX12_taken_31 : decode cX12_taken 31 = .ok (.iload_n 3, 1) := by decide +kernel
theorem dX12_taken_32 : decode cX12_taken 32 = .ok (.iconst (-1), 1) := by decide +kernel
theorem dX12_taken_33 : decode cX12_taken 33 = .ok (.if_icmp .eq 18, 3) := by decide +kernel
theorem dX12_taken_36 : decode cX12_taken 36 = .ok (.iload_n 3, 1) := by decide +kernel
theorem dX12_taken_37 : decode cX12_taken 37 = .ok (.iload_n 2, 1) := by decide +kernel
theorem dX12_taken_38 : decode cX12_taken 38 = .ok (.if_icmp .eq 13, 3) := by decide +kernel
theorem dX12_taken_41 : decode cX12_taken 41 = .ok (.aload_n 0, 1) := by decide +kernel
theorem dX12_taken_42 : decode cX12_taken 42 = .ok (.getfield 59, 3) := by decide +kernel
theorem dX12_taken_45 : decode cX12_taken 45 = .ok (.iload_n 3, 1) := by decide +kernel
theorem dX12_taken_46 : decode cX12_taken 46 = .ok (.iaload, 1) := by decide +kernel
theorem dX12_taken_47 : decode cX12_taken 47 = .ok (.istore_n 3, 1) := by decide +kernel
theorem dX12_taken_48 : decode cX12_taken 48 = .ok (.goto (-17), 3) := by decide +kernel
theorem dX12_taken_51 : decode cX12_taken 51 = .ok (.iload_n 3, 1) := by decide +kernel
theorem dX12_taken_52 : decode cX12_taken 52 = .ok (.iload_n 2, 1) := by decide +kernel
theorem dX12_taken_53 : decode cX12_taken 53 = .ok (.if_icmp .ne 12, 3) := by decide +kernel
theorem dX12_taken_56 : decode cX12_taken 56 = .ok (.aload_n 0, 1) := by decide +kernel
theorem dX12_taken_57 : decode cX12_taken 57 = .ok (.iload_n 1, 1) := by decide +kernel
theorem dX12_taken_58 : decode cX12_taken 58 = .ok (.iconst 0, 1) := by decide +kernel
theorem dX12_taken_59 : decode cX12_taken 59 = .ok (.invokevirtual 89, 3) := by decide +kernel
theorem dX12_taken_62 : decode cX12_taken 62 = .ok (.goto 5, 3) := by decide +kernel
theorem dX12_taken_65 : decode cX12_taken 65 = .ok (.bipush (-12), 2) := by decide +kernel
theorem dX12_taken_67 : decode cX12_taken 67 = .ok (.ireturn, 1) := by decide +kernel
set_option maxRecDepth 20000 in
theorem ggX12_taken_X12_isIn : GoodIn wsX12_taken wsX12_isIn := goodIn_r _ [5] (by decide +kernel) (by decide +kernel)
set_option maxRecDepth 20000 in
theorem gX12_taken_X12_isIn : GoodIn wsX12_taken (va_wsS RX12 85 yX12_isIn wsX12_isIn) := goodIn_app (goodIn_of _ (by decide +kernel)) ggX12_taken_X12_isIn
set_option maxRecDepth 20000 in
theorem ggX12_taken_X12_isChild : GoodIn wsX12_taken wsX12_isChild := goodIn_r _ [9, 10, 2, 3, 4, 5, 15, 16, 17, 18, 19, 20, 21, 22, 23, 24, 25, 26, 27, 28, 29, 30, 31, 32, 33, 34, 35, 36, 37, 38, 39, 40, 41, 42, 43, 44, 45, 46] (by decide +kernel) (by decide +kernel)
set_option maxRecDepth 20000 in
theorem gX12_taken_X12_isChild : GoodIn wsX12_taken (wsV RX12 101 RX12 yX12_isChild wsX12_isChild) := goodIn_app (goodIn_of _ (by decide +kernel)) ggX12_taken_X12_isChild
set_option maxRecDepth 20000 in
theorem ggX12_taken_X12_one : GoodIn wsX12_taken wsX12_one := goodIn_r _ [14, 10, 15, 16, 17, 18, 19, 20, 21, 22, 23, 24, 25, 26, 27, 28, 29, 30, 31, 32, 33, 34, 35, 36, 37, 38, 39, 40, 41, 42, 43, 44, 45, 46] (by decide +kernel) (by decide +kernel)
set_option maxRecDepth 20000 in
theorem gX12_taken_X12_one : GoodIn wsX12_taken (wsV RX12 89 RX12 yX12_one wsX12_one) := goodIn_app (goodIn_of _ (by decide +kernel)) ggX12_taken_X12_one
def fX12_taken_51  (a1 : Int32) (a2 : Int32) (x1 : Int32) (x2 : Int32) (x3 : Int32) (g : c_G) : Option (Int32) :=
  if x3 = x2 then ((fX12_one g x1 ((0 : Int32))).bind fun r51002 => some r51002) else (some (-12 : Int32))
set_option maxRecDepth 100000 in
set_option maxHeartbeats 4000000 in
theorem jX12_taken_51 {p : Program} {l : Launch} {e : Env} {s : State} {m : MethodId} {below : List Frame} {meth : Method} {c : Code} {D : va_G} {tc : Nat → ClassId} {ad : Nat → Nat} {A : Nat → Prop} {E : (Nat → Nat) × (Nat → Nat) × Nat} {a1 : Int32} {a2 : Int32} {r : Int32} (C : c_C p s m meth c D tc A E RX12 wsX12_taken cX12_taken 4 (some .int) ([.ref (ad 0), .int a1, .int a2] : List Value).toArray) (hD : c_D A ad TM)  : ∀ (x1 : Int32) (x2 : Int32) (x3 : Int32) (g : c_G), fX12_taken_51 a1 a2 x1 x2 x3 g = some r → ∀ (H : Heap) (locs : List Loc), va_P D vwCl (c_ws tc ad TM g) H → va_S A s.heap H locs → ∀ ls : Array Slot, lv_has ls 4 [(0, .ref (ad 0)), (1, .int x1), (2, .int x2), (3, .int x3)] → W p l e (c_rm 2) s m ([.ref (ad 0), .int a1, .int a2] : List Value).toArray below meth c H locs 0 0 (MQ below (va_Qi (fun (x : Int32) (_ : Unit) => x = r) (fun _ t => va_P D vwCl (c_ws tc ad TM g) t.heap) A) ([.ref (ad 0), .int a1, .int a2] : List Value).toArray s 0 0 A) (F0 m 51 ls []) := by
  obtain ⟨hx, hb, hr, hml, hts, hown, hlk, hK, hE⟩ := id C
  intro x1 x2 x3 g hf H locs hP hS ls hl
  unfold fX12_taken_51 at hf
  refine lv_iload_n hx hb dX12_taken_51 rfl (lv_at hl 3 rfl) ?_
  refine lv_iload_n hx hb dX12_taken_52 rfl (lv_at hl 2 rfl) ?_
  refine lv_icmp_ne (tgt := 65) hx hb dX12_taken_53 (by decide) (fun c51001 => ?_) (fun c51001 => ?_)
  · have hf := c_ie c51001 hf
    refine lv_bipush (v := (-12 : Int32)) hx hb dX12_taken_65 (by decide) ?_
    exact c_iret hx hb hr hlk hP hS rfl ⟨rfl, Option.some.inj hf⟩ dX12_taken_67
  · have hf := c_it c51001 hf
    refine lv_aload_n hx hb dX12_taken_56 rfl (lv_at hl 0 rfl) ?_
    refine lv_iload_n hx hb dX12_taken_57 rfl (lv_at hl 1 rfl) ?_
    refine lv_iconst (v := (0 : Int32)) hx hb dX12_taken_58 (by decide) ?_
    obtain ⟨r51002, hc51003, hf⟩ := c_bd hf
    refine c_goi (va_runV (As := [.int x1, .int (0 : Int32)]) (rest := []) ⟨hx, hb, hml, hown, hts⟩ (kX12_one hD hc51003) (cwV 2 hts gX12_taken_X12_one rfl rfl rfl (by decide +kernel) ⟨Nat.le_of_ble_eq_true rfl, Nat.le_of_ble_eq_true rfl⟩) (c_preV hK hP hE hS tM0 rfl) rfl rfl hl.1 rfl (lv_room (Nat.le_of_ble_eq_true rfl)) dX12_taken_59 ⟨Nat.zero_le _, Nat.zero_le _⟩) hS (fun H locs hP hS => ?_)
    refine lv_goto (tgt := 67) hx hb dX12_taken_62 (by decide) ?_
    exact c_iret hx hb hr hlk hP hS rfl ⟨rfl, Option.some.inj hf⟩ dX12_taken_67
def fX12_taken_31  (a1 : Int32) (a2 : Int32) : Nat → Int32 → Int32 → Int32 → c_G → Option (Int32)
  | 0, _, _, _, _ => none
  | n + 1, x1, x2, x3, g => if x3 = (-1 : Int32) then (fX12_taken_51 a1 a2 x1 x2 x3 g) else (if x3 = x2 then (fX12_taken_51 a1 a2 x1 x2 x3 g) else (if c_in (x3) (7) = true then (fX12_taken_31 a1 a2 n) x1 x2 ((g.1 15 (x3).toNatClampNeg)) g else none))
set_option maxRecDepth 100000 in
set_option maxHeartbeats 4000000 in
theorem jX12_taken_31 {p : Program} {l : Launch} {e : Env} {s : State} {m : MethodId} {below : List Frame} {meth : Method} {c : Code} {D : va_G} {tc : Nat → ClassId} {ad : Nat → Nat} {A : Nat → Prop} {E : (Nat → Nat) × (Nat → Nat) × Nat} {a1 : Int32} {a2 : Int32} {r : Int32} (C : c_C p s m meth c D tc A E RX12 wsX12_taken cX12_taken 4 (some .int) ([.ref (ad 0), .int a1, .int a2] : List Value).toArray) (hD : c_D A ad TM)  : ∀ (n : Nat) (x1 : Int32) (x2 : Int32) (x3 : Int32) (g : c_G), fX12_taken_31 a1 a2 n x1 x2 x3 g = some r → ∀ (H : Heap) (locs : List Loc), va_P D vwCl (c_ws tc ad TM g) H → va_S A s.heap H locs → ∀ ls : Array Slot, lv_has ls 4 [(0, .ref (ad 0)), (1, .int x1), (2, .int x2), (3, .int x3)] → W p l e (c_rm 2) s m ([.ref (ad 0), .int a1, .int a2] : List Value).toArray below meth c H locs 0 0 (MQ below (va_Qi (fun (x : Int32) (_ : Unit) => x = r) (fun _ t => va_P D vwCl (c_ws tc ad TM g) t.heap) A) ([.ref (ad 0), .int a1, .int a2] : List Value).toArray s 0 0 A) (F0 m 31 ls []) := by
  obtain ⟨hx, hb, hr, hml, hts, hown, hlk, hK, hE⟩ := id C
  intro n
  induction n with
  | zero =>
    intro x1 x2 x3 g hf
    cases hf
  | succ n ih =>
    intro x1 x2 x3 g hf H locs hP hS ls hl
    unfold fX12_taken_31 at hf
    refine lv_iload_n hx hb dX12_taken_31 rfl (lv_at hl 3 rfl) ?_
    refine lv_iconst (v := (-1 : Int32)) hx hb dX12_taken_32 (by decide) ?_
    refine lv_icmp_eq (tgt := 51) hx hb dX12_taken_33 (by decide) (fun c31001 => ?_) (fun c31001 => ?_)
    · have hf := c_it c31001 hf
      exact jX12_taken_51 C hD x1 x2 x3 g hf _ _ hP hS _ (lv_sub hl [0, 1, 2, 3] rfl)
    · have hf := c_ie c31001 hf
      refine lv_iload_n hx hb dX12_taken_36 rfl (lv_at hl 3 rfl) ?_
      refine lv_iload_n hx hb dX12_taken_37 rfl (lv_at hl 2 rfl) ?_
      refine lv_icmp_eq (tgt := 51) hx hb dX12_taken_38 (by decide) (fun c31002 => ?_) (fun c31002 => ?_)
      · have hf := c_it c31002 hf
        exact jX12_taken_51 C hD x1 x2 x3 g hf _ _ hP hS _ (lv_sub hl [0, 1, 2, 3] rfl)
      · have hf := c_ie c31002 hf
        refine lv_aload_n hx hb dX12_taken_41 rfl (lv_at hl 0 rfl) ?_
        refine c_get hx hb hts i_X12_taken_X12 hown hK hP 0 tM0 rfl 24 (by decide) (hts _ (List.mem_of_getElem? (i := 1) rfl)) (fun _ h9 => h9) rfl (v := .ref (ad 15)) rfl dX12_taken_42 ?_
        refine lv_iload_n hx hb dX12_taken_45 rfl (lv_at hl 3 rfl) ?_
        obtain ⟨hi31003, hf⟩ := c_gd hf
        refine c_iald (j := (x3).toNatClampNeg) hx hb hK hP 15 tM15 rfl (c_inV hi31003) dX12_taken_46 ?_
        refine lv_istore_n (lv' := [(3, .int (g.1 15 (x3).toNatClampNeg)), (0, .ref (ad 0)), (1, .int x1), (2, .int x2)]) hx hb dX12_taken_47 rfl hl (by decide) rfl (fun ls hl => ?_)
        refine lv_goto (tgt := 31) hx hb dX12_taken_48 (by decide) ?_
        exact ih x1 x2 ((g.1 15 (x3).toNatClampNeg)) g hf _ _ hP hS _ (lv_sub hl [1, 2, 3, 0] rfl)
def fX12_taken (g : c_G) (a1 : Int32) (a2 : Int32) : Option (Int32) :=
  if (fX12_isIn a2 ((0 : Int32)) ((6 : Int32))) = 0 then (some (-2 : Int32)) else ((fX12_isChild g a1).bind fun r2 => if r2 = 0 then (some (-11 : Int32)) else ((fX12_one g a1 ((0 : Int32))).bind fun r5 => fX12_taken_31 a1 a2 c_F a1 a2 r5 g))
set_option maxRecDepth 100000 in
set_option maxHeartbeats 4000000 in
theorem kX12_taken {l : Launch} {D : va_G} {tc : Nat → ClassId} {ad : Nat → Nat} {A : Nat → Prop} {E : (Nat → Nat) × (Nat → Nat) × Nat} (hD : c_D A ad TM) {a1 : Int32} {a2 : Int32} {g : c_G} {r : Int32} (hf : fX12_taken g a1 a2 = some r) : c_Mi l yX12_taken wsX12_taken (c_rm 2) D tc ad A E TM ([.ref (ad 0), .int a1, .int a2] : List Value) g g r := by
  refine c_ofW (bytes := cX12_taken) (maxL := 4) (ret := (some .int)) (by decide) rfl (Nat.le_of_ble_eq_true rfl) ?_
  intro p e s m below meth c ls C hP hS hl
  unfold fX12_taken at hf
  obtain ⟨hx, hb, hr, hml, hts, hown, hlk, hK, hE⟩ := id C
  have hl : lv_has ls 4 [(0, .ref (ad 0)), (1, .int a1), (2, .int a2)] := hl
  refine lv_iload_n hx hb dX12_taken_0 rfl (lv_at hl 2 rfl) ?_
  refine lv_iconst (v := (0 : Int32)) hx hb dX12_taken_1 (by decide) ?_
  refine lv_bipush (v := (6 : Int32)) hx hb dX12_taken_2 (by decide) ?_
  refine c_goi (va_runS (As := [.int a2, .int (0 : Int32), .int (6 : Int32)]) (rest := []) ⟨hx, hb, hml, hown, hts⟩ (kX12_isIn (T := TM) (g := g) rfl) (va_cwS 3 hts gX12_taken_X12_isIn rfl rfl rfl (by decide +kernel) ⟨Nat.le_of_ble_eq_true rfl, Nat.le_of_ble_eq_true rfl⟩) (c_preS hK hP hE hS) rfl rfl hl.1 rfl (lv_room (Nat.le_of_ble_eq_true rfl)) dX12_taken_4 ⟨Nat.zero_le _, Nat.zero_le _⟩) hS (fun H locs hP hS => ?_)
  refine lv_if_ne (tgt := 13) hx hb dX12_taken_7 (by decide) (fun c1 => ?_) (fun c1 => ?_)
  · have hf := c_ie c1 hf
    refine lv_aload_n hx hb dX12_taken_13 rfl (lv_at hl 0 rfl) ?_
    refine lv_iload_n hx hb dX12_taken_14 rfl (lv_at hl 1 rfl) ?_
    obtain ⟨r2, hc3, hf⟩ := c_bd hf
    refine c_goi (va_runV (As := [.int a1]) (rest := []) ⟨hx, hb, hml, hown, hts⟩ (kX12_isChild hD hc3) (cwV 1 hts gX12_taken_X12_isChild rfl rfl rfl (by decide +kernel) ⟨Nat.le_of_ble_eq_true rfl, Nat.le_of_ble_eq_true rfl⟩) (c_preV hK hP hE hS tM0 rfl) rfl rfl hl.1 rfl (lv_room (Nat.le_of_ble_eq_true rfl)) dX12_taken_15 ⟨Nat.zero_le _, Nat.zero_le _⟩) hS (fun H locs hP hS => ?_)
    refine lv_if_ne (tgt := 24) hx hb dX12_taken_18 (by decide) (fun c4 => ?_) (fun c4 => ?_)
    · have hf := c_ie c4 hf
      refine lv_aload_n hx hb dX12_taken_24 rfl (lv_at hl 0 rfl) ?_
      refine lv_iload_n hx hb dX12_taken_25 rfl (lv_at hl 1 rfl) ?_
      refine lv_iconst (v := (0 : Int32)) hx hb dX12_taken_26 (by decide) ?_
      obtain ⟨r5, hc6, hf⟩ := c_bd hf
      refine c_goi (va_runV (As := [.int a1, .int (0 : Int32)]) (rest := []) ⟨hx, hb, hml, hown, hts⟩ (kX12_one hD hc6) (cwV 2 hts gX12_taken_X12_one rfl rfl rfl (by decide +kernel) ⟨Nat.le_of_ble_eq_true rfl, Nat.le_of_ble_eq_true rfl⟩) (c_preV hK hP hE hS tM0 rfl) rfl rfl hl.1 rfl (lv_room (Nat.le_of_ble_eq_true rfl)) dX12_taken_27 ⟨Nat.zero_le _, Nat.zero_le _⟩) hS (fun H locs hP hS => ?_)
      refine lv_istore_n (lv' := [(3, .int r5), (0, .ref (ad 0)), (1, .int a1), (2, .int a2)]) hx hb dX12_taken_30 rfl hl (by decide) rfl (fun ls hl => ?_)
      exact jX12_taken_31 C hD c_F a1 a2 r5 g hf _ _ hP hS _ (lv_sub hl [1, 2, 3, 0] rfl)
    · have hf := c_it c4 hf
      refine lv_bipush (v := (-11 : Int32)) hx hb dX12_taken_21 (by decide) ?_
      exact c_iret hx hb hr hlk hP hS rfl ⟨rfl, Option.some.inj hf⟩ dX12_taken_23
  · have hf := c_it c1 hf
    refine lv_bipush (v := (-2 : Int32)) hx hb dX12_taken_10 (by decide) ?_
    exact c_iret hx hb hr hlk hP hS rfl ⟨rfl, Option.some.inj hf⟩ dX12_taken_12
theorem i_X12_count_X12 : ∀ w ∈ u_ws RX12 TX12 32, w ∈ wsX12_count := c_inP [5, 6, 7, 8, 9, 10, 11, 12, 13, 14, 15, 16, 17, 18, 19, 20, 21, 22, 23, 24, 25, 26, 27, 28, 29, 30, 31, 32, 33, 34, 35, 36] (by decide +kernel)
theorem dX12_count_0 : decode cX12_count 0 = .ok (.iload_n 1, 1) := by decide +kernel
theorem dX12_count_1 : decode cX12_count 1 = .ok (.tableswitch 90 0 6 #[43, 51, 56, 64, 72, 80, 85], 43) := by decide +kernel
theorem dX12_count_44 : decode cX12_count 44 = .ok (.aload_n 0, 1) := by decide +kernel
theorem dX12_count_45 : decode cX12_count 45 = .ok (.getfield 15, 3) := by decide +kernel
theorem dX12_count_48 : decode cX12_count 48 = .ok (.bipush 78, 2) := by decide +kernel
theorem dX12_count_50 : decode cX12_count 50 = .ok (.iaload, 1) := by decide +kernel
theorem dX12_count_51 : decode cX12_count 51 = .ok (.ireturn, 1) := by decide +kernel
theorem dX12_count_52 : decode cX12_count 52 = .ok (.aload_n 0, 1) := by decide +kernel
theorem dX12_count_53 : decode cX12_count 53 = .ok (.getfield 191, 3) := by decide +kernel
theorem dX12_count_56 : decode cX12_count 56 = .ok (.ireturn, 1) := by decide +kernel
theorem dX12_count_57 : decode cX12_count 57 = .ok (.aload_n 0, 1) := by decide +kernel
theorem dX12_count_58 : decode cX12_count 58 = .ok (.getfield 15, 3) := by decide +kernel
theorem dX12_count_61 : decode cX12_count 61 = .ok (.bipush 82, 2) := by decide +kernel
theorem dX12_count_63 : decode cX12_count 63 = .ok (.iaload, 1) := by decide +kernel
theorem dX12_count_64 : decode cX12_count 64 = .ok (.ireturn, 1) := by decide +kernel
theorem dX12_count_65 : decode cX12_count 65 = .ok (.aload_n 0, 1) := by decide +kernel
theorem dX12_count_66 : decode cX12_count 66 = .ok (.getfield 15, 3) := by decide +kernel
theorem dX12_count_69 : decode cX12_count 69 = .ok (.bipush 98, 2) := by decide +kernel
theorem dX12_count_71 : decode cX12_count 71 = .ok (.iaload, 1) := by decide +kernel
theorem dX12_count_72 : decode cX12_count 72 = .ok (.ireturn, 1) := by decide +kernel
theorem dX12_count_73 : decode cX12_count 73 = .ok (.aload_n 0, 1) := by decide +kernel
theorem dX12_count_74 : decode cX12_count 74 = .ok (.getfield 15, 3) := by decide +kernel
theorem dX12_count_77 : decode cX12_count 77 = .ok (.bipush 119, 2) := by decide +kernel
theorem dX12_count_79 : decode cX12_count 79 = .ok (.iaload, 1) := by decide +kernel
theorem dX12_count_80 : decode cX12_count 80 = .ok (.ireturn, 1) := by decide +kernel
theorem dX12_count_81 : decode cX12_count 81 = .ok (.aload_n 0, 1) := by decide +kernel
theorem dX12_count_82 : decode cX12_count 82 = .ok (.getfield 137, 3) := by decide +kernel
theorem dX12_count_85 : decode cX12_count 85 = .ok (.ireturn, 1) := by decide +kernel
theorem dX12_count_86 : decode cX12_count 86 = .ok (.aload_n 0, 1) := by decide +kernel
theorem dX12_count_87 : decode cX12_count 87 = .ok (.getfield 255, 3) := by decide +kernel
theorem dX12_count_90 : decode cX12_count 90 = .ok (.ireturn, 1) := by decide +kernel
theorem dX12_count_91 : decode cX12_count 91 = .ok (.bipush (-2), 2) := by decide +kernel
theorem dX12_count_93 : decode cX12_count 93 = .ok (.ireturn, 1) := by decide +kernel
def fX12_count (g : c_G) (a1 : Int32) : Option (Int32) :=
  if a1 = (0 : Int32) then (some (g.1 1 78)) else if a1 = (1 : Int32) then (some (g.1 0 8)) else if a1 = (2 : Int32) then (some (g.1 1 82)) else if a1 = (3 : Int32) then (some (g.1 1 98)) else if a1 = (4 : Int32) then (some (g.1 1 119)) else if a1 = (5 : Int32) then (some (g.1 0 5)) else if a1 = (6 : Int32) then (some (g.1 0 27)) else (some (-2 : Int32))
set_option maxRecDepth 100000 in
set_option maxHeartbeats 4000000 in
theorem kX12_count {l : Launch} {D : va_G} {tc : Nat → ClassId} {ad : Nat → Nat} {A : Nat → Prop} {E : (Nat → Nat) × (Nat → Nat) × Nat} (hD : c_D A ad TM) {a1 : Int32} {g : c_G} {r : Int32} (hf : fX12_count g a1 = some r) : c_Mi l yX12_count wsX12_count (c_rm 0) D tc ad A E TM ([.ref (ad 0), .int a1] : List Value) g g r := by
  refine c_ofW (bytes := cX12_count) (maxL := 2) (ret := (some .int)) (by decide) rfl (Nat.le_of_ble_eq_true rfl) ?_
  intro p e s m below meth c ls C hP hS hl
  unfold fX12_count at hf
  obtain ⟨hx, hb, hr, hml, hts, hown, hlk, hK, hE⟩ := id C
  have hl : lv_has ls 2 [(0, .ref (ad 0)), (1, .int a1)] := hl
  refine lv_iload_n hx hb dX12_count_0 rfl (lv_at hl 1 rfl) ?_
  by_cases c1 : a1 = (0 : Int32)
  · have hf := c_it c1 hf
    refine lv_tableIn (off := 43) (tgt := 44) hx hb dX12_count_1 (by rw [c1]; decide) (by rw [c1]; decide) (by rw [c1]; rfl) (by decide) ?_
    refine lv_aload_n hx hb dX12_count_44 rfl (lv_at hl 0 rfl) ?_
    refine c_get hx hb hts i_X12_count_X12 hown hK hP 0 tM0 rfl 0 (by decide) (hts _ (List.mem_of_getElem? (i := 1) rfl)) (fun _ h9 => h9) rfl (v := .ref (ad 1)) rfl dX12_count_45 ?_
    refine lv_bipush (v := (78 : Int32)) hx hb dX12_count_48 (by decide) ?_
    refine c_iald (j := 78) hx hb hK hP 1 tM1 (by decide) (c_inV (by decide)) dX12_count_50 ?_
    exact c_iret hx hb hr hlk hP hS rfl ⟨rfl, Option.some.inj hf⟩ dX12_count_51
  have hf := c_ie c1 hf
  by_cases c2 : a1 = (1 : Int32)
  · have hf := c_it c2 hf
    refine lv_tableIn (off := 51) (tgt := 52) hx hb dX12_count_1 (by rw [c2]; decide) (by rw [c2]; decide) (by rw [c2]; rfl) (by decide) ?_
    refine lv_aload_n hx hb dX12_count_52 rfl (lv_at hl 0 rfl) ?_
    refine c_get hx hb hts i_X12_count_X12 hown hK hP 0 tM0 rfl 8 (by decide) (hts _ (List.mem_of_getElem? (i := 2) rfl)) (fun _ h9 => h9) rfl (v := .int (g.1 0 8)) rfl dX12_count_53 ?_
    exact c_iret hx hb hr hlk hP hS rfl ⟨rfl, Option.some.inj hf⟩ dX12_count_56
  have hf := c_ie c2 hf
  by_cases c3 : a1 = (2 : Int32)
  · have hf := c_it c3 hf
    refine lv_tableIn (off := 56) (tgt := 57) hx hb dX12_count_1 (by rw [c3]; decide) (by rw [c3]; decide) (by rw [c3]; rfl) (by decide) ?_
    refine lv_aload_n hx hb dX12_count_57 rfl (lv_at hl 0 rfl) ?_
    refine c_get hx hb hts i_X12_count_X12 hown hK hP 0 tM0 rfl 0 (by decide) (hts _ (List.mem_of_getElem? (i := 1) rfl)) (fun _ h9 => h9) rfl (v := .ref (ad 1)) rfl dX12_count_58 ?_
    refine lv_bipush (v := (82 : Int32)) hx hb dX12_count_61 (by decide) ?_
    refine c_iald (j := 82) hx hb hK hP 1 tM1 (by decide) (c_inV (by decide)) dX12_count_63 ?_
    exact c_iret hx hb hr hlk hP hS rfl ⟨rfl, Option.some.inj hf⟩ dX12_count_64
  have hf := c_ie c3 hf
  by_cases c4 : a1 = (3 : Int32)
  · have hf := c_it c4 hf
    refine lv_tableIn (off := 64) (tgt := 65) hx hb dX12_count_1 (by rw [c4]; decide) (by rw [c4]; decide) (by rw [c4]; rfl) (by decide) ?_
    refine lv_aload_n hx hb dX12_count_65 rfl (lv_at hl 0 rfl) ?_
    refine c_get hx hb hts i_X12_count_X12 hown hK hP 0 tM0 rfl 0 (by decide) (hts _ (List.mem_of_getElem? (i := 1) rfl)) (fun _ h9 => h9) rfl (v := .ref (ad 1)) rfl dX12_count_66 ?_
    refine lv_bipush (v := (98 : Int32)) hx hb dX12_count_69 (by decide) ?_
    refine c_iald (j := 98) hx hb hK hP 1 tM1 (by decide) (c_inV (by decide)) dX12_count_71 ?_
    exact c_iret hx hb hr hlk hP hS rfl ⟨rfl, Option.some.inj hf⟩ dX12_count_72
  have hf := c_ie c4 hf
  by_cases c5 : a1 = (4 : Int32)
  · have hf := c_it c5 hf
    refine lv_tableIn (off := 72) (tgt := 73) hx hb dX12_count_1 (by rw [c5]; decide) (by rw [c5]; decide) (by rw [c5]; rfl) (by decide) ?_
    refine lv_aload_n hx hb dX12_count_73 rfl (lv_at hl 0 rfl) ?_
    refine c_get hx hb hts i_X12_count_X12 hown hK hP 0 tM0 rfl 0 (by decide) (hts _ (List.mem_of_getElem? (i := 1) rfl)) (fun _ h9 => h9) rfl (v := .ref (ad 1)) rfl dX12_count_74 ?_
    refine lv_bipush (v := (119 : Int32)) hx hb dX12_count_77 (by decide) ?_
    refine c_iald (j := 119) hx hb hK hP 1 tM1 (by decide) (c_inV (by decide)) dX12_count_79 ?_
    exact c_iret hx hb hr hlk hP hS rfl ⟨rfl, Option.some.inj hf⟩ dX12_count_80
  have hf := c_ie c5 hf
  by_cases c6 : a1 = (5 : Int32)
  · have hf := c_it c6 hf
    refine lv_tableIn (off := 80) (tgt := 81) hx hb dX12_count_1 (by rw [c6]; decide) (by rw [c6]; decide) (by rw [c6]; rfl) (by decide) ?_
    refine lv_aload_n hx hb dX12_count_81 rfl (lv_at hl 0 rfl) ?_
    refine c_get hx hb hts i_X12_count_X12 hown hK hP 0 tM0 rfl 5 (by decide) (hts _ (List.mem_of_getElem? (i := 3) rfl)) (fun _ h9 => h9) rfl (v := .int (g.1 0 5)) rfl dX12_count_82 ?_
    exact c_iret hx hb hr hlk hP hS rfl ⟨rfl, Option.some.inj hf⟩ dX12_count_85
  have hf := c_ie c6 hf
  by_cases c7 : a1 = (6 : Int32)
  · have hf := c_it c7 hf
    refine lv_tableIn (off := 85) (tgt := 86) hx hb dX12_count_1 (by rw [c7]; decide) (by rw [c7]; decide) (by rw [c7]; rfl) (by decide) ?_
    refine lv_aload_n hx hb dX12_count_86 rfl (lv_at hl 0 rfl) ?_
    refine c_get hx hb hts i_X12_count_X12 hown hK hP 0 tM0 rfl 27 (by decide) (hts _ (List.mem_of_getElem? (i := 4) rfl)) (fun _ h9 => h9) rfl (v := .int (g.1 0 27)) rfl dX12_count_87 ?_
    exact c_iret hx hb hr hlk hP hS rfl ⟨rfl, Option.some.inj hf⟩ dX12_count_90
  have hf := c_ie c7 hf
  have h9 := c_sw (x := a1) (lo := 0) (n := 6) (by decide) (fun k hj hk => by rcases (show k = 0 ∨ k = 1 ∨ k = 2 ∨ k = 3 ∨ k = 4 ∨ k = 5 ∨ k = 6 by omega) with rfl | rfl | rfl | rfl | rfl | rfl | rfl <;> assumption)
  refine lv_tableOut (tgt := 91) hx hb dX12_count_1 (by omega) (by decide) ?_
  refine lv_bipush (v := (-2 : Int32)) hx hb dX12_count_91 (by decide) ?_
  exact c_iret hx hb hr hlk hP hS rfl ⟨rfl, Option.some.inj hf⟩ dX12_count_93
theorem dX12_isTape_0 : decode cX12_isTape 0 = .ok (.iload_n 0, 1) := by decide +kernel
theorem dX12_isTape_1 : decode cX12_isTape 1 = .ok (.iconst 0, 1) := by decide +kernel
theorem dX12_isTape_2 : decode cX12_isTape 2 = .ok (.iconst 5, 1) := by decide +kernel
theorem dX12_isTape_3 : decode cX12_isTape 3 = .ok (.invokestatic 85, 3) := by decide +kernel
theorem dX12_isTape_6 : decode cX12_isTape 6 = .ok (.ireturn, 1) := by decide +kernel
set_option maxRecDepth 20000 in
theorem ggX12_isTape_X12_isIn : GoodIn wsX12_isTape wsX12_isIn := goodIn_r _ [4] (by decide +kernel) (by decide +kernel)
set_option maxRecDepth 20000 in
theorem gX12_isTape_X12_isIn : GoodIn wsX12_isTape (va_wsS RX12 85 yX12_isIn wsX12_isIn) := goodIn_app (goodIn_of _ (by decide +kernel)) ggX12_isTape_X12_isIn
def fX12_isTape (a1 : Int32) : Int32 :=
  (fX12_isIn a1 ((0 : Int32)) ((5 : Int32)))
set_option maxRecDepth 100000 in
set_option maxHeartbeats 4000000 in
theorem kX12_isTape {l : Launch} {D : va_G} {tc : Nat → ClassId} {ad : Nat → Nat} {A : Nat → Prop} {E : (Nat → Nat) × (Nat → Nat) × Nat} {T : List c_T} {a1 : Int32} {g : c_G} {r : Int32} (hf : fX12_isTape a1 = r) : c_Mi l yX12_isTape wsX12_isTape (c_rm 1) D tc ad A E T ([.int a1] : List Value) g g r := by
  refine c_ofW (bytes := cX12_isTape) (maxL := 1) (ret := (some .boolean)) (by decide) rfl (Nat.le_of_ble_eq_true rfl) ?_
  intro p e s m below meth c ls C hP hS hl
  unfold fX12_isTape at hf
  obtain ⟨hx, hb, hr, hml, hts, hown, hlk, hK, hE⟩ := id C
  have hl : lv_has ls 1 [(0, .int a1)] := hl
  refine lv_iload_n hx hb dX12_isTape_0 rfl (lv_at hl 0 rfl) ?_
  refine lv_iconst (v := (0 : Int32)) hx hb dX12_isTape_1 (by decide) ?_
  refine lv_iconst (v := (5 : Int32)) hx hb dX12_isTape_2 (by decide) ?_
  refine c_goi (va_runS (As := [.int a1, .int (0 : Int32), .int (5 : Int32)]) (rest := []) ⟨hx, hb, hml, hown, hts⟩ (kX12_isIn (T := T) (g := g) rfl) (va_cwS 3 hts gX12_isTape_X12_isIn rfl rfl rfl (by decide +kernel) ⟨Nat.le_of_ble_eq_true rfl, Nat.le_of_ble_eq_true rfl⟩) (c_preS hK hP hE hS) rfl rfl hl.1 rfl (lv_room (Nat.le_of_ble_eq_true rfl)) dX12_isTape_3 ⟨Nat.zero_le _, Nat.zero_le _⟩) hS (fun H locs hP hS => ?_)
  exact c_iret hx hb hr hlk hP hS (c_bN (bX12_isIn a1 ((0 : Int32)) ((5 : Int32)))) ⟨rfl, hf⟩ dX12_isTape_6
theorem bX12_isTape (a1 : Int32) : fX12_isTape a1 = 0 ∨ fX12_isTape a1 = 1 := by
  unfold fX12_isTape
  first | exact bX12_isIn _ _ _ | (repeat' split) <;> first | exact Or.inl rfl | exact Or.inr rfl
theorem i_X12_tape_X12 : ∀ w ∈ u_ws RX12 TX12 32, w ∈ wsX12_tape := c_inP [11, 12, 13, 14, 15, 16, 17, 18, 19, 20, 21, 22, 23, 24, 25, 26, 27, 28, 29, 30, 31, 32, 33, 34, 35, 36, 37, 38, 39, 40, 41, 42] (by decide +kernel)
theorem dX12_tape_0 : decode cX12_tape 0 = .ok (.iload_n 1, 1) := by decide +kernel
theorem dX12_tape_1 : decode cX12_tape 1 = .ok (.invokestatic 273, 3) := by decide +kernel
theorem dX12_tape_4 : decode cX12_tape 4 = .ok (.ifCond .ne 5, 3) := by decide +kernel
theorem dX12_tape_7 : decode cX12_tape 7 = .ok (.iconst (-1), 1) := by decide +kernel
theorem dX12_tape_8 : decode cX12_tape 8 = .ok (.ireturn, 1) := by decide +kernel
theorem dX12_tape_9 : decode cX12_tape 9 = .ok (.iload_n 2, 1) := by decide +kernel
theorem dX12_tape_10 : decode cX12_tape 10 = .ok (.iconst (-1), 1) := by decide +kernel
theorem dX12_tape_11 : decode cX12_tape 11 = .ok (.iconst 4, 1) := by decide +kernel
theorem dX12_tape_12 : decode cX12_tape 12 = .ok (.invokestatic 85, 3) := by decide +kernel
theorem dX12_tape_15 : decode cX12_tape 15 = .ok (.ifCond .eq 13, 3) := by decide +kernel
theorem dX12_tape_18 : decode cX12_tape 18 = .ok (.iload_n 2, 1) := by decide +kernel
theorem dX12_tape_19 : decode cX12_tape 19 = .ok (.ifCond .lt 12, 3) := by decide +kernel
theorem dX12_tape_22 : decode cX12_tape 22 = .ok (.iload_n 3, 1) := by decide +kernel
theorem dX12_tape_23 : decode cX12_tape 23 = .ok (.bipush 60, 2) := by decide +kernel
theorem dX12_tape_25 : decode cX12_tape 25 = .ok (.if_icmp .le 6, 3) := by decide +kernel
theorem dX12_tape_28 : decode cX12_tape 28 = .ok (.bipush (-2), 2) := by decide +kernel
theorem dX12_tape_30 : decode cX12_tape 30 = .ok (.ireturn, 1) := by decide +kernel
theorem dX12_tape_31 : decode cX12_tape 31 = .ok (.iload_n 2, 1) := by decide +kernel
theorem dX12_tape_32 : decode cX12_tape 32 = .ok (.ifCond .lt 10, 3) := by decide +kernel
theorem dX12_tape_35 : decode cX12_tape 35 = .ok (.iload_n 3, 1) := by decide +kernel
theorem dX12_tape_36 : decode cX12_tape 36 = .ok (.ifCond .ge 6, 3) := by decide +kernel
theorem dX12_tape_39 : decode cX12_tape 39 = .ok (.bipush (-14), 2) := by decide +kernel
theorem dX12_tape_41 : decode cX12_tape 41 = .ok (.ireturn, 1) := by decide +kernel
theorem dX12_tape_42 : decode cX12_tape 42 = .ok (.aload_n 0, 1) := by decide +kernel
theorem dX12_tape_43 : decode cX12_tape 43 = .ok (.getfield 68, 3) := by decide +kernel
theorem dX12_tape_46 : decode cX12_tape 46 = .ok (.iload_n 1, 1) := by decide +kernel
theorem dX12_tape_47 : decode cX12_tape 47 = .ok (.iload_n 2, 1) := by decide +kernel
theorem dX12_tape_48 : decode cX12_tape 48 = .ok (.iastore, 1) := by decide +kernel
theorem dX12_tape_49 : decode cX12_tape 49 = .ok (.aload_n 0, 1) := by decide +kernel
theorem dX12_tape_50 : decode cX12_tape 50 = .ok (.getfield 71, 3) := by decide +kernel
theorem dX12_tape_53 : decode cX12_tape 53 = .ok (.iload_n 1, 1) := by decide +kernel
theorem dX12_tape_54 : decode cX12_tape 54 = .ok (.iload_n 2, 1) := by decide +kernel
theorem dX12_tape_55 : decode cX12_tape 55 = .ok (.ifCond .ge 7, 3) := by decide +kernel
theorem dX12_tape_58 : decode cX12_tape 58 = .ok (.iconst 0, 1) := by decide +kernel
theorem dX12_tape_59 : decode cX12_tape 59 = .ok (.goto 4, 3) := by decide +kernel
theorem dX12_tape_62 : decode cX12_tape 62 = .ok (.iload_n 3, 1) := by decide +kernel
theorem dX12_tape_63 : decode cX12_tape 63 = .ok (.iastore, 1) := by decide +kernel
theorem dX12_tape_64 : decode cX12_tape 64 = .ok (.iconst 0, 1) := by decide +kernel
theorem dX12_tape_65 : decode cX12_tape 65 = .ok (.istore 4, 2) := by decide +kernel
theorem dX12_tape_67 : decode cX12_tape 67 = .ok (.iload 4, 2) := by decide +kernel
theorem dX12_tape_69 : decode cX12_tape 69 = .ok (.bipush 60, 2) := by decide +kernel
theorem dX12_tape_71 : decode cX12_tape 71 = .ok (.if_icmp .ge 22, 3) := by decide +kernel
theorem dX12_tape_74 : decode cX12_tape 74 = .ok (.aload_n 0, 1) := by decide +kernel
theorem dX12_tape_75 : decode cX12_tape 75 = .ok (.getfield 74, 3) := by decide +kernel
theorem dX12_tape_78 : decode cX12_tape 78 = .ok (.bipush 60, 2) := by decide +kernel
theorem dX12_tape_80 : decode cX12_tape 80 = .ok (.iload_n 1, 1) := by decide +kernel
theorem dX12_tape_81 : decode cX12_tape 81 = .ok (.imul, 1) := by decide +kernel
theorem dX12_tape_82 : decode cX12_tape 82 = .ok (.iload 4, 2) := by decide +kernel
theorem dX12_tape_84 : decode cX12_tape 84 = .ok (.iadd, 1) := by decide +kernel
theorem dX12_tape_85 : decode cX12_tape 85 = .ok (.lconst 0, 1) := by decide +kernel
theorem dX12_tape_86 : decode cX12_tape 86 = .ok (.lastore, 1) := by decide +kernel
theorem dX12_tape_87 : decode cX12_tape 87 = .ok (.iinc 4 1, 3) := by decide +kernel
theorem dX12_tape_90 : decode cX12_tape 90 = .ok (.goto (-23), 3) := by decide +kernel
theorem dX12_tape_93 : decode cX12_tape 93 = .ok (.iconst 1, 1) := by decide +kernel
theorem dX12_tape_94 : decode cX12_tape 94 = .ok (.ireturn, 1) := by decide +kernel
set_option maxRecDepth 20000 in
theorem ggX12_tape_X12_isTape : GoodIn wsX12_tape wsX12_isTape := goodIn_r _ [7, 8, 9, 6, 10] (by decide +kernel) (by decide +kernel)
set_option maxRecDepth 20000 in
theorem gX12_tape_X12_isTape : GoodIn wsX12_tape (va_wsS RX12 273 yX12_isTape wsX12_isTape) := goodIn_app (goodIn_of _ (by decide +kernel)) ggX12_tape_X12_isTape
set_option maxRecDepth 20000 in
theorem ggX12_tape_X12_isIn : GoodIn wsX12_tape wsX12_isIn := goodIn_r _ [10] (by decide +kernel) (by decide +kernel)
set_option maxRecDepth 20000 in
theorem gX12_tape_X12_isIn : GoodIn wsX12_tape (va_wsS RX12 85 yX12_isIn wsX12_isIn) := goodIn_app (goodIn_of _ (by decide +kernel)) ggX12_tape_X12_isIn
def fX12_tape_67  (a1 : Int32) (a2 : Int32) (a3 : Int32) : Nat → Int32 → Int32 → c_G → Option (c_G × Int32)
  | 0, _, _, _ => none
  | n + 1, x1, x4, g => if (60 : Int32) ≤ x4 then (some (g, (1 : Int32))) else (if c_in ((((60 : Int32) * x1) + x4)) (360) = true then c_let (c_sl g 20 ((((60 : Int32) * x1) + x4)).toNatClampNeg (0 : Int64)) fun g67003 => c_let (x4 + (1 : Int32)) fun v67004 => (fX12_tape_67 a1 a2 a3 n) x1 v67004 g67003 else none)
set_option maxRecDepth 100000 in
set_option maxHeartbeats 4000000 in
theorem jX12_tape_67 {p : Program} {l : Launch} {e : Env} {s : State} {m : MethodId} {below : List Frame} {meth : Method} {c : Code} {D : va_G} {tc : Nat → ClassId} {ad : Nat → Nat} {A : Nat → Prop} {E : (Nat → Nat) × (Nat → Nat) × Nat} {a1 : Int32} {a2 : Int32} {a3 : Int32} {g' : c_G} {r : Int32} (C : c_C p s m meth c D tc A E RX12 wsX12_tape cX12_tape 5 (some .int) ([.ref (ad 0), .int a1, .int a2, .int a3] : List Value).toArray) (hD : c_D A ad TM)  : ∀ (n : Nat) (x1 : Int32) (x4 : Int32) (g : c_G), fX12_tape_67 a1 a2 a3 n x1 x4 g = some (g', r) → ∀ (H : Heap) (locs : List Loc), va_P D vwCl (c_ws tc ad TM g) H → va_S A s.heap H locs → ∀ ls : Array Slot, lv_has ls 5 [(0, .ref (ad 0)), (1, .int x1), (4, .int x4)] → W p l e (c_rm 2) s m ([.ref (ad 0), .int a1, .int a2, .int a3] : List Value).toArray below meth c H locs 0 0 (MQ below (va_Qi (fun (x : Int32) (_ : Unit) => x = r) (fun _ t => va_P D vwCl (c_ws tc ad TM g') t.heap) A) ([.ref (ad 0), .int a1, .int a2, .int a3] : List Value).toArray s 0 0 A) (F0 m 67 ls []) := by
  obtain ⟨hx, hb, hr, hml, hts, hown, hlk, hK, hE⟩ := id C
  intro n
  induction n with
  | zero =>
    intro x1 x4 g hf
    cases hf
  | succ n ih =>
    intro x1 x4 g hf H locs hP hS ls hl
    unfold fX12_tape_67 at hf
    refine lv_iload hx hb dX12_tape_67 (lv_at hl 2 rfl) ?_
    refine lv_bipush (v := (60 : Int32)) hx hb dX12_tape_69 (by decide) ?_
    refine lv_icmp_ge (tgt := 93) hx hb dX12_tape_71 (by decide) (fun c67001 => ?_) (fun c67001 => ?_)
    · have hf := c_it c67001 hf
      refine lv_iconst (v := (1 : Int32)) hx hb dX12_tape_93 (by decide) ?_
      exact c_iret hx hb hr hlk hP hS rfl (c_inj hf) dX12_tape_94
    · have hf := c_ie c67001 hf
      refine lv_aload_n hx hb dX12_tape_74 rfl (lv_at hl 0 rfl) ?_
      refine c_get hx hb hts i_X12_tape_X12 hown hK hP 0 tM0 rfl 30 (by decide) (hts _ (List.mem_of_getElem? (i := 3) rfl)) (fun _ h9 => h9) rfl (v := .ref (ad 20)) rfl dX12_tape_75 ?_
      refine lv_bipush (v := (60 : Int32)) hx hb dX12_tape_78 (by decide) ?_
      refine lv_iload_n hx hb dX12_tape_80 rfl (lv_at hl 1 rfl) ?_
      refine lv_imul hx hb dX12_tape_81 ?_
      refine lv_iload hx hb dX12_tape_82 (lv_at hl 2 rfl) ?_
      refine lv_iadd hx hb dX12_tape_84 ?_
      refine lv_lconst (v := (0 : Int64)) hx hb dX12_tape_85 (by decide) ?_
      obtain ⟨hi67002, hf⟩ := c_gd hf
      obtain ⟨g67003, eg67003, hf⟩ := c_letE hf
      refine c_last (j := ((((60 : Int32) * x1) + x4)).toNatClampNeg) hx hb hK hP hD hS 20 tM20 rfl (c_inV hi67002) eg67003 dX12_tape_86 (fun H locs hP hS => ?_)
      obtain ⟨v67004, ev67004, hf⟩ := c_letE hf
      refine lv_iinc (v := v67004) (lv' := [(4, .int v67004), (0, .ref (ad 0)), (1, .int x1)]) hx hb dX12_tape_87 hl (k := 2) rfl (by rw [ev67004]; rfl) (by decide) rfl (fun ls hl => ?_)
      refine lv_goto (tgt := 67) hx hb dX12_tape_90 (by decide) ?_
      exact ih x1 v67004 g67003 hf _ _ hP hS _ (lv_sub hl [1, 2, 0] rfl)
def fX12_tape_63  (a1 : Int32) (a2 : Int32) (a3 : Int32) (x1 : Int32) (y1 : Int32) (y2 : Int32) (g : c_G) : Option (c_G × Int32) :=
  if c_in (y1) (6) = true then c_let (c_si g 19 (y1).toNatClampNeg y2) fun g63002 => fX12_tape_67 a1 a2 a3 c_F x1 ((0 : Int32)) g63002 else none
set_option maxRecDepth 100000 in
set_option maxHeartbeats 4000000 in
theorem jX12_tape_63 {p : Program} {l : Launch} {e : Env} {s : State} {m : MethodId} {below : List Frame} {meth : Method} {c : Code} {D : va_G} {tc : Nat → ClassId} {ad : Nat → Nat} {A : Nat → Prop} {E : (Nat → Nat) × (Nat → Nat) × Nat} {a1 : Int32} {a2 : Int32} {a3 : Int32} {g' : c_G} {r : Int32} (C : c_C p s m meth c D tc A E RX12 wsX12_tape cX12_tape 5 (some .int) ([.ref (ad 0), .int a1, .int a2, .int a3] : List Value).toArray) (hD : c_D A ad TM)  : ∀ (x1 : Int32) (y1 : Int32) (y2 : Int32) (g : c_G), fX12_tape_63 a1 a2 a3 x1 y1 y2 g = some (g', r) → ∀ (H : Heap) (locs : List Loc), va_P D vwCl (c_ws tc ad TM g) H → va_S A s.heap H locs → ∀ ls : Array Slot, lv_has ls 5 [(0, .ref (ad 0)), (1, .int x1)] → W p l e (c_rm 2) s m ([.ref (ad 0), .int a1, .int a2, .int a3] : List Value).toArray below meth c H locs 0 0 (MQ below (va_Qi (fun (x : Int32) (_ : Unit) => x = r) (fun _ t => va_P D vwCl (c_ws tc ad TM g') t.heap) A) ([.ref (ad 0), .int a1, .int a2, .int a3] : List Value).toArray s 0 0 A) (F0 m 63 ls [.int y2, .int y1, .ref (ad 19)]) := by
  obtain ⟨hx, hb, hr, hml, hts, hown, hlk, hK, hE⟩ := id C
  intro x1 y1 y2 g hf H locs hP hS ls hl
  unfold fX12_tape_63 at hf
  obtain ⟨hi63001, hf⟩ := c_gd hf
  obtain ⟨g63002, eg63002, hf⟩ := c_letE hf
  refine c_iast (j := (y1).toNatClampNeg) hx hb hK hP hD hS 19 tM19 rfl (c_inV hi63001) eg63002 dX12_tape_63 (fun H locs hP hS => ?_)
  refine lv_iconst (v := (0 : Int32)) hx hb dX12_tape_64 (by decide) ?_
  refine lv_istore (lv' := [(4, .int (0 : Int32)), (0, .ref (ad 0)), (1, .int x1)]) hx hb dX12_tape_65 hl (by decide) rfl (fun ls hl => ?_)
  exact jX12_tape_67 C hD c_F x1 ((0 : Int32)) g63002 hf _ _ hP hS _ (lv_sub hl [1, 2, 0] rfl)
def fX12_tape_42  (a1 : Int32) (a2 : Int32) (a3 : Int32) (x1 : Int32) (x2 : Int32) (x3 : Int32) (g : c_G) : Option (c_G × Int32) :=
  if c_in (x1) (6) = true then c_let (c_si g 18 (x1).toNatClampNeg x2) fun g42002 => if 0 ≤ x2 then (fX12_tape_63 a1 a2 a3 x1 x1 x3 g42002) else (fX12_tape_63 a1 a2 a3 x1 x1 ((0 : Int32)) g42002) else none
set_option maxRecDepth 100000 in
set_option maxHeartbeats 4000000 in
theorem jX12_tape_42 {p : Program} {l : Launch} {e : Env} {s : State} {m : MethodId} {below : List Frame} {meth : Method} {c : Code} {D : va_G} {tc : Nat → ClassId} {ad : Nat → Nat} {A : Nat → Prop} {E : (Nat → Nat) × (Nat → Nat) × Nat} {a1 : Int32} {a2 : Int32} {a3 : Int32} {g' : c_G} {r : Int32} (C : c_C p s m meth c D tc A E RX12 wsX12_tape cX12_tape 5 (some .int) ([.ref (ad 0), .int a1, .int a2, .int a3] : List Value).toArray) (hD : c_D A ad TM)  : ∀ (x1 : Int32) (x2 : Int32) (x3 : Int32) (g : c_G), fX12_tape_42 a1 a2 a3 x1 x2 x3 g = some (g', r) → ∀ (H : Heap) (locs : List Loc), va_P D vwCl (c_ws tc ad TM g) H → va_S A s.heap H locs → ∀ ls : Array Slot, lv_has ls 5 [(0, .ref (ad 0)), (1, .int x1), (2, .int x2), (3, .int x3)] → W p l e (c_rm 2) s m ([.ref (ad 0), .int a1, .int a2, .int a3] : List Value).toArray below meth c H locs 0 0 (MQ below (va_Qi (fun (x : Int32) (_ : Unit) => x = r) (fun _ t => va_P D vwCl (c_ws tc ad TM g') t.heap) A) ([.ref (ad 0), .int a1, .int a2, .int a3] : List Value).toArray s 0 0 A) (F0 m 42 ls []) := by
  obtain ⟨hx, hb, hr, hml, hts, hown, hlk, hK, hE⟩ := id C
  intro x1 x2 x3 g hf H locs hP hS ls hl
  unfold fX12_tape_42 at hf
  refine lv_aload_n hx hb dX12_tape_42 rfl (lv_at hl 0 rfl) ?_
  refine c_get hx hb hts i_X12_tape_X12 hown hK hP 0 tM0 rfl 28 (by decide) (hts _ (List.mem_of_getElem? (i := 1) rfl)) (fun _ h9 => h9) rfl (v := .ref (ad 18)) rfl dX12_tape_43 ?_
  refine lv_iload_n hx hb dX12_tape_46 rfl (lv_at hl 1 rfl) ?_
  refine lv_iload_n hx hb dX12_tape_47 rfl (lv_at hl 2 rfl) ?_
  obtain ⟨hi42001, hf⟩ := c_gd hf
  obtain ⟨g42002, eg42002, hf⟩ := c_letE hf
  refine c_iast (j := (x1).toNatClampNeg) hx hb hK hP hD hS 18 tM18 rfl (c_inV hi42001) eg42002 dX12_tape_48 (fun H locs hP hS => ?_)
  refine lv_aload_n hx hb dX12_tape_49 rfl (lv_at hl 0 rfl) ?_
  refine c_get hx hb hts i_X12_tape_X12 hown hK hP 0 tM0 rfl 29 (by decide) (hts _ (List.mem_of_getElem? (i := 2) rfl)) (fun _ h9 => h9) rfl (v := .ref (ad 19)) rfl dX12_tape_50 ?_
  refine lv_iload_n hx hb dX12_tape_53 rfl (lv_at hl 1 rfl) ?_
  refine lv_iload_n hx hb dX12_tape_54 rfl (lv_at hl 2 rfl) ?_
  refine lv_if_ge (tgt := 62) hx hb dX12_tape_55 (by decide) (fun c42003 => ?_) (fun c42003 => ?_)
  · have hf := c_it c42003 hf
    refine lv_iload_n hx hb dX12_tape_62 rfl (lv_at hl 3 rfl) ?_
    exact jX12_tape_63 C hD x1 x1 x3 g42002 hf _ _ hP hS _ (lv_sub hl [0, 1] rfl)
  · have hf := c_ie c42003 hf
    refine lv_iconst (v := (0 : Int32)) hx hb dX12_tape_58 (by decide) ?_
    refine lv_goto (tgt := 63) hx hb dX12_tape_59 (by decide) ?_
    exact jX12_tape_63 C hD x1 x1 ((0 : Int32)) g42002 hf _ _ hP hS _ (lv_sub hl [0, 1] rfl)
def fX12_tape_31  (a1 : Int32) (a2 : Int32) (a3 : Int32) (x1 : Int32) (x2 : Int32) (x3 : Int32) (g : c_G) : Option (c_G × Int32) :=
  if x2 < 0 then (fX12_tape_42 a1 a2 a3 x1 x2 x3 g) else (if 0 ≤ x3 then (fX12_tape_42 a1 a2 a3 x1 x2 x3 g) else (some (g, (-14 : Int32))))
set_option maxRecDepth 100000 in
set_option maxHeartbeats 4000000 in
theorem jX12_tape_31 {p : Program} {l : Launch} {e : Env} {s : State} {m : MethodId} {below : List Frame} {meth : Method} {c : Code} {D : va_G} {tc : Nat → ClassId} {ad : Nat → Nat} {A : Nat → Prop} {E : (Nat → Nat) × (Nat → Nat) × Nat} {a1 : Int32} {a2 : Int32} {a3 : Int32} {g' : c_G} {r : Int32} (C : c_C p s m meth c D tc A E RX12 wsX12_tape cX12_tape 5 (some .int) ([.ref (ad 0), .int a1, .int a2, .int a3] : List Value).toArray) (hD : c_D A ad TM)  : ∀ (x1 : Int32) (x2 : Int32) (x3 : Int32) (g : c_G), fX12_tape_31 a1 a2 a3 x1 x2 x3 g = some (g', r) → ∀ (H : Heap) (locs : List Loc), va_P D vwCl (c_ws tc ad TM g) H → va_S A s.heap H locs → ∀ ls : Array Slot, lv_has ls 5 [(0, .ref (ad 0)), (1, .int x1), (2, .int x2), (3, .int x3)] → W p l e (c_rm 2) s m ([.ref (ad 0), .int a1, .int a2, .int a3] : List Value).toArray below meth c H locs 0 0 (MQ below (va_Qi (fun (x : Int32) (_ : Unit) => x = r) (fun _ t => va_P D vwCl (c_ws tc ad TM g') t.heap) A) ([.ref (ad 0), .int a1, .int a2, .int a3] : List Value).toArray s 0 0 A) (F0 m 31 ls []) := by
  obtain ⟨hx, hb, hr, hml, hts, hown, hlk, hK, hE⟩ := id C
  intro x1 x2 x3 g hf H locs hP hS ls hl
  unfold fX12_tape_31 at hf
  refine lv_iload_n hx hb dX12_tape_31 rfl (lv_at hl 2 rfl) ?_
  refine lv_if_lt (tgt := 42) hx hb dX12_tape_32 (by decide) (fun c31001 => ?_) (fun c31001 => ?_)
  · have hf := c_it c31001 hf
    exact jX12_tape_42 C hD x1 x2 x3 g hf _ _ hP hS _ (lv_sub hl [0, 1, 2, 3] rfl)
  · have hf := c_ie c31001 hf
    refine lv_iload_n hx hb dX12_tape_35 rfl (lv_at hl 3 rfl) ?_
    refine lv_if_ge (tgt := 42) hx hb dX12_tape_36 (by decide) (fun c31002 => ?_) (fun c31002 => ?_)
    · have hf := c_it c31002 hf
      exact jX12_tape_42 C hD x1 x2 x3 g hf _ _ hP hS _ (lv_sub hl [0, 1, 2, 3] rfl)
    · have hf := c_ie c31002 hf
      refine lv_bipush (v := (-14 : Int32)) hx hb dX12_tape_39 (by decide) ?_
      exact c_iret hx hb hr hlk hP hS rfl (c_inj hf) dX12_tape_41
def fX12_tape (g : c_G) (a1 : Int32) (a2 : Int32) (a3 : Int32) : Option (c_G × Int32) :=
  if (fX12_isTape a1) = 0 then (some (g, (-1 : Int32))) else (if (fX12_isIn a2 ((-1 : Int32)) ((4 : Int32))) = 0 then (some (g, (-2 : Int32))) else (if a2 < 0 then (fX12_tape_31 a1 a2 a3 a1 a2 a3 g) else (if a3 ≤ (60 : Int32) then (fX12_tape_31 a1 a2 a3 a1 a2 a3 g) else (some (g, (-2 : Int32))))))
set_option maxRecDepth 100000 in
set_option maxHeartbeats 4000000 in
theorem kX12_tape {l : Launch} {D : va_G} {tc : Nat → ClassId} {ad : Nat → Nat} {A : Nat → Prop} {E : (Nat → Nat) × (Nat → Nat) × Nat} (hD : c_D A ad TM) {a1 : Int32} {a2 : Int32} {a3 : Int32} {g g' : c_G} {r : Int32} (hf : fX12_tape g a1 a2 a3 = some (g', r)) : c_Mi l yX12_tape wsX12_tape (c_rm 2) D tc ad A E TM ([.ref (ad 0), .int a1, .int a2, .int a3] : List Value) g g' r := by
  refine c_ofW (bytes := cX12_tape) (maxL := 5) (ret := (some .int)) (by decide) rfl (Nat.le_of_ble_eq_true rfl) ?_
  intro p e s m below meth c ls C hP hS hl
  unfold fX12_tape at hf
  obtain ⟨hx, hb, hr, hml, hts, hown, hlk, hK, hE⟩ := id C
  have hl : lv_has ls 5 [(0, .ref (ad 0)), (1, .int a1), (2, .int a2), (3, .int a3)] := hl
  refine lv_iload_n hx hb dX12_tape_0 rfl (lv_at hl 1 rfl) ?_
  refine c_goi (va_runS (As := [.int a1]) (rest := []) ⟨hx, hb, hml, hown, hts⟩ (kX12_isTape (T := TM) (g := g) rfl) (va_cwS 1 hts gX12_tape_X12_isTape rfl rfl rfl (by decide +kernel) ⟨Nat.le_of_ble_eq_true rfl, Nat.le_of_ble_eq_true rfl⟩) (c_preS hK hP hE hS) rfl rfl hl.1 rfl (lv_room (Nat.le_of_ble_eq_true rfl)) dX12_tape_1 ⟨Nat.zero_le _, Nat.zero_le _⟩) hS (fun H locs hP hS => ?_)
  refine lv_if_ne (tgt := 9) hx hb dX12_tape_4 (by decide) (fun c1 => ?_) (fun c1 => ?_)
  · have hf := c_ie c1 hf
    refine lv_iload_n hx hb dX12_tape_9 rfl (lv_at hl 2 rfl) ?_
    refine lv_iconst (v := (-1 : Int32)) hx hb dX12_tape_10 (by decide) ?_
    refine lv_iconst (v := (4 : Int32)) hx hb dX12_tape_11 (by decide) ?_
    refine c_goi (va_runS (As := [.int a2, .int (-1 : Int32), .int (4 : Int32)]) (rest := []) ⟨hx, hb, hml, hown, hts⟩ (kX12_isIn (T := TM) (g := g) rfl) (va_cwS 3 hts gX12_tape_X12_isIn rfl rfl rfl (by decide +kernel) ⟨Nat.le_of_ble_eq_true rfl, Nat.le_of_ble_eq_true rfl⟩) (c_preS hK hP hE hS) rfl rfl hl.1 rfl (lv_room (Nat.le_of_ble_eq_true rfl)) dX12_tape_12 ⟨Nat.zero_le _, Nat.zero_le _⟩) hS (fun H locs hP hS => ?_)
    refine lv_if_eq (tgt := 28) hx hb dX12_tape_15 (by decide) (fun c2 => ?_) (fun c2 => ?_)
    · have hf := c_it c2 hf
      refine lv_bipush (v := (-2 : Int32)) hx hb dX12_tape_28 (by decide) ?_
      exact c_iret hx hb hr hlk hP hS rfl (c_inj hf) dX12_tape_30
    · have hf := c_ie c2 hf
      refine lv_iload_n hx hb dX12_tape_18 rfl (lv_at hl 2 rfl) ?_
      refine lv_if_lt (tgt := 31) hx hb dX12_tape_19 (by decide) (fun c3 => ?_) (fun c3 => ?_)
      · have hf := c_it c3 hf
        exact jX12_tape_31 C hD a1 a2 a3 g hf _ _ hP hS _ (lv_sub hl [0, 1, 2, 3] rfl)
      · have hf := c_ie c3 hf
        refine lv_iload_n hx hb dX12_tape_22 rfl (lv_at hl 3 rfl) ?_
        refine lv_bipush (v := (60 : Int32)) hx hb dX12_tape_23 (by decide) ?_
        refine lv_icmp_le (tgt := 31) hx hb dX12_tape_25 (by decide) (fun c4 => ?_) (fun c4 => ?_)
        · have hf := c_it c4 hf
          exact jX12_tape_31 C hD a1 a2 a3 g hf _ _ hP hS _ (lv_sub hl [0, 1, 2, 3] rfl)
        · have hf := c_ie c4 hf
          refine lv_bipush (v := (-2 : Int32)) hx hb dX12_tape_28 (by decide) ?_
          exact c_iret hx hb hr hlk hP hS rfl (c_inj hf) dX12_tape_30
  · have hf := c_it c1 hf
    refine lv_iconst (v := (-1 : Int32)) hx hb dX12_tape_7 (by decide) ?_
    exact c_iret hx hb hr hlk hP hS rfl (c_inj hf) dX12_tape_8
theorem i_X12_item_X12 : ∀ w ∈ u_ws RX12 TX12 32, w ∈ wsX12_item := c_inP [11, 12, 13, 14, 15, 16, 17, 18, 19, 20, 21, 22, 23, 24, 25, 26, 27, 28, 29, 30, 31, 32, 33, 34, 35, 36, 37, 38, 39, 40, 41, 42] (by decide +kernel)
theorem dX12_item_0 : decode cX12_item 0 = .ok (.iload_n 1, 1) := by decide +kernel
theorem dX12_item_1 : decode cX12_item 1 = .ok (.invokestatic 273, 3) := by decide +kernel
theorem dX12_item_4 : decode cX12_item 4 = .ok (.ifCond .ne 5, 3) := by decide +kernel
theorem dX12_item_7 : decode cX12_item 7 = .ok (.iconst (-1), 1) := by decide +kernel
theorem dX12_item_8 : decode cX12_item 8 = .ok (.ireturn, 1) := by decide +kernel
theorem dX12_item_9 : decode cX12_item 9 = .ok (.aload_n 0, 1) := by decide +kernel
theorem dX12_item_10 : decode cX12_item 10 = .ok (.getfield 68, 3) := by decide +kernel
theorem dX12_item_13 : decode cX12_item 13 = .ok (.iload_n 1, 1) := by decide +kernel
theorem dX12_item_14 : decode cX12_item 14 = .ok (.iaload, 1) := by decide +kernel
theorem dX12_item_15 : decode cX12_item 15 = .ok (.ifCond .ge 6, 3) := by decide +kernel
theorem dX12_item_18 : decode cX12_item 18 = .ok (.bipush (-11), 2) := by decide +kernel
theorem dX12_item_20 : decode cX12_item 20 = .ok (.ireturn, 1) := by decide +kernel
theorem dX12_item_21 : decode cX12_item 21 = .ok (.iload_n 2, 1) := by decide +kernel
theorem dX12_item_22 : decode cX12_item 22 = .ok (.iconst 0, 1) := by decide +kernel
theorem dX12_item_23 : decode cX12_item 23 = .ok (.aload_n 0, 1) := by decide +kernel
theorem dX12_item_24 : decode cX12_item 24 = .ok (.getfield 71, 3) := by decide +kernel
theorem dX12_item_27 : decode cX12_item 27 = .ok (.iload_n 1, 1) := by decide +kernel
theorem dX12_item_28 : decode cX12_item 28 = .ok (.iaload, 1) := by decide +kernel
theorem dX12_item_29 : decode cX12_item 29 = .ok (.iconst 1, 1) := by decide +kernel
theorem dX12_item_30 : decode cX12_item 30 = .ok (.isub, 1) := by decide +kernel
theorem dX12_item_31 : decode cX12_item 31 = .ok (.invokestatic 85, 3) := by decide +kernel
theorem dX12_item_34 : decode cX12_item 34 = .ok (.ifCond .ne 6, 3) := by decide +kernel
theorem dX12_item_37 : decode cX12_item 37 = .ok (.bipush (-13), 2) := by decide +kernel
theorem dX12_item_39 : decode cX12_item 39 = .ok (.ireturn, 1) := by decide +kernel
theorem dX12_item_40 : decode cX12_item 40 = .ok (.aload_n 0, 1) := by decide +kernel
theorem dX12_item_41 : decode cX12_item 41 = .ok (.getfield 68, 3) := by decide +kernel
theorem dX12_item_44 : decode cX12_item 44 = .ok (.iload_n 1, 1) := by decide +kernel
theorem dX12_item_45 : decode cX12_item 45 = .ok (.iaload, 1) := by decide +kernel
theorem dX12_item_46 : decode cX12_item 46 = .ok (.istore 5, 2) := by decide +kernel
theorem dX12_item_48 : decode cX12_item 48 = .ok (.aload_n 0, 1) := by decide +kernel
theorem dX12_item_49 : decode cX12_item 49 = .ok (.getfield 74, 3) := by decide +kernel
theorem dX12_item_52 : decode cX12_item 52 = .ok (.bipush 60, 2) := by decide +kernel
theorem dX12_item_54 : decode cX12_item 54 = .ok (.iload_n 1, 1) := by decide +kernel
theorem dX12_item_55 : decode cX12_item 55 = .ok (.imul, 1) := by decide +kernel
theorem dX12_item_56 : decode cX12_item 56 = .ok (.iload_n 2, 1) := by decide +kernel
theorem dX12_item_57 : decode cX12_item 57 = .ok (.iadd, 1) := by decide +kernel
theorem dX12_item_58 : decode cX12_item 58 = .ok (.iload 5, 2) := by decide +kernel
theorem dX12_item_60 : decode cX12_item 60 = .ok (.ifCond .ne 10, 3) := by decide +kernel
theorem dX12_item_63 : decode cX12_item 63 = .ok (.lload_n 3, 1) := by decide +kernel
theorem dX12_item_64 : decode cX12_item 64 = .ok (.l2i, 1) := by decide +kernel
theorem dX12_item_65 : decode cX12_item 65 = .ok (.i2b, 1) := by decide +kernel
theorem dX12_item_66 : decode cX12_item 66 = .ok (.i2l, 1) := by decide +kernel
theorem dX12_item_67 : decode cX12_item 67 = .ok (.goto 49, 3) := by decide +kernel
theorem dX12_item_70 : decode cX12_item 70 = .ok (.iload 5, 2) := by decide +kernel
theorem dX12_item_72 : decode cX12_item 72 = .ok (.iconst 1, 1) := by decide +kernel
theorem dX12_item_73 : decode cX12_item 73 = .ok (.if_icmp .ne 10, 3) := by decide +kernel
theorem dX12_item_76 : decode cX12_item 76 = .ok (.lload_n 3, 1) := by decide +kernel
theorem dX12_item_77 : decode cX12_item 77 = .ok (.l2i, 1) := by decide +kernel
theorem dX12_item_78 : decode cX12_item 78 = .ok (.i2s, 1) := by decide +kernel
theorem dX12_item_79 : decode cX12_item 79 = .ok (.i2l, 1) := by decide +kernel
theorem dX12_item_80 : decode cX12_item 80 = .ok (.goto 36, 3) := by decide +kernel
theorem dX12_item_83 : decode cX12_item 83 = .ok (.iload 5, 2) := by decide +kernel
theorem dX12_item_85 : decode cX12_item 85 = .ok (.iconst 2, 1) := by decide +kernel
theorem dX12_item_86 : decode cX12_item 86 = .ok (.if_icmp .ne 9, 3) := by decide +kernel
theorem dX12_item_89 : decode cX12_item 89 = .ok (.lload_n 3, 1) := by decide +kernel
theorem dX12_item_90 : decode cX12_item 90 = .ok (.l2i, 1) := by decide +kernel
theorem dX12_item_91 : decode cX12_item 91 = .ok (.i2l, 1) := by decide +kernel
theorem dX12_item_92 : decode cX12_item 92 = .ok (.goto 24, 3) := by decide +kernel
theorem dX12_item_95 : decode cX12_item 95 = .ok (.iload 5, 2) := by decide +kernel
theorem dX12_item_97 : decode cX12_item 97 = .ok (.iconst 3, 1) := by decide +kernel
theorem dX12_item_98 : decode cX12_item 98 = .ok (.if_icmp .ne 7, 3) := by decide +kernel
theorem dX12_item_101 : decode cX12_item 101 = .ok (.lload_n 3, 1) := by decide +kernel
theorem dX12_item_102 : decode cX12_item 102 = .ok (.goto 14, 3) := by decide +kernel
theorem dX12_item_105 : decode cX12_item 105 = .ok (.lload_n 3, 1) := by decide +kernel
theorem dX12_item_106 : decode cX12_item 106 = .ok (.lconst 0, 1) := by decide +kernel
theorem dX12_item_107 : decode cX12_item 107 = .ok (.lcmp, 1) := by decide +kernel
theorem dX12_item_108 : decode cX12_item 108 = .ok (.ifCond .eq 7, 3) := by decide +kernel
theorem dX12_item_111 : decode cX12_item 111 = .ok (.lconst 1, 1) := by decide +kernel
theorem dX12_item_112 : decode cX12_item 112 = .ok (.goto 4, 3) := by decide +kernel
theorem dX12_item_115 : decode cX12_item 115 = .ok (.lconst 0, 1) := by decide +kernel
theorem dX12_item_116 : decode cX12_item 116 = .ok (.lastore, 1) := by decide +kernel
theorem dX12_item_117 : decode cX12_item 117 = .ok (.iconst 1, 1) := by decide +kernel
theorem dX12_item_118 : decode cX12_item 118 = .ok (.ireturn, 1) := by decide +kernel
set_option maxRecDepth 20000 in
theorem ggX12_item_X12_isTape : GoodIn wsX12_item wsX12_isTape := goodIn_r _ [7, 8, 9, 6, 10] (by decide +kernel) (by decide +kernel)
set_option maxRecDepth 20000 in
theorem gX12_item_X12_isTape : GoodIn wsX12_item (va_wsS RX12 273 yX12_isTape wsX12_isTape) := goodIn_app (goodIn_of _ (by decide +kernel)) ggX12_item_X12_isTape
set_option maxRecDepth 20000 in
theorem ggX12_item_X12_isIn : GoodIn wsX12_item wsX12_isIn := goodIn_r _ [10] (by decide +kernel) (by decide +kernel)
set_option maxRecDepth 20000 in
theorem gX12_item_X12_isIn : GoodIn wsX12_item (va_wsS RX12 85 yX12_isIn wsX12_isIn) := goodIn_app (goodIn_of _ (by decide +kernel)) ggX12_item_X12_isIn
def fX12_item (g : c_G) (a1 : Int32) (a2 : Int32) (a3 : Int64) : Option (c_G × Int32) :=
  if (fX12_isTape a1) = 0 then (some (g, (-1 : Int32))) else (if c_in (a1) (6) = true then if 0 ≤ (g.1 18 (a1).toNatClampNeg) then (if (fX12_isIn a2 ((0 : Int32)) (((g.1 19 (a1).toNatClampNeg) - (1 : Int32)))) = 0 then (some (g, (-13 : Int32))) else (if (g.1 18 (a1).toNatClampNeg) = 0 then (c_let (((((((a3).toInt32)).toInt8.toInt32)).toInt64)) fun v22 => if c_in ((((60 : Int32) * a1) + a2)) (360) = true then c_let (c_sl g 20 ((((60 : Int32) * a1) + a2)).toNatClampNeg v22) fun g24 => some (g24, (1 : Int32)) else none) else (if (g.1 18 (a1).toNatClampNeg) = (1 : Int32) then (c_let (((((((a3).toInt32)).toInt16.toInt32)).toInt64)) fun v19 => if c_in ((((60 : Int32) * a1) + a2)) (360) = true then c_let (c_sl g 20 ((((60 : Int32) * a1) + a2)).toNatClampNeg v19) fun g21 => some (g21, (1 : Int32)) else none) else (if (g.1 18 (a1).toNatClampNeg) = (2 : Int32) then (c_let (((((a3).toInt32)).toInt64)) fun v16 => if c_in ((((60 : Int32) * a1) + a2)) (360) = true then c_let (c_sl g 20 ((((60 : Int32) * a1) + a2)).toNatClampNeg v16) fun g18 => some (g18, (1 : Int32)) else none) else (if (g.1 18 (a1).toNatClampNeg) = (3 : Int32) then (if c_in ((((60 : Int32) * a1) + a2)) (360) = true then c_let (c_sl g 20 ((((60 : Int32) * a1) + a2)).toNatClampNeg a3) fun g15 => some (g15, (1 : Int32)) else none) else (if (lg_cmp a3 (0 : Int64)) = 0 then (if c_in ((((60 : Int32) * a1) + a2)) (360) = true then c_let (c_sl g 20 ((((60 : Int32) * a1) + a2)).toNatClampNeg (0 : Int64)) fun g11 => some (g11, (1 : Int32)) else none) else (if c_in ((((60 : Int32) * a1) + a2)) (360) = true then c_let (c_sl g 20 ((((60 : Int32) * a1) + a2)).toNatClampNeg (1 : Int64)) fun g13 => some (g13, (1 : Int32)) else none))))))) else (some (g, (-11 : Int32))) else none)
set_option maxRecDepth 100000 in
set_option maxHeartbeats 4000000 in
theorem kX12_item {l : Launch} {D : va_G} {tc : Nat → ClassId} {ad : Nat → Nat} {A : Nat → Prop} {E : (Nat → Nat) × (Nat → Nat) × Nat} (hD : c_D A ad TM) {a1 : Int32} {a2 : Int32} {a3 : Int64} {g g' : c_G} {r : Int32} (hf : fX12_item g a1 a2 a3 = some (g', r)) : c_Mi l yX12_item wsX12_item (c_rm 2) D tc ad A E TM ([.ref (ad 0), .int a1, .int a2, .long a3] : List Value) g g' r := by
  refine c_ofW (bytes := cX12_item) (maxL := 6) (ret := (some .int)) (by decide) rfl (Nat.le_of_ble_eq_true rfl) ?_
  intro p e s m below meth c ls C hP hS hl
  unfold fX12_item at hf
  obtain ⟨hx, hb, hr, hml, hts, hown, hlk, hK, hE⟩ := id C
  have hl : lv_has ls 6 [(0, .ref (ad 0)), (1, .int a1), (2, .int a2), (3, .long a3)] := hl
  refine lv_iload_n hx hb dX12_item_0 rfl (lv_at hl 1 rfl) ?_
  refine c_goi (va_runS (As := [.int a1]) (rest := []) ⟨hx, hb, hml, hown, hts⟩ (kX12_isTape (T := TM) (g := g) rfl) (va_cwS 1 hts gX12_item_X12_isTape rfl rfl rfl (by decide +kernel) ⟨Nat.le_of_ble_eq_true rfl, Nat.le_of_ble_eq_true rfl⟩) (c_preS hK hP hE hS) rfl rfl hl.1 rfl (lv_room (Nat.le_of_ble_eq_true rfl)) dX12_item_1 ⟨Nat.zero_le _, Nat.zero_le _⟩) hS (fun H locs hP hS => ?_)
  refine lv_if_ne (tgt := 9) hx hb dX12_item_4 (by decide) (fun c1 => ?_) (fun c1 => ?_)
  · have hf := c_ie c1 hf
    refine lv_aload_n hx hb dX12_item_9 rfl (lv_at hl 0 rfl) ?_
    refine c_get hx hb hts i_X12_item_X12 hown hK hP 0 tM0 rfl 28 (by decide) (hts _ (List.mem_of_getElem? (i := 1) rfl)) (fun _ h9 => h9) rfl (v := .ref (ad 18)) rfl dX12_item_10 ?_
    refine lv_iload_n hx hb dX12_item_13 rfl (lv_at hl 1 rfl) ?_
    obtain ⟨hi2, hf⟩ := c_gd hf
    refine c_iald (j := (a1).toNatClampNeg) hx hb hK hP 18 tM18 rfl (c_inV hi2) dX12_item_14 ?_
    refine lv_if_ge (tgt := 21) hx hb dX12_item_15 (by decide) (fun c3 => ?_) (fun c3 => ?_)
    · have hf := c_it c3 hf
      refine lv_iload_n hx hb dX12_item_21 rfl (lv_at hl 2 rfl) ?_
      refine lv_iconst (v := (0 : Int32)) hx hb dX12_item_22 (by decide) ?_
      refine lv_aload_n hx hb dX12_item_23 rfl (lv_at hl 0 rfl) ?_
      refine c_get hx hb hts i_X12_item_X12 hown hK hP 0 tM0 rfl 29 (by decide) (hts _ (List.mem_of_getElem? (i := 2) rfl)) (fun _ h9 => h9) rfl (v := .ref (ad 19)) rfl dX12_item_24 ?_
      refine lv_iload_n hx hb dX12_item_27 rfl (lv_at hl 1 rfl) ?_
      refine c_iald (j := (a1).toNatClampNeg) hx hb hK hP 19 tM19 rfl (c_inV hi2) dX12_item_28 ?_
      refine lv_iconst (v := (1 : Int32)) hx hb dX12_item_29 (by decide) ?_
      refine lv_isub hx hb dX12_item_30 ?_
      refine c_goi (va_runS (As := [.int a2, .int (0 : Int32), .int ((g.1 19 (a1).toNatClampNeg) - (1 : Int32))]) (rest := []) ⟨hx, hb, hml, hown, hts⟩ (kX12_isIn (T := TM) (g := g) rfl) (va_cwS 3 hts gX12_item_X12_isIn rfl rfl rfl (by decide +kernel) ⟨Nat.le_of_ble_eq_true rfl, Nat.le_of_ble_eq_true rfl⟩) (c_preS hK hP hE hS) rfl rfl hl.1 rfl (lv_room (Nat.le_of_ble_eq_true rfl)) dX12_item_31 ⟨Nat.zero_le _, Nat.zero_le _⟩) hS (fun H locs hP hS => ?_)
      refine lv_if_ne (tgt := 40) hx hb dX12_item_34 (by decide) (fun c4 => ?_) (fun c4 => ?_)
      · have hf := c_ie c4 hf
        refine lv_aload_n hx hb dX12_item_40 rfl (lv_at hl 0 rfl) ?_
        refine c_get hx hb hts i_X12_item_X12 hown hK hP 0 tM0 rfl 28 (by decide) (hts _ (List.mem_of_getElem? (i := 1) rfl)) (fun _ h9 => h9) rfl (v := .ref (ad 18)) rfl dX12_item_41 ?_
        refine lv_iload_n hx hb dX12_item_44 rfl (lv_at hl 1 rfl) ?_
        refine c_iald (j := (a1).toNatClampNeg) hx hb hK hP 18 tM18 rfl (c_inV hi2) dX12_item_45 ?_
        refine lv_istore (lv' := [(5, .int (g.1 18 (a1).toNatClampNeg)), (0, .ref (ad 0)), (1, .int a1), (2, .int a2), (3, .long a3)]) hx hb dX12_item_46 hl (by decide) rfl (fun ls hl => ?_)
        refine lv_aload_n hx hb dX12_item_48 rfl (lv_at hl 1 rfl) ?_
        refine c_get hx hb hts i_X12_item_X12 hown hK hP 0 tM0 rfl 30 (by decide) (hts _ (List.mem_of_getElem? (i := 3) rfl)) (fun _ h9 => h9) rfl (v := .ref (ad 20)) rfl dX12_item_49 ?_
        refine lv_bipush (v := (60 : Int32)) hx hb dX12_item_52 (by decide) ?_
        refine lv_iload_n hx hb dX12_item_54 rfl (lv_at hl 2 rfl) ?_
        refine lv_imul hx hb dX12_item_55 ?_
        refine lv_iload_n hx hb dX12_item_56 rfl (lv_at hl 3 rfl) ?_
        refine lv_iadd hx hb dX12_item_57 ?_
        refine lv_iload hx hb dX12_item_58 (lv_at hl 0 rfl) ?_
        refine lv_if_ne (tgt := 70) hx hb dX12_item_60 (by decide) (fun c5 => ?_) (fun c5 => ?_)
        · have hf := c_ie c5 hf
          refine lv_iload hx hb dX12_item_70 (lv_at hl 0 rfl) ?_
          refine lv_iconst (v := (1 : Int32)) hx hb dX12_item_72 (by decide) ?_
          refine lv_icmp_ne (tgt := 83) hx hb dX12_item_73 (by decide) (fun c6 => ?_) (fun c6 => ?_)
          · have hf := c_ie c6 hf
            refine lv_iload hx hb dX12_item_83 (lv_at hl 0 rfl) ?_
            refine lv_iconst (v := (2 : Int32)) hx hb dX12_item_85 (by decide) ?_
            refine lv_icmp_ne (tgt := 95) hx hb dX12_item_86 (by decide) (fun c7 => ?_) (fun c7 => ?_)
            · have hf := c_ie c7 hf
              refine lv_iload hx hb dX12_item_95 (lv_at hl 0 rfl) ?_
              refine lv_iconst (v := (3 : Int32)) hx hb dX12_item_97 (by decide) ?_
              refine lv_icmp_ne (tgt := 105) hx hb dX12_item_98 (by decide) (fun c8 => ?_) (fun c8 => ?_)
              · have hf := c_ie c8 hf
                refine lv_lload_n hx hb dX12_item_105 rfl (lv_at hl 4 rfl) ?_
                refine lv_lconst (v := (0 : Int64)) hx hb dX12_item_106 (by decide) ?_
                refine W.lcmp hx hb dX12_item_107 ?_
                refine lv_if_eq (tgt := 115) hx hb dX12_item_108 (by decide) (fun c9 => ?_) (fun c9 => ?_)
                · have hf := c_it c9 hf
                  refine lv_lconst (v := (0 : Int64)) hx hb dX12_item_115 (by decide) ?_
                  obtain ⟨hi10, hf⟩ := c_gd hf
                  obtain ⟨g11, eg11, hf⟩ := c_letE hf
                  refine c_last (j := ((((60 : Int32) * a1) + a2)).toNatClampNeg) hx hb hK hP hD hS 20 tM20 rfl (c_inV hi10) eg11 dX12_item_116 (fun H locs hP hS => ?_)
                  refine lv_iconst (v := (1 : Int32)) hx hb dX12_item_117 (by decide) ?_
                  exact c_iret hx hb hr hlk hP hS rfl (c_inj hf) dX12_item_118
                · have hf := c_ie c9 hf
                  refine lv_lconst (v := (1 : Int64)) hx hb dX12_item_111 (by decide) ?_
                  refine lv_goto (tgt := 116) hx hb dX12_item_112 (by decide) ?_
                  obtain ⟨hi12, hf⟩ := c_gd hf
                  obtain ⟨g13, eg13, hf⟩ := c_letE hf
                  refine c_last (j := ((((60 : Int32) * a1) + a2)).toNatClampNeg) hx hb hK hP hD hS 20 tM20 rfl (c_inV hi12) eg13 dX12_item_116 (fun H locs hP hS => ?_)
                  refine lv_iconst (v := (1 : Int32)) hx hb dX12_item_117 (by decide) ?_
                  exact c_iret hx hb hr hlk hP hS rfl (c_inj hf) dX12_item_118
              · have hf := c_it c8 hf
                refine lv_lload_n hx hb dX12_item_101 rfl (lv_at hl 4 rfl) ?_
                refine lv_goto (tgt := 116) hx hb dX12_item_102 (by decide) ?_
                obtain ⟨hi14, hf⟩ := c_gd hf
                obtain ⟨g15, eg15, hf⟩ := c_letE hf
                refine c_last (j := ((((60 : Int32) * a1) + a2)).toNatClampNeg) hx hb hK hP hD hS 20 tM20 rfl (c_inV hi14) eg15 dX12_item_116 (fun H locs hP hS => ?_)
                refine lv_iconst (v := (1 : Int32)) hx hb dX12_item_117 (by decide) ?_
                exact c_iret hx hb hr hlk hP hS rfl (c_inj hf) dX12_item_118
            · have hf := c_it c7 hf
              refine lv_lload_n hx hb dX12_item_89 rfl (lv_at hl 4 rfl) ?_
              refine lv_l2i hx hb dX12_item_90 rfl ?_
              refine lv_i2l hx hb dX12_item_91 rfl ?_
              refine lv_goto (tgt := 116) hx hb dX12_item_92 (by decide) ?_
              obtain ⟨v16, ev16, hf⟩ := c_letE hf
              refine c_topl ev16 ?_
              obtain ⟨hi17, hf⟩ := c_gd hf
              obtain ⟨g18, eg18, hf⟩ := c_letE hf
              refine c_last (j := ((((60 : Int32) * a1) + a2)).toNatClampNeg) hx hb hK hP hD hS 20 tM20 rfl (c_inV hi17) eg18 dX12_item_116 (fun H locs hP hS => ?_)
              refine lv_iconst (v := (1 : Int32)) hx hb dX12_item_117 (by decide) ?_
              exact c_iret hx hb hr hlk hP hS rfl (c_inj hf) dX12_item_118
          · have hf := c_it c6 hf
            refine lv_lload_n hx hb dX12_item_76 rfl (lv_at hl 4 rfl) ?_
            refine lv_l2i hx hb dX12_item_77 rfl ?_
            refine lv_i2s hx hb dX12_item_78 rfl ?_
            refine lv_i2l hx hb dX12_item_79 rfl ?_
            refine lv_goto (tgt := 116) hx hb dX12_item_80 (by decide) ?_
            obtain ⟨v19, ev19, hf⟩ := c_letE hf
            refine c_topl ev19 ?_
            obtain ⟨hi20, hf⟩ := c_gd hf
            obtain ⟨g21, eg21, hf⟩ := c_letE hf
            refine c_last (j := ((((60 : Int32) * a1) + a2)).toNatClampNeg) hx hb hK hP hD hS 20 tM20 rfl (c_inV hi20) eg21 dX12_item_116 (fun H locs hP hS => ?_)
            refine lv_iconst (v := (1 : Int32)) hx hb dX12_item_117 (by decide) ?_
            exact c_iret hx hb hr hlk hP hS rfl (c_inj hf) dX12_item_118
        · have hf := c_it c5 hf
          refine lv_lload_n hx hb dX12_item_63 rfl (lv_at hl 4 rfl) ?_
          refine lv_l2i hx hb dX12_item_64 rfl ?_
          refine lv_i2b hx hb dX12_item_65 rfl ?_
          refine lv_i2l hx hb dX12_item_66 rfl ?_
          refine lv_goto (tgt := 116) hx hb dX12_item_67 (by decide) ?_
          obtain ⟨v22, ev22, hf⟩ := c_letE hf
          refine c_topl ev22 ?_
          obtain ⟨hi23, hf⟩ := c_gd hf
          obtain ⟨g24, eg24, hf⟩ := c_letE hf
          refine c_last (j := ((((60 : Int32) * a1) + a2)).toNatClampNeg) hx hb hK hP hD hS 20 tM20 rfl (c_inV hi23) eg24 dX12_item_116 (fun H locs hP hS => ?_)
          refine lv_iconst (v := (1 : Int32)) hx hb dX12_item_117 (by decide) ?_
          exact c_iret hx hb hr hlk hP hS rfl (c_inj hf) dX12_item_118
      · have hf := c_it c4 hf
        refine lv_bipush (v := (-13 : Int32)) hx hb dX12_item_37 (by decide) ?_
        exact c_iret hx hb hr hlk hP hS rfl (c_inj hf) dX12_item_39
    · have hf := c_ie c3 hf
      refine lv_bipush (v := (-11 : Int32)) hx hb dX12_item_18 (by decide) ?_
      exact c_iret hx hb hr hlk hP hS rfl (c_inj hf) dX12_item_20
  · have hf := c_it c1 hf
    refine lv_iconst (v := (-1 : Int32)) hx hb dX12_item_7 (by decide) ?_
    exact c_iret hx hb hr hlk hP hS rfl (c_inj hf) dX12_item_8
theorem i_X12_read_X12 : ∀ w ∈ u_ws RX12 TX12 32, w ∈ wsX12_read := c_inP [11, 12, 13, 14, 15, 16, 17, 18, 19, 20, 21, 22, 23, 24, 25, 26, 27, 28, 29, 30, 31, 32, 33, 34, 35, 36, 37, 38, 39, 40, 41, 42] (by decide +kernel)
theorem dX12_read_0 : decode cX12_read 0 = .ok (.iload_n 1, 1) := by decide +kernel
theorem dX12_read_1 : decode cX12_read 1 = .ok (.invokestatic 273, 3) := by decide +kernel
theorem dX12_read_4 : decode cX12_read 4 = .ok (.ifCond .eq 33, 3) := by decide +kernel
theorem dX12_read_7 : decode cX12_read 7 = .ok (.iload_n 2, 1) := by decide +kernel
theorem dX12_read_8 : decode cX12_read 8 = .ok (.iconst 0, 1) := by decide +kernel
theorem dX12_read_9 : decode cX12_read 9 = .ok (.aload_n 0, 1) := by decide +kernel
theorem dX12_read_10 : decode cX12_read 10 = .ok (.getfield 71, 3) := by decide +kernel
theorem dX12_read_13 : decode cX12_read 13 = .ok (.iload_n 1, 1) := by decide +kernel
theorem dX12_read_14 : decode cX12_read 14 = .ok (.iaload, 1) := by decide +kernel
theorem dX12_read_15 : decode cX12_read 15 = .ok (.iconst 1, 1) := by decide +kernel
theorem dX12_read_16 : decode cX12_read 16 = .ok (.isub, 1) := by decide +kernel
theorem dX12_read_17 : decode cX12_read 17 = .ok (.invokestatic 85, 3) := by decide +kernel
theorem dX12_read_20 : decode cX12_read 20 = .ok (.ifCond .eq 17, 3) := by decide +kernel
theorem dX12_read_23 : decode cX12_read 23 = .ok (.aload_n 0, 1) := by decide +kernel
theorem dX12_read_24 : decode cX12_read 24 = .ok (.getfield 74, 3) := by decide +kernel
theorem dX12_read_27 : decode cX12_read 27 = .ok (.bipush 60, 2) := by decide +kernel
theorem dX12_read_29 : decode cX12_read 29 = .ok (.iload_n 1, 1) := by decide +kernel
theorem dX12_read_30 : decode cX12_read 30 = .ok (.imul, 1) := by decide +kernel
theorem dX12_read_31 : decode cX12_read 31 = .ok (.iload_n 2, 1) := by decide +kernel
theorem dX12_read_32 : decode cX12_read 32 = .ok (.iadd, 1) := by decide +kernel
theorem dX12_read_33 : decode cX12_read 33 = .ok (.laload, 1) := by decide +kernel
theorem dX12_read_34 : decode cX12_read 34 = .ok (.goto 6, 3) := by decide +kernel
theorem dX12_read_37 : decode cX12_read 37 = .ok (.ldc2_w 247, 3) := by decide +kernel
theorem dX12_read_40 : decode cX12_read 40 = .ok (.lreturn, 1) := by decide +kernel
set_option maxRecDepth 20000 in
theorem ggX12_read_X12_isTape : GoodIn wsX12_read wsX12_isTape := goodIn_r _ [7, 8, 9, 6, 10] (by decide +kernel) (by decide +kernel)
set_option maxRecDepth 20000 in
theorem gX12_read_X12_isTape : GoodIn wsX12_read (va_wsS RX12 273 yX12_isTape wsX12_isTape) := goodIn_app (goodIn_of _ (by decide +kernel)) ggX12_read_X12_isTape
set_option maxRecDepth 20000 in
theorem ggX12_read_X12_isIn : GoodIn wsX12_read wsX12_isIn := goodIn_r _ [10] (by decide +kernel) (by decide +kernel)
set_option maxRecDepth 20000 in
theorem gX12_read_X12_isIn : GoodIn wsX12_read (va_wsS RX12 85 yX12_isIn wsX12_isIn) := goodIn_app (goodIn_of _ (by decide +kernel)) ggX12_read_X12_isIn
def fX12_read (g : c_G) (a1 : Int32) (a2 : Int32) : Option (Int64) :=
  if (fX12_isTape a1) = 0 then (some (-9223372036854775808 : Int64)) else (if c_in (a1) (6) = true then if (fX12_isIn a2 ((0 : Int32)) (((g.1 19 (a1).toNatClampNeg) - (1 : Int32)))) = 0 then (some (-9223372036854775808 : Int64)) else (if c_in ((((60 : Int32) * a1) + a2)) (360) = true then some (g.2.1 20 ((((60 : Int32) * a1) + a2)).toNatClampNeg) else none) else none)
set_option maxRecDepth 100000 in
set_option maxHeartbeats 4000000 in
theorem kX12_read {l : Launch} {D : va_G} {tc : Nat → ClassId} {ad : Nat → Nat} {A : Nat → Prop} {E : (Nat → Nat) × (Nat → Nat) × Nat} (hD : c_D A ad TM) {a1 : Int32} {a2 : Int32} {g : c_G} {r : Int64} (hf : fX12_read g a1 a2 = some r) : c_Ml l yX12_read wsX12_read (c_rm 2) D tc ad A E TM ([.ref (ad 0), .int a1, .int a2] : List Value) g g r := by
  refine c_ofW (bytes := cX12_read) (maxL := 3) (ret := (some .long)) (by decide) rfl (Nat.le_of_ble_eq_true rfl) ?_
  intro p e s m below meth c ls C hP hS hl
  unfold fX12_read at hf
  obtain ⟨hx, hb, hr, hml, hts, hown, hlk, hK, hE⟩ := id C
  have hl : lv_has ls 3 [(0, .ref (ad 0)), (1, .int a1), (2, .int a2)] := hl
  refine lv_iload_n hx hb dX12_read_0 rfl (lv_at hl 1 rfl) ?_
  refine c_goi (va_runS (As := [.int a1]) (rest := []) ⟨hx, hb, hml, hown, hts⟩ (kX12_isTape (T := TM) (g := g) rfl) (va_cwS 1 hts gX12_read_X12_isTape rfl rfl rfl (by decide +kernel) ⟨Nat.le_of_ble_eq_true rfl, Nat.le_of_ble_eq_true rfl⟩) (c_preS hK hP hE hS) rfl rfl hl.1 rfl (lv_room (Nat.le_of_ble_eq_true rfl)) dX12_read_1 ⟨Nat.zero_le _, Nat.zero_le _⟩) hS (fun H locs hP hS => ?_)
  refine lv_if_eq (tgt := 37) hx hb dX12_read_4 (by decide) (fun c1 => ?_) (fun c1 => ?_)
  · have hf := c_it c1 hf
    refine lv_ldc2 hx hb hown (v := (-9223372036854775808 : Int64)) (hts _ (List.mem_of_getElem? (i := 3) rfl)) dX12_read_37 ?_
    exact c_lret hx hb hr hlk hP hS ⟨rfl, Option.some.inj hf⟩ dX12_read_40
  · have hf := c_ie c1 hf
    refine lv_iload_n hx hb dX12_read_7 rfl (lv_at hl 2 rfl) ?_
    refine lv_iconst (v := (0 : Int32)) hx hb dX12_read_8 (by decide) ?_
    refine lv_aload_n hx hb dX12_read_9 rfl (lv_at hl 0 rfl) ?_
    refine c_get hx hb hts i_X12_read_X12 hown hK hP 0 tM0 rfl 29 (by decide) (hts _ (List.mem_of_getElem? (i := 1) rfl)) (fun _ h9 => h9) rfl (v := .ref (ad 19)) rfl dX12_read_10 ?_
    refine lv_iload_n hx hb dX12_read_13 rfl (lv_at hl 1 rfl) ?_
    obtain ⟨hi2, hf⟩ := c_gd hf
    refine c_iald (j := (a1).toNatClampNeg) hx hb hK hP 19 tM19 rfl (c_inV hi2) dX12_read_14 ?_
    refine lv_iconst (v := (1 : Int32)) hx hb dX12_read_15 (by decide) ?_
    refine lv_isub hx hb dX12_read_16 ?_
    refine c_goi (va_runS (As := [.int a2, .int (0 : Int32), .int ((g.1 19 (a1).toNatClampNeg) - (1 : Int32))]) (rest := []) ⟨hx, hb, hml, hown, hts⟩ (kX12_isIn (T := TM) (g := g) rfl) (va_cwS 3 hts gX12_read_X12_isIn rfl rfl rfl (by decide +kernel) ⟨Nat.le_of_ble_eq_true rfl, Nat.le_of_ble_eq_true rfl⟩) (c_preS hK hP hE hS) rfl rfl hl.1 rfl (lv_room (Nat.le_of_ble_eq_true rfl)) dX12_read_17 ⟨Nat.zero_le _, Nat.zero_le _⟩) hS (fun H locs hP hS => ?_)
    refine lv_if_eq (tgt := 37) hx hb dX12_read_20 (by decide) (fun c3 => ?_) (fun c3 => ?_)
    · have hf := c_it c3 hf
      refine lv_ldc2 hx hb hown (v := (-9223372036854775808 : Int64)) (hts _ (List.mem_of_getElem? (i := 3) rfl)) dX12_read_37 ?_
      exact c_lret hx hb hr hlk hP hS ⟨rfl, Option.some.inj hf⟩ dX12_read_40
    · have hf := c_ie c3 hf
      refine lv_aload_n hx hb dX12_read_23 rfl (lv_at hl 0 rfl) ?_
      refine c_get hx hb hts i_X12_read_X12 hown hK hP 0 tM0 rfl 30 (by decide) (hts _ (List.mem_of_getElem? (i := 2) rfl)) (fun _ h9 => h9) rfl (v := .ref (ad 20)) rfl dX12_read_24 ?_
      refine lv_bipush (v := (60 : Int32)) hx hb dX12_read_27 (by decide) ?_
      refine lv_iload_n hx hb dX12_read_29 rfl (lv_at hl 1 rfl) ?_
      refine lv_imul hx hb dX12_read_30 ?_
      refine lv_iload_n hx hb dX12_read_31 rfl (lv_at hl 2 rfl) ?_
      refine lv_iadd hx hb dX12_read_32 ?_
      obtain ⟨hi4, hf⟩ := c_gd hf
      refine c_lald (j := ((((60 : Int32) * a1) + a2)).toNatClampNeg) hx hb hK hP 20 tM20 rfl (c_inV hi4) dX12_read_33 ?_
      refine lv_goto (tgt := 40) hx hb dX12_read_34 (by decide) ?_
      exact c_lret hx hb hr hlk hP hS ⟨rfl, Option.some.inj hf⟩ dX12_read_40
theorem i_X12_shift_X12 : ∀ w ∈ u_ws RX12 TX12 32, w ∈ wsX12_shift := c_inP [12, 13, 14, 15, 16, 17, 18, 19, 20, 21, 22, 23, 24, 25, 26, 27, 28, 29, 30, 31, 32, 33, 34, 35, 36, 37, 38, 39, 40, 41, 42, 43] (by decide +kernel)
theorem dX12_shift_0 : decode cX12_shift 0 = .ok (.iload_n 1, 1) := by decide +kernel
theorem dX12_shift_1 : decode cX12_shift 1 = .ok (.invokestatic 273, 3) := by decide +kernel
theorem dX12_shift_4 : decode cX12_shift 4 = .ok (.ifCond .eq 10, 3) := by decide +kernel
theorem dX12_shift_7 : decode cX12_shift 7 = .ok (.iload_n 3, 1) := by decide +kernel
theorem dX12_shift_8 : decode cX12_shift 8 = .ok (.invokestatic 273, 3) := by decide +kernel
theorem dX12_shift_11 : decode cX12_shift 11 = .ok (.ifCond .ne 5, 3) := by decide +kernel
theorem dX12_shift_14 : decode cX12_shift 14 = .ok (.iconst (-1), 1) := by decide +kernel
theorem dX12_shift_15 : decode cX12_shift 15 = .ok (.ireturn, 1) := by decide +kernel
theorem dX12_shift_16 : decode cX12_shift 16 = .ok (.aload_n 0, 1) := by decide +kernel
theorem dX12_shift_17 : decode cX12_shift 17 = .ok (.getfield 68, 3) := by decide +kernel
theorem dX12_shift_20 : decode cX12_shift 20 = .ok (.iload_n 1, 1) := by decide +kernel
theorem dX12_shift_21 : decode cX12_shift 21 = .ok (.iaload, 1) := by decide +kernel
theorem dX12_shift_22 : decode cX12_shift 22 = .ok (.ifCond .lt 12, 3) := by decide +kernel
theorem dX12_shift_25 : decode cX12_shift 25 = .ok (.aload_n 0, 1) := by decide +kernel
theorem dX12_shift_26 : decode cX12_shift 26 = .ok (.getfield 68, 3) := by decide +kernel
theorem dX12_shift_29 : decode cX12_shift 29 = .ok (.iload_n 3, 1) := by decide +kernel
theorem dX12_shift_30 : decode cX12_shift 30 = .ok (.iaload, 1) := by decide +kernel
theorem dX12_shift_31 : decode cX12_shift 31 = .ok (.ifCond .ge 6, 3) := by decide +kernel
theorem dX12_shift_34 : decode cX12_shift 34 = .ok (.bipush (-11), 2) := by decide +kernel
theorem dX12_shift_36 : decode cX12_shift 36 = .ok (.ireturn, 1) := by decide +kernel
theorem dX12_shift_37 : decode cX12_shift 37 = .ok (.aload_n 0, 1) := by decide +kernel
theorem dX12_shift_38 : decode cX12_shift 38 = .ok (.getfield 68, 3) := by decide +kernel
theorem dX12_shift_41 : decode cX12_shift 41 = .ok (.iload_n 1, 1) := by decide +kernel
theorem dX12_shift_42 : decode cX12_shift 42 = .ok (.iaload, 1) := by decide +kernel
theorem dX12_shift_43 : decode cX12_shift 43 = .ok (.aload_n 0, 1) := by decide +kernel
theorem dX12_shift_44 : decode cX12_shift 44 = .ok (.getfield 68, 3) := by decide +kernel
theorem dX12_shift_47 : decode cX12_shift 47 = .ok (.iload_n 3, 1) := by decide +kernel
theorem dX12_shift_48 : decode cX12_shift 48 = .ok (.iaload, 1) := by decide +kernel
theorem dX12_shift_49 : decode cX12_shift 49 = .ok (.if_icmp .eq 6, 3) := by decide +kernel
theorem dX12_shift_52 : decode cX12_shift 52 = .ok (.bipush (-12), 2) := by decide +kernel
theorem dX12_shift_54 : decode cX12_shift 54 = .ok (.ireturn, 1) := by decide +kernel
theorem dX12_shift_55 : decode cX12_shift 55 = .ok (.iload 5, 2) := by decide +kernel
theorem dX12_shift_57 : decode cX12_shift 57 = .ok (.ifCond .lt 39, 3) := by decide +kernel
theorem dX12_shift_60 : decode cX12_shift 60 = .ok (.iload_n 2, 1) := by decide +kernel
theorem dX12_shift_61 : decode cX12_shift 61 = .ok (.ifCond .lt 35, 3) := by decide +kernel
theorem dX12_shift_64 : decode cX12_shift 64 = .ok (.iload 4, 2) := by decide +kernel
theorem dX12_shift_66 : decode cX12_shift 66 = .ok (.ifCond .lt 30, 3) := by decide +kernel
theorem dX12_shift_69 : decode cX12_shift 69 = .ok (.iload 5, 2) := by decide +kernel
theorem dX12_shift_71 : decode cX12_shift 71 = .ok (.aload_n 0, 1) := by decide +kernel
theorem dX12_shift_72 : decode cX12_shift 72 = .ok (.getfield 71, 3) := by decide +kernel
theorem dX12_shift_75 : decode cX12_shift 75 = .ok (.iload_n 1, 1) := by decide +kernel
theorem dX12_shift_76 : decode cX12_shift 76 = .ok (.iaload, 1) := by decide +kernel
theorem dX12_shift_77 : decode cX12_shift 77 = .ok (.iload_n 2, 1) := by decide +kernel
theorem dX12_shift_78 : decode cX12_shift 78 = .ok (.isub, 1) := by decide +kernel
theorem dX12_shift_79 : decode cX12_shift 79 = .ok (.if_icmp .gt 17, 3) := by decide +kernel
theorem dX12_shift_82 : decode cX12_shift 82 = .ok (.iload 5, 2) := by decide +kernel
theorem dX12_shift_84 : decode cX12_shift 84 = .ok (.aload_n 0, 1) := by decide +kernel
theorem dX12_shift_85 : decode cX12_shift 85 = .ok (.getfield 71, 3) := by decide +kernel
theorem dX12_shift_88 : decode cX12_shift 88 = .ok (.iload_n 3, 1) := by decide +kernel
theorem dX12_shift_89 : decode cX12_shift 89 = .ok (.iaload, 1) := by decide +kernel
theorem dX12_shift_90 : decode cX12_shift 90 = .ok (.iload 4, 2) := by decide +kernel
theorem dX12_shift_92 : decode cX12_shift 92 = .ok (.isub, 1) := by decide +kernel
theorem dX12_shift_93 : decode cX12_shift 93 = .ok (.if_icmp .le 6, 3) := by decide +kernel
theorem dX12_shift_96 : decode cX12_shift 96 = .ok (.bipush (-13), 2) := by decide +kernel
theorem dX12_shift_98 : decode cX12_shift 98 = .ok (.ireturn, 1) := by decide +kernel
theorem dX12_shift_99 : decode cX12_shift 99 = .ok (.iconst 0, 1) := by decide +kernel
theorem dX12_shift_100 : decode cX12_shift 100 = .ok (.istore 6, 2) := by decide +kernel
theorem dX12_shift_102 : decode cX12_shift 102 = .ok (.iload 6, 2) := by decide +kernel
theorem dX12_shift_104 : decode cX12_shift 104 = .ok (.iload 5, 2) := by decide +kernel
theorem dX12_shift_106 : decode cX12_shift 106 = .ok (.if_icmp .ge 30, 3) := by decide +kernel
theorem dX12_shift_109 : decode cX12_shift 109 = .ok (.aload_n 0, 1) := by decide +kernel
theorem dX12_shift_110 : decode cX12_shift 110 = .ok (.getfield 78, 3) := by decide +kernel
theorem dX12_shift_113 : decode cX12_shift 113 = .ok (.iload 6, 2) := by decide +kernel
theorem dX12_shift_115 : decode cX12_shift 115 = .ok (.aload_n 0, 1) := by decide +kernel
theorem dX12_shift_116 : decode cX12_shift 116 = .ok (.getfield 74, 3) := by decide +kernel
theorem dX12_shift_119 : decode cX12_shift 119 = .ok (.bipush 60, 2) := by decide +kernel
theorem dX12_shift_121 : decode cX12_shift 121 = .ok (.iload_n 1, 1) := by decide +kernel
theorem dX12_shift_122 : decode cX12_shift 122 = .ok (.imul, 1) := by decide +kernel
theorem dX12_shift_123 : decode cX12_shift 123 = .ok (.iload_n 2, 1) := by decide +kernel
theorem dX12_shift_124 : decode cX12_shift 124 = .ok (.iadd, 1) := by decide +kernel
theorem dX12_shift_125 : decode cX12_shift 125 = .ok (.iload 6, 2) := by decide +kernel
theorem dX12_shift_127 : decode cX12_shift 127 = .ok (.iadd, 1) := by decide +kernel
theorem dX12_shift_128 : decode cX12_shift 128 = .ok (.laload, 1) := by decide +kernel
theorem dX12_shift_129 : decode cX12_shift 129 = .ok (.lastore, 1) := by decide +kernel
theorem dX12_shift_130 : decode cX12_shift 130 = .ok (.iinc 6 1, 3) := by decide +kernel
theorem dX12_shift_133 : decode cX12_shift 133 = .ok (.goto (-31), 3) := by decide +kernel
theorem dX12_shift_136 : decode cX12_shift 136 = .ok (.iconst 0, 1) := by decide +kernel
theorem dX12_shift_137 : decode cX12_shift 137 = .ok (.istore 6, 2) := by decide +kernel
theorem dX12_shift_139 : decode cX12_shift 139 = .ok (.iload 6, 2) := by decide +kernel
theorem dX12_shift_141 : decode cX12_shift 141 = .ok (.iload 5, 2) := by decide +kernel
theorem dX12_shift_143 : decode cX12_shift 143 = .ok (.if_icmp .ge 31, 3) := by decide +kernel
theorem dX12_shift_146 : decode cX12_shift 146 = .ok (.aload_n 0, 1) := by decide +kernel
theorem dX12_shift_147 : decode cX12_shift 147 = .ok (.getfield 74, 3) := by decide +kernel
theorem dX12_shift_150 : decode cX12_shift 150 = .ok (.bipush 60, 2) := by decide +kernel
theorem dX12_shift_152 : decode cX12_shift 152 = .ok (.iload_n 3, 1) := by decide +kernel
theorem dX12_shift_153 : decode cX12_shift 153 = .ok (.imul, 1) := by decide +kernel
theorem dX12_shift_154 : decode cX12_shift 154 = .ok (.iload 4, 2) := by decide +kernel
theorem dX12_shift_156 : decode cX12_shift 156 = .ok (.iadd, 1) := by decide +kernel
theorem dX12_shift_157 : decode cX12_shift 157 = .ok (.iload 6, 2) := by decide +kernel
theorem dX12_shift_159 : decode cX12_shift 159 = .ok (.iadd, 1) := by decide +kernel
theorem dX12_shift_160 : decode cX12_shift 160 = .ok (.aload_n 0, 1) := by decide +kernel
theorem dX12_shift_161 : decode cX12_shift 161 = .ok (.getfield 78, 3) := by decide +kernel
theorem dX12_shift_164 : decode cX12_shift 164 = .ok (.iload 6, 2) := by decide +kernel
theorem dX12_shift_166 : decode cX12_shift 166 = .ok (.laload, 1) := by decide +kernel
theorem dX12_shift_167 : decode cX12_shift 167 = .ok (.lastore, 1) := by decide +kernel
theorem dX12_shift_168 : decode cX12_shift 168 = .ok (.iinc 6 1, 3) := by decide +kernel
theorem dX12_shift_171 : decode cX12_shift 171 = .ok (.goto (-32), 3) := by decide +kernel
theorem dX12_shift_174 : decode cX12_shift 174 = .ok (.iload 5, 2) := by decide +kernel
theorem dX12_shift_176 : decode cX12_shift 176 = .ok (.ireturn, 1) := by decide +kernel
set_option maxRecDepth 20000 in
theorem ggX12_shift_X12_isTape : GoodIn wsX12_shift wsX12_isTape := goodIn_r _ [8, 9, 10, 7, 11] (by decide +kernel) (by decide +kernel)
set_option maxRecDepth 20000 in
theorem gX12_shift_X12_isTape : GoodIn wsX12_shift (va_wsS RX12 273 yX12_isTape wsX12_isTape) := goodIn_app (goodIn_of _ (by decide +kernel)) ggX12_shift_X12_isTape
def fX12_shift_139  (a1 : Int32) (a2 : Int32) (a3 : Int32) (a4 : Int32) (a5 : Int32) : Nat → Int32 → Int32 → Int32 → Int32 → c_G → Option (c_G × Int32)
  | 0, _, _, _, _, _ => none
  | n + 1, x3, x4, x5, x6, g => if x5 ≤ x6 then (some (g, x5)) else (if c_in (x6) (60) = true then if c_in (((((60 : Int32) * x3) + x4) + x6)) (360) = true then c_let (c_sl g 20 (((((60 : Int32) * x3) + x4) + x6)).toNatClampNeg (g.2.1 21 (x6).toNatClampNeg)) fun g139004 => c_let (x6 + (1 : Int32)) fun v139005 => (fX12_shift_139 a1 a2 a3 a4 a5 n) x3 x4 x5 v139005 g139004 else none else none)
set_option maxRecDepth 100000 in
set_option maxHeartbeats 4000000 in
theorem jX12_shift_139 {p : Program} {l : Launch} {e : Env} {s : State} {m : MethodId} {below : List Frame} {meth : Method} {c : Code} {D : va_G} {tc : Nat → ClassId} {ad : Nat → Nat} {A : Nat → Prop} {E : (Nat → Nat) × (Nat → Nat) × Nat} {a1 : Int32} {a2 : Int32} {a3 : Int32} {a4 : Int32} {a5 : Int32} {g' : c_G} {r : Int32} (C : c_C p s m meth c D tc A E RX12 wsX12_shift cX12_shift 7 (some .int) ([.ref (ad 0), .int a1, .int a2, .int a3, .int a4, .int a5] : List Value).toArray) (hD : c_D A ad TM)  : ∀ (n : Nat) (x3 : Int32) (x4 : Int32) (x5 : Int32) (x6 : Int32) (g : c_G), fX12_shift_139 a1 a2 a3 a4 a5 n x3 x4 x5 x6 g = some (g', r) → ∀ (H : Heap) (locs : List Loc), va_P D vwCl (c_ws tc ad TM g) H → va_S A s.heap H locs → ∀ ls : Array Slot, lv_has ls 7 [(0, .ref (ad 0)), (3, .int x3), (4, .int x4), (5, .int x5), (6, .int x6)] → W p l e (c_rm 2) s m ([.ref (ad 0), .int a1, .int a2, .int a3, .int a4, .int a5] : List Value).toArray below meth c H locs 0 0 (MQ below (va_Qi (fun (x : Int32) (_ : Unit) => x = r) (fun _ t => va_P D vwCl (c_ws tc ad TM g') t.heap) A) ([.ref (ad 0), .int a1, .int a2, .int a3, .int a4, .int a5] : List Value).toArray s 0 0 A) (F0 m 139 ls []) := by
  obtain ⟨hx, hb, hr, hml, hts, hown, hlk, hK, hE⟩ := id C
  intro n
  induction n with
  | zero =>
    intro x3 x4 x5 x6 g hf
    cases hf
  | succ n ih =>
    intro x3 x4 x5 x6 g hf H locs hP hS ls hl
    unfold fX12_shift_139 at hf
    refine lv_iload hx hb dX12_shift_139 (lv_at hl 4 rfl) ?_
    refine lv_iload hx hb dX12_shift_141 (lv_at hl 3 rfl) ?_
    refine lv_icmp_ge (tgt := 174) hx hb dX12_shift_143 (by decide) (fun c139001 => ?_) (fun c139001 => ?_)
    · have hf := c_it c139001 hf
      refine lv_iload hx hb dX12_shift_174 (lv_at hl 3 rfl) ?_
      exact c_iret hx hb hr hlk hP hS rfl (c_inj hf) dX12_shift_176
    · have hf := c_ie c139001 hf
      refine lv_aload_n hx hb dX12_shift_146 rfl (lv_at hl 0 rfl) ?_
      refine c_get hx hb hts i_X12_shift_X12 hown hK hP 0 tM0 rfl 30 (by decide) (hts _ (List.mem_of_getElem? (i := 4) rfl)) (fun _ h9 => h9) rfl (v := .ref (ad 20)) rfl dX12_shift_147 ?_
      refine lv_bipush (v := (60 : Int32)) hx hb dX12_shift_150 (by decide) ?_
      refine lv_iload_n hx hb dX12_shift_152 rfl (lv_at hl 1 rfl) ?_
      refine lv_imul hx hb dX12_shift_153 ?_
      refine lv_iload hx hb dX12_shift_154 (lv_at hl 2 rfl) ?_
      refine lv_iadd hx hb dX12_shift_156 ?_
      refine lv_iload hx hb dX12_shift_157 (lv_at hl 4 rfl) ?_
      refine lv_iadd hx hb dX12_shift_159 ?_
      refine lv_aload_n hx hb dX12_shift_160 rfl (lv_at hl 0 rfl) ?_
      refine c_get hx hb hts i_X12_shift_X12 hown hK hP 0 tM0 rfl 31 (by decide) (hts _ (List.mem_of_getElem? (i := 3) rfl)) (fun _ h9 => h9) rfl (v := .ref (ad 21)) rfl dX12_shift_161 ?_
      refine lv_iload hx hb dX12_shift_164 (lv_at hl 4 rfl) ?_
      obtain ⟨hi139002, hf⟩ := c_gd hf
      refine c_lald (j := (x6).toNatClampNeg) hx hb hK hP 21 tM21 rfl (c_inV hi139002) dX12_shift_166 ?_
      obtain ⟨hi139003, hf⟩ := c_gd hf
      obtain ⟨g139004, eg139004, hf⟩ := c_letE hf
      refine c_last (j := (((((60 : Int32) * x3) + x4) + x6)).toNatClampNeg) hx hb hK hP hD hS 20 tM20 rfl (c_inV hi139003) eg139004 dX12_shift_167 (fun H locs hP hS => ?_)
      obtain ⟨v139005, ev139005, hf⟩ := c_letE hf
      refine lv_iinc (v := v139005) (lv' := [(6, .int v139005), (0, .ref (ad 0)), (3, .int x3), (4, .int x4), (5, .int x5)]) hx hb dX12_shift_168 hl (k := 4) rfl (by rw [ev139005]; rfl) (by decide) rfl (fun ls hl => ?_)
      refine lv_goto (tgt := 139) hx hb dX12_shift_171 (by decide) ?_
      exact ih x3 x4 x5 v139005 g139004 hf _ _ hP hS _ (lv_sub hl [1, 2, 3, 4, 0] rfl)
def fX12_shift_102  (a1 : Int32) (a2 : Int32) (a3 : Int32) (a4 : Int32) (a5 : Int32) : Nat → Int32 → Int32 → Int32 → Int32 → Int32 → Int32 → c_G → Option (c_G × Int32)
  | 0, _, _, _, _, _, _, _ => none
  | n + 1, x1, x2, x3, x4, x5, x6, g => if x5 ≤ x6 then (fX12_shift_139 a1 a2 a3 a4 a5 c_F x3 x4 x5 ((0 : Int32)) g) else (if c_in (((((60 : Int32) * x1) + x2) + x6)) (360) = true then if c_in (x6) (60) = true then c_let (c_sl g 21 (x6).toNatClampNeg (g.2.1 20 (((((60 : Int32) * x1) + x2) + x6)).toNatClampNeg)) fun g102004 => c_let (x6 + (1 : Int32)) fun v102005 => (fX12_shift_102 a1 a2 a3 a4 a5 n) x1 x2 x3 x4 x5 v102005 g102004 else none else none)
set_option maxRecDepth 100000 in
set_option maxHeartbeats 4000000 in
theorem jX12_shift_102 {p : Program} {l : Launch} {e : Env} {s : State} {m : MethodId} {below : List Frame} {meth : Method} {c : Code} {D : va_G} {tc : Nat → ClassId} {ad : Nat → Nat} {A : Nat → Prop} {E : (Nat → Nat) × (Nat → Nat) × Nat} {a1 : Int32} {a2 : Int32} {a3 : Int32} {a4 : Int32} {a5 : Int32} {g' : c_G} {r : Int32} (C : c_C p s m meth c D tc A E RX12 wsX12_shift cX12_shift 7 (some .int) ([.ref (ad 0), .int a1, .int a2, .int a3, .int a4, .int a5] : List Value).toArray) (hD : c_D A ad TM)  : ∀ (n : Nat) (x1 : Int32) (x2 : Int32) (x3 : Int32) (x4 : Int32) (x5 : Int32) (x6 : Int32) (g : c_G), fX12_shift_102 a1 a2 a3 a4 a5 n x1 x2 x3 x4 x5 x6 g = some (g', r) → ∀ (H : Heap) (locs : List Loc), va_P D vwCl (c_ws tc ad TM g) H → va_S A s.heap H locs → ∀ ls : Array Slot, lv_has ls 7 [(0, .ref (ad 0)), (1, .int x1), (2, .int x2), (3, .int x3), (4, .int x4), (5, .int x5), (6, .int x6)] → W p l e (c_rm 2) s m ([.ref (ad 0), .int a1, .int a2, .int a3, .int a4, .int a5] : List Value).toArray below meth c H locs 0 0 (MQ below (va_Qi (fun (x : Int32) (_ : Unit) => x = r) (fun _ t => va_P D vwCl (c_ws tc ad TM g') t.heap) A) ([.ref (ad 0), .int a1, .int a2, .int a3, .int a4, .int a5] : List Value).toArray s 0 0 A) (F0 m 102 ls []) := by
  obtain ⟨hx, hb, hr, hml, hts, hown, hlk, hK, hE⟩ := id C
  intro n
  induction n with
  | zero =>
    intro x1 x2 x3 x4 x5 x6 g hf
    cases hf
  | succ n ih =>
    intro x1 x2 x3 x4 x5 x6 g hf H locs hP hS ls hl
    unfold fX12_shift_102 at hf
    refine lv_iload hx hb dX12_shift_102 (lv_at hl 6 rfl) ?_
    refine lv_iload hx hb dX12_shift_104 (lv_at hl 5 rfl) ?_
    refine lv_icmp_ge (tgt := 136) hx hb dX12_shift_106 (by decide) (fun c102001 => ?_) (fun c102001 => ?_)
    · have hf := c_it c102001 hf
      refine lv_iconst (v := (0 : Int32)) hx hb dX12_shift_136 (by decide) ?_
      refine lv_istore (lv' := [(6, .int (0 : Int32)), (0, .ref (ad 0)), (1, .int x1), (2, .int x2), (3, .int x3), (4, .int x4), (5, .int x5)]) hx hb dX12_shift_137 hl (by decide) rfl (fun ls hl => ?_)
      exact jX12_shift_139 C hD c_F x3 x4 x5 ((0 : Int32)) g hf _ _ hP hS _ (lv_sub hl [1, 4, 5, 6, 0] rfl)
    · have hf := c_ie c102001 hf
      refine lv_aload_n hx hb dX12_shift_109 rfl (lv_at hl 0 rfl) ?_
      refine c_get hx hb hts i_X12_shift_X12 hown hK hP 0 tM0 rfl 31 (by decide) (hts _ (List.mem_of_getElem? (i := 3) rfl)) (fun _ h9 => h9) rfl (v := .ref (ad 21)) rfl dX12_shift_110 ?_
      refine lv_iload hx hb dX12_shift_113 (lv_at hl 6 rfl) ?_
      refine lv_aload_n hx hb dX12_shift_115 rfl (lv_at hl 0 rfl) ?_
      refine c_get hx hb hts i_X12_shift_X12 hown hK hP 0 tM0 rfl 30 (by decide) (hts _ (List.mem_of_getElem? (i := 4) rfl)) (fun _ h9 => h9) rfl (v := .ref (ad 20)) rfl dX12_shift_116 ?_
      refine lv_bipush (v := (60 : Int32)) hx hb dX12_shift_119 (by decide) ?_
      refine lv_iload_n hx hb dX12_shift_121 rfl (lv_at hl 1 rfl) ?_
      refine lv_imul hx hb dX12_shift_122 ?_
      refine lv_iload_n hx hb dX12_shift_123 rfl (lv_at hl 2 rfl) ?_
      refine lv_iadd hx hb dX12_shift_124 ?_
      refine lv_iload hx hb dX12_shift_125 (lv_at hl 6 rfl) ?_
      refine lv_iadd hx hb dX12_shift_127 ?_
      obtain ⟨hi102002, hf⟩ := c_gd hf
      refine c_lald (j := (((((60 : Int32) * x1) + x2) + x6)).toNatClampNeg) hx hb hK hP 20 tM20 rfl (c_inV hi102002) dX12_shift_128 ?_
      obtain ⟨hi102003, hf⟩ := c_gd hf
      obtain ⟨g102004, eg102004, hf⟩ := c_letE hf
      refine c_last (j := (x6).toNatClampNeg) hx hb hK hP hD hS 21 tM21 rfl (c_inV hi102003) eg102004 dX12_shift_129 (fun H locs hP hS => ?_)
      obtain ⟨v102005, ev102005, hf⟩ := c_letE hf
      refine lv_iinc (v := v102005) (lv' := [(6, .int v102005), (0, .ref (ad 0)), (1, .int x1), (2, .int x2), (3, .int x3), (4, .int x4), (5, .int x5)]) hx hb dX12_shift_130 hl (k := 6) rfl (by rw [ev102005]; rfl) (by decide) rfl (fun ls hl => ?_)
      refine lv_goto (tgt := 102) hx hb dX12_shift_133 (by decide) ?_
      exact ih x1 x2 x3 x4 x5 v102005 g102004 hf _ _ hP hS _ (lv_sub hl [1, 2, 3, 4, 5, 6, 0] rfl)
def fX12_shift (g : c_G) (a1 : Int32) (a2 : Int32) (a3 : Int32) (a4 : Int32) (a5 : Int32) : Option (c_G × Int32) :=
  if (fX12_isTape a1) = 0 then (some (g, (-1 : Int32))) else (if (fX12_isTape a3) = 0 then (some (g, (-1 : Int32))) else (if c_in (a1) (6) = true then if (g.1 18 (a1).toNatClampNeg) < 0 then (some (g, (-11 : Int32))) else (if c_in (a3) (6) = true then if 0 ≤ (g.1 18 (a3).toNatClampNeg) then (if (g.1 18 (a1).toNatClampNeg) = (g.1 18 (a3).toNatClampNeg) then (if a5 < 0 then (some (g, (-13 : Int32))) else (if a2 < 0 then (some (g, (-13 : Int32))) else (if a4 < 0 then (some (g, (-13 : Int32))) else (if ((g.1 19 (a1).toNatClampNeg) - a2) < a5 then (some (g, (-13 : Int32))) else (if a5 ≤ ((g.1 19 (a3).toNatClampNeg) - a4) then (fX12_shift_102 a1 a2 a3 a4 a5 c_F a1 a2 a3 a4 a5 ((0 : Int32)) g) else (some (g, (-13 : Int32)))))))) else (some (g, (-12 : Int32)))) else (some (g, (-11 : Int32))) else none) else none))
set_option maxRecDepth 100000 in
set_option maxHeartbeats 4000000 in
theorem kX12_shift {l : Launch} {D : va_G} {tc : Nat → ClassId} {ad : Nat → Nat} {A : Nat → Prop} {E : (Nat → Nat) × (Nat → Nat) × Nat} (hD : c_D A ad TM) {a1 : Int32} {a2 : Int32} {a3 : Int32} {a4 : Int32} {a5 : Int32} {g g' : c_G} {r : Int32} (hf : fX12_shift g a1 a2 a3 a4 a5 = some (g', r)) : c_Mi l yX12_shift wsX12_shift (c_rm 2) D tc ad A E TM ([.ref (ad 0), .int a1, .int a2, .int a3, .int a4, .int a5] : List Value) g g' r := by
  refine c_ofW (bytes := cX12_shift) (maxL := 7) (ret := (some .int)) (by decide) rfl (Nat.le_of_ble_eq_true rfl) ?_
  intro p e s m below meth c ls C hP hS hl
  unfold fX12_shift at hf
  obtain ⟨hx, hb, hr, hml, hts, hown, hlk, hK, hE⟩ := id C
  have hl : lv_has ls 7 [(0, .ref (ad 0)), (1, .int a1), (2, .int a2), (3, .int a3), (4, .int a4), (5, .int a5)] := hl
  refine lv_iload_n hx hb dX12_shift_0 rfl (lv_at hl 1 rfl) ?_
  refine c_goi (va_runS (As := [.int a1]) (rest := []) ⟨hx, hb, hml, hown, hts⟩ (kX12_isTape (T := TM) (g := g) rfl) (va_cwS 1 hts gX12_shift_X12_isTape rfl rfl rfl (by decide +kernel) ⟨Nat.le_of_ble_eq_true rfl, Nat.le_of_ble_eq_true rfl⟩) (c_preS hK hP hE hS) rfl rfl hl.1 rfl (lv_room (Nat.le_of_ble_eq_true rfl)) dX12_shift_1 ⟨Nat.zero_le _, Nat.zero_le _⟩) hS (fun H locs hP hS => ?_)
  refine lv_if_eq (tgt := 14) hx hb dX12_shift_4 (by decide) (fun c1 => ?_) (fun c1 => ?_)
  · have hf := c_it c1 hf
    refine lv_iconst (v := (-1 : Int32)) hx hb dX12_shift_14 (by decide) ?_
    exact c_iret hx hb hr hlk hP hS rfl (c_inj hf) dX12_shift_15
  · have hf := c_ie c1 hf
    refine lv_iload_n hx hb dX12_shift_7 rfl (lv_at hl 3 rfl) ?_
    refine c_goi (va_runS (As := [.int a3]) (rest := []) ⟨hx, hb, hml, hown, hts⟩ (kX12_isTape (T := TM) (g := g) rfl) (va_cwS 1 hts gX12_shift_X12_isTape rfl rfl rfl (by decide +kernel) ⟨Nat.le_of_ble_eq_true rfl, Nat.le_of_ble_eq_true rfl⟩) (c_preS hK hP hE hS) rfl rfl hl.1 rfl (lv_room (Nat.le_of_ble_eq_true rfl)) dX12_shift_8 ⟨Nat.zero_le _, Nat.zero_le _⟩) hS (fun H locs hP hS => ?_)
    refine lv_if_ne (tgt := 16) hx hb dX12_shift_11 (by decide) (fun c2 => ?_) (fun c2 => ?_)
    · have hf := c_ie c2 hf
      refine lv_aload_n hx hb dX12_shift_16 rfl (lv_at hl 0 rfl) ?_
      refine c_get hx hb hts i_X12_shift_X12 hown hK hP 0 tM0 rfl 28 (by decide) (hts _ (List.mem_of_getElem? (i := 1) rfl)) (fun _ h9 => h9) rfl (v := .ref (ad 18)) rfl dX12_shift_17 ?_
      refine lv_iload_n hx hb dX12_shift_20 rfl (lv_at hl 1 rfl) ?_
      obtain ⟨hi3, hf⟩ := c_gd hf
      refine c_iald (j := (a1).toNatClampNeg) hx hb hK hP 18 tM18 rfl (c_inV hi3) dX12_shift_21 ?_
      refine lv_if_lt (tgt := 34) hx hb dX12_shift_22 (by decide) (fun c4 => ?_) (fun c4 => ?_)
      · have hf := c_it c4 hf
        refine lv_bipush (v := (-11 : Int32)) hx hb dX12_shift_34 (by decide) ?_
        exact c_iret hx hb hr hlk hP hS rfl (c_inj hf) dX12_shift_36
      · have hf := c_ie c4 hf
        refine lv_aload_n hx hb dX12_shift_25 rfl (lv_at hl 0 rfl) ?_
        refine c_get hx hb hts i_X12_shift_X12 hown hK hP 0 tM0 rfl 28 (by decide) (hts _ (List.mem_of_getElem? (i := 1) rfl)) (fun _ h9 => h9) rfl (v := .ref (ad 18)) rfl dX12_shift_26 ?_
        refine lv_iload_n hx hb dX12_shift_29 rfl (lv_at hl 3 rfl) ?_
        obtain ⟨hi5, hf⟩ := c_gd hf
        refine c_iald (j := (a3).toNatClampNeg) hx hb hK hP 18 tM18 rfl (c_inV hi5) dX12_shift_30 ?_
        refine lv_if_ge (tgt := 37) hx hb dX12_shift_31 (by decide) (fun c6 => ?_) (fun c6 => ?_)
        · have hf := c_it c6 hf
          refine lv_aload_n hx hb dX12_shift_37 rfl (lv_at hl 0 rfl) ?_
          refine c_get hx hb hts i_X12_shift_X12 hown hK hP 0 tM0 rfl 28 (by decide) (hts _ (List.mem_of_getElem? (i := 1) rfl)) (fun _ h9 => h9) rfl (v := .ref (ad 18)) rfl dX12_shift_38 ?_
          refine lv_iload_n hx hb dX12_shift_41 rfl (lv_at hl 1 rfl) ?_
          refine c_iald (j := (a1).toNatClampNeg) hx hb hK hP 18 tM18 rfl (c_inV hi3) dX12_shift_42 ?_
          refine lv_aload_n hx hb dX12_shift_43 rfl (lv_at hl 0 rfl) ?_
          refine c_get hx hb hts i_X12_shift_X12 hown hK hP 0 tM0 rfl 28 (by decide) (hts _ (List.mem_of_getElem? (i := 1) rfl)) (fun _ h9 => h9) rfl (v := .ref (ad 18)) rfl dX12_shift_44 ?_
          refine lv_iload_n hx hb dX12_shift_47 rfl (lv_at hl 3 rfl) ?_
          refine c_iald (j := (a3).toNatClampNeg) hx hb hK hP 18 tM18 rfl (c_inV hi5) dX12_shift_48 ?_
          refine lv_icmp_eq (tgt := 55) hx hb dX12_shift_49 (by decide) (fun c7 => ?_) (fun c7 => ?_)
          · have hf := c_it c7 hf
            refine lv_iload hx hb dX12_shift_55 (lv_at hl 5 rfl) ?_
            refine lv_if_lt (tgt := 96) hx hb dX12_shift_57 (by decide) (fun c8 => ?_) (fun c8 => ?_)
            · have hf := c_it c8 hf
              refine lv_bipush (v := (-13 : Int32)) hx hb dX12_shift_96 (by decide) ?_
              exact c_iret hx hb hr hlk hP hS rfl (c_inj hf) dX12_shift_98
            · have hf := c_ie c8 hf
              refine lv_iload_n hx hb dX12_shift_60 rfl (lv_at hl 2 rfl) ?_
              refine lv_if_lt (tgt := 96) hx hb dX12_shift_61 (by decide) (fun c9 => ?_) (fun c9 => ?_)
              · have hf := c_it c9 hf
                refine lv_bipush (v := (-13 : Int32)) hx hb dX12_shift_96 (by decide) ?_
                exact c_iret hx hb hr hlk hP hS rfl (c_inj hf) dX12_shift_98
              · have hf := c_ie c9 hf
                refine lv_iload hx hb dX12_shift_64 (lv_at hl 4 rfl) ?_
                refine lv_if_lt (tgt := 96) hx hb dX12_shift_66 (by decide) (fun c10 => ?_) (fun c10 => ?_)
                · have hf := c_it c10 hf
                  refine lv_bipush (v := (-13 : Int32)) hx hb dX12_shift_96 (by decide) ?_
                  exact c_iret hx hb hr hlk hP hS rfl (c_inj hf) dX12_shift_98
                · have hf := c_ie c10 hf
                  refine lv_iload hx hb dX12_shift_69 (lv_at hl 5 rfl) ?_
                  refine lv_aload_n hx hb dX12_shift_71 rfl (lv_at hl 0 rfl) ?_
                  refine c_get hx hb hts i_X12_shift_X12 hown hK hP 0 tM0 rfl 29 (by decide) (hts _ (List.mem_of_getElem? (i := 2) rfl)) (fun _ h9 => h9) rfl (v := .ref (ad 19)) rfl dX12_shift_72 ?_
                  refine lv_iload_n hx hb dX12_shift_75 rfl (lv_at hl 1 rfl) ?_
                  refine c_iald (j := (a1).toNatClampNeg) hx hb hK hP 19 tM19 rfl (c_inV hi3) dX12_shift_76 ?_
                  refine lv_iload_n hx hb dX12_shift_77 rfl (lv_at hl 2 rfl) ?_
                  refine lv_isub hx hb dX12_shift_78 ?_
                  refine lv_icmp_gt (tgt := 96) hx hb dX12_shift_79 (by decide) (fun c11 => ?_) (fun c11 => ?_)
                  · have hf := c_it c11 hf
                    refine lv_bipush (v := (-13 : Int32)) hx hb dX12_shift_96 (by decide) ?_
                    exact c_iret hx hb hr hlk hP hS rfl (c_inj hf) dX12_shift_98
                  · have hf := c_ie c11 hf
                    refine lv_iload hx hb dX12_shift_82 (lv_at hl 5 rfl) ?_
                    refine lv_aload_n hx hb dX12_shift_84 rfl (lv_at hl 0 rfl) ?_
                    refine c_get hx hb hts i_X12_shift_X12 hown hK hP 0 tM0 rfl 29 (by decide) (hts _ (List.mem_of_getElem? (i := 2) rfl)) (fun _ h9 => h9) rfl (v := .ref (ad 19)) rfl dX12_shift_85 ?_
                    refine lv_iload_n hx hb dX12_shift_88 rfl (lv_at hl 3 rfl) ?_
                    refine c_iald (j := (a3).toNatClampNeg) hx hb hK hP 19 tM19 rfl (c_inV hi5) dX12_shift_89 ?_
                    refine lv_iload hx hb dX12_shift_90 (lv_at hl 4 rfl) ?_
                    refine lv_isub hx hb dX12_shift_92 ?_
                    refine lv_icmp_le (tgt := 99) hx hb dX12_shift_93 (by decide) (fun c12 => ?_) (fun c12 => ?_)
                    · have hf := c_it c12 hf
                      refine lv_iconst (v := (0 : Int32)) hx hb dX12_shift_99 (by decide) ?_
                      refine lv_istore (lv' := [(6, .int (0 : Int32)), (0, .ref (ad 0)), (1, .int a1), (2, .int a2), (3, .int a3), (4, .int a4), (5, .int a5)]) hx hb dX12_shift_100 hl (by decide) rfl (fun ls hl => ?_)
                      exact jX12_shift_102 C hD c_F a1 a2 a3 a4 a5 ((0 : Int32)) g hf _ _ hP hS _ (lv_sub hl [1, 2, 3, 4, 5, 6, 0] rfl)
                    · have hf := c_ie c12 hf
                      refine lv_bipush (v := (-13 : Int32)) hx hb dX12_shift_96 (by decide) ?_
                      exact c_iret hx hb hr hlk hP hS rfl (c_inj hf) dX12_shift_98
          · have hf := c_ie c7 hf
            refine lv_bipush (v := (-12 : Int32)) hx hb dX12_shift_52 (by decide) ?_
            exact c_iret hx hb hr hlk hP hS rfl (c_inj hf) dX12_shift_54
        · have hf := c_ie c6 hf
          refine lv_bipush (v := (-11 : Int32)) hx hb dX12_shift_34 (by decide) ?_
          exact c_iret hx hb hr hlk hP hS rfl (c_inj hf) dX12_shift_36
    · have hf := c_it c2 hf
      refine lv_iconst (v := (-1 : Int32)) hx hb dX12_shift_14 (by decide) ?_
      exact c_iret hx hb hr hlk hP hS rfl (c_inj hf) dX12_shift_15
theorem i_X12_judge_X12 : ∀ w ∈ u_ws RX12 TX12 32, w ∈ wsX12_judge := c_inP [16, 17, 18, 19, 20, 21, 22, 23, 24, 25, 26, 27, 28, 29, 30, 31, 32, 33, 34, 35, 36, 37, 38, 39, 40, 41, 42, 43, 44, 45, 46, 47] (by decide +kernel)
theorem dX12_judge_0 : decode cX12_judge 0 = .ok (.iload_n 1, 1) := by decide +kernel
theorem dX12_judge_1 : decode cX12_judge 1 = .ok (.invokestatic 273, 3) := by decide +kernel
theorem dX12_judge_4 : decode cX12_judge 4 = .ok (.ifCond .ne 5, 3) := by decide +kernel
theorem dX12_judge_7 : decode cX12_judge 7 = .ok (.iconst (-1), 1) := by decide +kernel
theorem dX12_judge_8 : decode cX12_judge 8 = .ok (.ireturn, 1) := by decide +kernel
theorem dX12_judge_9 : decode cX12_judge 9 = .ok (.aload_n 0, 1) := by decide +kernel
theorem dX12_judge_10 : decode cX12_judge 10 = .ok (.getfield 68, 3) := by decide +kernel
theorem dX12_judge_13 : decode cX12_judge 13 = .ok (.iload_n 1, 1) := by decide +kernel
theorem dX12_judge_14 : decode cX12_judge 14 = .ok (.iaload, 1) := by decide +kernel
theorem dX12_judge_15 : decode cX12_judge 15 = .ok (.iconst (-1), 1) := by decide +kernel
theorem dX12_judge_16 : decode cX12_judge 16 = .ok (.if_icmp .eq 16, 3) := by decide +kernel
theorem dX12_judge_19 : decode cX12_judge 19 = .ok (.aload_n 0, 1) := by decide +kernel
theorem dX12_judge_20 : decode cX12_judge 20 = .ok (.getfield 68, 3) := by decide +kernel
theorem dX12_judge_23 : decode cX12_judge 23 = .ok (.iload_n 1, 1) := by decide +kernel
theorem dX12_judge_24 : decode cX12_judge 24 = .ok (.iaload, 1) := by decide +kernel
theorem dX12_judge_25 : decode cX12_judge 25 = .ok (.iconst 4, 1) := by decide +kernel
theorem dX12_judge_26 : decode cX12_judge 26 = .ok (.if_icmp .eq 6, 3) := by decide +kernel
theorem dX12_judge_29 : decode cX12_judge 29 = .ok (.bipush (-12), 2) := by decide +kernel
theorem dX12_judge_31 : decode cX12_judge 31 = .ok (.ireturn, 1) := by decide +kernel
theorem dX12_judge_32 : decode cX12_judge 32 = .ok (.iconst 0, 1) := by decide +kernel
theorem dX12_judge_33 : decode cX12_judge 33 = .ok (.istore_n 3, 1) := by decide +kernel
theorem dX12_judge_34 : decode cX12_judge 34 = .ok (.iload_n 3, 1) := by decide +kernel
theorem dX12_judge_35 : decode cX12_judge 35 = .ok (.bipush 6, 2) := by decide +kernel
theorem dX12_judge_37 : decode cX12_judge 37 = .ok (.if_icmp .ge 77, 3) := by decide +kernel
theorem dX12_judge_40 : decode cX12_judge 40 = .ok (.iload_n 2, 1) := by decide +kernel
theorem dX12_judge_41 : decode cX12_judge 41 = .ok (.i2l, 1) := by decide +kernel
theorem dX12_judge_42 : decode cX12_judge 42 = .ok (.iload_n 3, 1) := by decide +kernel
theorem dX12_judge_43 : decode cX12_judge 43 = .ok (.i2l, 1) := by decide +kernel
theorem dX12_judge_44 : decode cX12_judge 44 = .ok (.ladd, 1) := by decide +kernel
theorem dX12_judge_45 : decode cX12_judge 45 = .ok (.lstore 4, 2) := by decide +kernel
theorem dX12_judge_47 : decode cX12_judge 47 = .ok (.iload_n 2, 1) := by decide +kernel
theorem dX12_judge_48 : decode cX12_judge 48 = .ok (.ifCond .lt 16, 3) := by decide +kernel
theorem dX12_judge_51 : decode cX12_judge 51 = .ok (.lload 4, 2) := by decide +kernel
theorem dX12_judge_53 : decode cX12_judge 53 = .ok (.aload_n 0, 1) := by decide +kernel
theorem dX12_judge_54 : decode cX12_judge 54 = .ok (.getfield 71, 3) := by decide +kernel
theorem dX12_judge_57 : decode cX12_judge 57 = .ok (.iload_n 1, 1) := by decide +kernel
theorem dX12_judge_58 : decode cX12_judge 58 = .ok (.iaload, 1) := by decide +kernel
theorem dX12_judge_59 : decode cX12_judge 59 = .ok (.i2l, 1) := by decide +kernel
theorem dX12_judge_60 : decode cX12_judge 60 = .ok (.lcmp, 1) := by decide +kernel
theorem dX12_judge_61 : decode cX12_judge 61 = .ok (.ifCond .lt 8, 3) := by decide +kernel
theorem dX12_judge_64 : decode cX12_judge 64 = .ok (.bipush 100, 2) := by decide +kernel
theorem dX12_judge_66 : decode cX12_judge 66 = .ok (.iload_n 3, 1) := by decide +kernel
theorem dX12_judge_67 : decode cX12_judge 67 = .ok (.iadd, 1) := by decide +kernel
theorem dX12_judge_68 : decode cX12_judge 68 = .ok (.ireturn, 1) := by decide +kernel
theorem dX12_judge_69 : decode cX12_judge 69 = .ok (.aload_n 0, 1) := by decide +kernel
theorem dX12_judge_70 : decode cX12_judge 70 = .ok (.getfield 74, 3) := by decide +kernel
theorem dX12_judge_73 : decode cX12_judge 73 = .ok (.bipush 60, 2) := by decide +kernel
theorem dX12_judge_75 : decode cX12_judge 75 = .ok (.iload_n 1, 1) := by decide +kernel
theorem dX12_judge_76 : decode cX12_judge 76 = .ok (.imul, 1) := by decide +kernel
theorem dX12_judge_77 : decode cX12_judge 77 = .ok (.lload 4, 2) := by decide +kernel
theorem dX12_judge_79 : decode cX12_judge 79 = .ok (.l2i, 1) := by decide +kernel
theorem dX12_judge_80 : decode cX12_judge 80 = .ok (.iadd, 1) := by decide +kernel
theorem dX12_judge_81 : decode cX12_judge 81 = .ok (.laload, 1) := by decide +kernel
theorem dX12_judge_82 : decode cX12_judge 82 = .ok (.aload_n 0, 1) := by decide +kernel
theorem dX12_judge_83 : decode cX12_judge 83 = .ok (.aload_n 0, 1) := by decide +kernel
theorem dX12_judge_84 : decode cX12_judge 84 = .ok (.getfield 15, 3) := by decide +kernel
theorem dX12_judge_87 : decode cX12_judge 87 = .ok (.iload_n 3, 1) := by decide +kernel
theorem dX12_judge_88 : decode cX12_judge 88 = .ok (.iconst 1, 1) := by decide +kernel
theorem dX12_judge_89 : decode cX12_judge 89 = .ok (.invokevirtual 118, 3) := by decide +kernel
theorem dX12_judge_92 : decode cX12_judge 92 = .ok (.iconst (-1), 1) := by decide +kernel
theorem dX12_judge_93 : decode cX12_judge 93 = .ok (.if_icmp .ne 7, 3) := by decide +kernel
theorem dX12_judge_96 : decode cX12_judge 96 = .ok (.iconst 0, 1) := by decide +kernel
theorem dX12_judge_97 : decode cX12_judge 97 = .ok (.goto 4, 3) := by decide +kernel
theorem dX12_judge_100 : decode cX12_judge 100 = .ok (.iconst 1, 1) := by decide +kernel
theorem dX12_judge_101 : decode cX12_judge 101 = .ok (.i2l, 1) := by decide +kernel
theorem dX12_judge_102 : decode cX12_judge 102 = .ok (.lcmp, 1) := by decide +kernel
theorem dX12_judge_103 : decode cX12_judge 103 = .ok (.ifCond .eq 5, 3) := by decide +kernel
theorem dX12_judge_106 : decode cX12_judge 106 = .ok (.iload_n 3, 1) := by decide +kernel
theorem dX12_judge_107 : decode cX12_judge 107 = .ok (.ireturn, 1) := by decide +kernel
theorem dX12_judge_108 : decode cX12_judge 108 = .ok (.iinc 3 1, 3) := by decide +kernel
theorem dX12_judge_111 : decode cX12_judge 111 = .ok (.goto (-77), 3) := by decide +kernel
theorem dX12_judge_114 : decode cX12_judge 114 = .ok (.bipush (-5), 2) := by decide +kernel
theorem dX12_judge_116 : decode cX12_judge 116 = .ok (.ireturn, 1) := by decide +kernel
set_option maxRecDepth 20000 in
theorem ggX12_judge_X12_isTape : GoodIn wsX12_judge wsX12_isTape := goodIn_r _ [8, 9, 10, 7, 11] (by decide +kernel) (by decide +kernel)
set_option maxRecDepth 20000 in
theorem gX12_judge_X12_isTape : GoodIn wsX12_judge (va_wsS RX12 273 yX12_isTape wsX12_isTape) := goodIn_app (goodIn_of _ (by decide +kernel)) ggX12_judge_X12_isTape
set_option maxRecDepth 20000 in
theorem ggX12_judge_X12_of : GoodIn wsX12_judge wsX12_of := goodIn_r _ [15] (by decide +kernel) (by decide +kernel)
set_option maxRecDepth 20000 in
theorem gX12_judge_X12_of : GoodIn wsX12_judge (wsV RX12 118 RX12 yX12_of wsX12_of) := goodIn_app (goodIn_of _ (by decide +kernel)) ggX12_judge_X12_of
def fX12_judge_101 (rec34 : Int32 → Int32 → Int32 → c_G → Option (Int32)) (a1 : Int32) (a2 : Int32) (x1 : Int32) (x2 : Int32) (x3 : Int32) (y0 : Int64) (y1 : Int32) (g : c_G) : Option (Int32) :=
  if (lg_cmp y0 ((y1).toInt64)) = 0 then (c_let (x3 + (1 : Int32)) fun v101002 => rec34 x1 x2 v101002 g) else (some x3)
set_option maxRecDepth 100000 in
set_option maxHeartbeats 4000000 in
theorem jX12_judge_101 {p : Program} {l : Launch} {e : Env} {s : State} {m : MethodId} {below : List Frame} {meth : Method} {c : Code} {D : va_G} {tc : Nat → ClassId} {ad : Nat → Nat} {A : Nat → Prop} {E : (Nat → Nat) × (Nat → Nat) × Nat} {a1 : Int32} {a2 : Int32} {r : Int32} (C : c_C p s m meth c D tc A E RX12 wsX12_judge cX12_judge 6 (some .int) ([.ref (ad 0), .int a1, .int a2] : List Value).toArray) (hD : c_D A ad TM) {rec34 : Int32 → Int32 → Int32 → c_G → Option (Int32)} (hrec34 : ∀ (x1 : Int32) (x2 : Int32) (x3 : Int32) (g : c_G), rec34 x1 x2 x3 g = some r → ∀ (H : Heap) (locs : List Loc), va_P D vwCl (c_ws tc ad TM g) H → va_S A s.heap H locs → ∀ ls : Array Slot, lv_has ls 6 [(0, .ref (ad 0)), (1, .int x1), (2, .int x2), (3, .int x3)] → W p l e (c_rm 2) s m ([.ref (ad 0), .int a1, .int a2] : List Value).toArray below meth c H locs 0 0 (MQ below (va_Qi (fun (x : Int32) (_ : Unit) => x = r) (fun _ t => va_P D vwCl (c_ws tc ad TM g) t.heap) A) ([.ref (ad 0), .int a1, .int a2] : List Value).toArray s 0 0 A) (F0 m 34 ls [])) : ∀ (x1 : Int32) (x2 : Int32) (x3 : Int32) (y0 : Int64) (y1 : Int32) (g : c_G), fX12_judge_101 rec34 a1 a2 x1 x2 x3 y0 y1 g = some r → ∀ (H : Heap) (locs : List Loc), va_P D vwCl (c_ws tc ad TM g) H → va_S A s.heap H locs → ∀ ls : Array Slot, lv_has ls 6 [(0, .ref (ad 0)), (1, .int x1), (2, .int x2), (3, .int x3)] → W p l e (c_rm 2) s m ([.ref (ad 0), .int a1, .int a2] : List Value).toArray below meth c H locs 0 0 (MQ below (va_Qi (fun (x : Int32) (_ : Unit) => x = r) (fun _ t => va_P D vwCl (c_ws tc ad TM g) t.heap) A) ([.ref (ad 0), .int a1, .int a2] : List Value).toArray s 0 0 A) (F0 m 101 ls [.int y1, .long y0]) := by
  obtain ⟨hx, hb, hr, hml, hts, hown, hlk, hK, hE⟩ := id C
  intro x1 x2 x3 y0 y1 g hf H locs hP hS ls hl
  unfold fX12_judge_101 at hf
  refine lv_i2l hx hb dX12_judge_101 rfl ?_
  refine W.lcmp hx hb dX12_judge_102 ?_
  refine lv_if_eq (tgt := 108) hx hb dX12_judge_103 (by decide) (fun c101001 => ?_) (fun c101001 => ?_)
  · have hf := c_it c101001 hf
    obtain ⟨v101002, ev101002, hf⟩ := c_letE hf
    refine lv_iinc (v := v101002) (lv' := [(3, .int v101002), (0, .ref (ad 0)), (1, .int x1), (2, .int x2)]) hx hb dX12_judge_108 hl (k := 3) rfl (by rw [ev101002]; rfl) (by decide) rfl (fun ls hl => ?_)
    refine lv_goto (tgt := 34) hx hb dX12_judge_111 (by decide) ?_
    exact hrec34 x1 x2 v101002 g hf _ _ hP hS _ (lv_sub hl [1, 2, 3, 0] rfl)
  · have hf := c_ie c101001 hf
    refine lv_iload_n hx hb dX12_judge_106 rfl (lv_at hl 3 rfl) ?_
    exact c_iret hx hb hr hlk hP hS rfl ⟨rfl, Option.some.inj hf⟩ dX12_judge_107
def fX12_judge_34  (a1 : Int32) (a2 : Int32) : Nat → Int32 → Int32 → Int32 → c_G → Option (Int32)
  | 0, _, _, _, _ => none
  | n + 1, x1, x2, x3, g => if (6 : Int32) ≤ x3 then (some (-5 : Int32)) else (c_let ((((x2).toInt64) + ((x3).toInt64))) fun v34002 => if x2 < 0 then (some ((100 : Int32) + x3)) else (if c_in (x1) (6) = true then if (lg_cmp v34002 (((g.1 19 (x1).toNatClampNeg)).toInt64)) < 0 then (if c_in ((((60 : Int32) * x1) + ((v34002).toInt32))) (360) = true then (fX12_of g x3 ((1 : Int32))).bind fun r34007 => if r34007 = (-1 : Int32) then (fX12_judge_101 (fX12_judge_34 a1 a2 n) a1 a2 x1 x2 x3 ((g.2.1 20 ((((60 : Int32) * x1) + ((v34002).toInt32))).toNatClampNeg)) ((0 : Int32)) g) else (fX12_judge_101 (fX12_judge_34 a1 a2 n) a1 a2 x1 x2 x3 ((g.2.1 20 ((((60 : Int32) * x1) + ((v34002).toInt32))).toNatClampNeg)) ((1 : Int32)) g) else none) else (some ((100 : Int32) + x3)) else none))
set_option maxRecDepth 100000 in
set_option maxHeartbeats 4000000 in
theorem jX12_judge_34 {p : Program} {l : Launch} {e : Env} {s : State} {m : MethodId} {below : List Frame} {meth : Method} {c : Code} {D : va_G} {tc : Nat → ClassId} {ad : Nat → Nat} {A : Nat → Prop} {E : (Nat → Nat) × (Nat → Nat) × Nat} {a1 : Int32} {a2 : Int32} {r : Int32} (C : c_C p s m meth c D tc A E RX12 wsX12_judge cX12_judge 6 (some .int) ([.ref (ad 0), .int a1, .int a2] : List Value).toArray) (hD : c_D A ad TM)  : ∀ (n : Nat) (x1 : Int32) (x2 : Int32) (x3 : Int32) (g : c_G), fX12_judge_34 a1 a2 n x1 x2 x3 g = some r → ∀ (H : Heap) (locs : List Loc), va_P D vwCl (c_ws tc ad TM g) H → va_S A s.heap H locs → ∀ ls : Array Slot, lv_has ls 6 [(0, .ref (ad 0)), (1, .int x1), (2, .int x2), (3, .int x3)] → W p l e (c_rm 2) s m ([.ref (ad 0), .int a1, .int a2] : List Value).toArray below meth c H locs 0 0 (MQ below (va_Qi (fun (x : Int32) (_ : Unit) => x = r) (fun _ t => va_P D vwCl (c_ws tc ad TM g) t.heap) A) ([.ref (ad 0), .int a1, .int a2] : List Value).toArray s 0 0 A) (F0 m 34 ls []) := by
  obtain ⟨hx, hb, hr, hml, hts, hown, hlk, hK, hE⟩ := id C
  intro n
  induction n with
  | zero =>
    intro x1 x2 x3 g hf
    cases hf
  | succ n ih =>
    intro x1 x2 x3 g hf H locs hP hS ls hl
    unfold fX12_judge_34 at hf
    refine lv_iload_n hx hb dX12_judge_34 rfl (lv_at hl 3 rfl) ?_
    refine lv_bipush (v := (6 : Int32)) hx hb dX12_judge_35 (by decide) ?_
    refine lv_icmp_ge (tgt := 114) hx hb dX12_judge_37 (by decide) (fun c34001 => ?_) (fun c34001 => ?_)
    · have hf := c_it c34001 hf
      refine lv_bipush (v := (-5 : Int32)) hx hb dX12_judge_114 (by decide) ?_
      exact c_iret hx hb hr hlk hP hS rfl ⟨rfl, Option.some.inj hf⟩ dX12_judge_116
    · have hf := c_ie c34001 hf
      refine lv_iload_n hx hb dX12_judge_40 rfl (lv_at hl 2 rfl) ?_
      refine lv_i2l hx hb dX12_judge_41 rfl ?_
      refine lv_iload_n hx hb dX12_judge_42 rfl (lv_at hl 3 rfl) ?_
      refine lv_i2l hx hb dX12_judge_43 rfl ?_
      refine lv_ladd hx hb dX12_judge_44 ?_
      obtain ⟨v34002, ev34002, hf⟩ := c_letE hf
      refine c_topl ev34002 ?_
      refine lv_lstore (lv' := [(4, .long v34002), (0, .ref (ad 0)), (1, .int x1), (2, .int x2), (3, .int x3)]) hx hb dX12_judge_45 hl (by decide) rfl (fun ls hl => ?_)
      refine lv_iload_n hx hb dX12_judge_47 rfl (lv_at hl 3 rfl) ?_
      refine lv_if_lt (tgt := 64) hx hb dX12_judge_48 (by decide) (fun c34003 => ?_) (fun c34003 => ?_)
      · have hf := c_it c34003 hf
        refine lv_bipush (v := (100 : Int32)) hx hb dX12_judge_64 (by decide) ?_
        refine lv_iload_n hx hb dX12_judge_66 rfl (lv_at hl 4 rfl) ?_
        refine lv_iadd hx hb dX12_judge_67 ?_
        exact c_iret hx hb hr hlk hP hS rfl ⟨rfl, Option.some.inj hf⟩ dX12_judge_68
      · have hf := c_ie c34003 hf
        refine lv_lload hx hb dX12_judge_51 (lv_at hl 0 rfl) ?_
        refine lv_aload_n hx hb dX12_judge_53 rfl (lv_at hl 1 rfl) ?_
        refine c_get hx hb hts i_X12_judge_X12 hown hK hP 0 tM0 rfl 29 (by decide) (hts _ (List.mem_of_getElem? (i := 2) rfl)) (fun _ h9 => h9) rfl (v := .ref (ad 19)) rfl dX12_judge_54 ?_
        refine lv_iload_n hx hb dX12_judge_57 rfl (lv_at hl 2 rfl) ?_
        obtain ⟨hi34004, hf⟩ := c_gd hf
        refine c_iald (j := (x1).toNatClampNeg) hx hb hK hP 19 tM19 rfl (c_inV hi34004) dX12_judge_58 ?_
        refine lv_i2l hx hb dX12_judge_59 rfl ?_
        refine W.lcmp hx hb dX12_judge_60 ?_
        refine lv_if_lt (tgt := 69) hx hb dX12_judge_61 (by decide) (fun c34005 => ?_) (fun c34005 => ?_)
        · have hf := c_it c34005 hf
          refine lv_aload_n hx hb dX12_judge_69 rfl (lv_at hl 1 rfl) ?_
          refine c_get hx hb hts i_X12_judge_X12 hown hK hP 0 tM0 rfl 30 (by decide) (hts _ (List.mem_of_getElem? (i := 3) rfl)) (fun _ h9 => h9) rfl (v := .ref (ad 20)) rfl dX12_judge_70 ?_
          refine lv_bipush (v := (60 : Int32)) hx hb dX12_judge_73 (by decide) ?_
          refine lv_iload_n hx hb dX12_judge_75 rfl (lv_at hl 2 rfl) ?_
          refine lv_imul hx hb dX12_judge_76 ?_
          refine lv_lload hx hb dX12_judge_77 (lv_at hl 0 rfl) ?_
          refine lv_l2i hx hb dX12_judge_79 rfl ?_
          refine lv_iadd hx hb dX12_judge_80 ?_
          obtain ⟨hi34006, hf⟩ := c_gd hf
          refine c_lald (j := ((((60 : Int32) * x1) + ((v34002).toInt32))).toNatClampNeg) hx hb hK hP 20 tM20 rfl (c_inV hi34006) dX12_judge_81 ?_
          refine lv_aload_n hx hb dX12_judge_82 rfl (lv_at hl 1 rfl) ?_
          refine lv_aload_n hx hb dX12_judge_83 rfl (lv_at hl 1 rfl) ?_
          refine c_get hx hb hts i_X12_judge_X12 hown hK hP 0 tM0 rfl 0 (by decide) (hts _ (List.mem_of_getElem? (i := 4) rfl)) (fun _ h9 => h9) rfl (v := .ref (ad 1)) rfl dX12_judge_84 ?_
          refine lv_iload_n hx hb dX12_judge_87 rfl (lv_at hl 4 rfl) ?_
          refine lv_iconst (v := (1 : Int32)) hx hb dX12_judge_88 (by decide) ?_
          obtain ⟨r34007, hc34008, hf⟩ := c_bd hf
          refine c_goi (va_runV (As := [.ref (ad 1), .int x3, .int (1 : Int32)]) (rest := [.long (g.2.1 20 ((((60 : Int32) * x1) + ((v34002).toInt32))).toNatClampNeg)]) ⟨hx, hb, hml, hown, hts⟩ (kX12_of hD hc34008) (cwV 3 hts gX12_judge_X12_of rfl rfl rfl (by decide +kernel) ⟨Nat.le_of_ble_eq_true rfl, Nat.le_of_ble_eq_true rfl⟩) (c_preV hK hP hE hS tM0 rfl) rfl rfl hl.1 rfl (lv_room (Nat.le_of_ble_eq_true rfl)) dX12_judge_89 ⟨Nat.zero_le _, Nat.zero_le _⟩) hS (fun H locs hP hS => ?_)
          refine lv_iconst (v := (-1 : Int32)) hx hb dX12_judge_92 (by decide) ?_
          refine lv_icmp_ne (tgt := 100) hx hb dX12_judge_93 (by decide) (fun c34009 => ?_) (fun c34009 => ?_)
          · have hf := c_ie c34009 hf
            refine lv_iconst (v := (1 : Int32)) hx hb dX12_judge_100 (by decide) ?_
            exact jX12_judge_101 C hD ih x1 x2 x3 ((g.2.1 20 ((((60 : Int32) * x1) + ((v34002).toInt32))).toNatClampNeg)) ((1 : Int32)) g hf _ _ hP hS _ (lv_sub hl [1, 2, 3, 4] rfl)
          · have hf := c_it c34009 hf
            refine lv_iconst (v := (0 : Int32)) hx hb dX12_judge_96 (by decide) ?_
            refine lv_goto (tgt := 101) hx hb dX12_judge_97 (by decide) ?_
            exact jX12_judge_101 C hD ih x1 x2 x3 ((g.2.1 20 ((((60 : Int32) * x1) + ((v34002).toInt32))).toNatClampNeg)) ((0 : Int32)) g hf _ _ hP hS _ (lv_sub hl [1, 2, 3, 4] rfl)
        · have hf := c_ie c34005 hf
          refine lv_bipush (v := (100 : Int32)) hx hb dX12_judge_64 (by decide) ?_
          refine lv_iload_n hx hb dX12_judge_66 rfl (lv_at hl 4 rfl) ?_
          refine lv_iadd hx hb dX12_judge_67 ?_
          exact c_iret hx hb hr hlk hP hS rfl ⟨rfl, Option.some.inj hf⟩ dX12_judge_68
def fX12_judge_32  (a1 : Int32) (a2 : Int32) (x1 : Int32) (x2 : Int32) (g : c_G) : Option (Int32) :=
  fX12_judge_34 a1 a2 c_F x1 x2 ((0 : Int32)) g
set_option maxRecDepth 100000 in
set_option maxHeartbeats 4000000 in
theorem jX12_judge_32 {p : Program} {l : Launch} {e : Env} {s : State} {m : MethodId} {below : List Frame} {meth : Method} {c : Code} {D : va_G} {tc : Nat → ClassId} {ad : Nat → Nat} {A : Nat → Prop} {E : (Nat → Nat) × (Nat → Nat) × Nat} {a1 : Int32} {a2 : Int32} {r : Int32} (C : c_C p s m meth c D tc A E RX12 wsX12_judge cX12_judge 6 (some .int) ([.ref (ad 0), .int a1, .int a2] : List Value).toArray) (hD : c_D A ad TM)  : ∀ (x1 : Int32) (x2 : Int32) (g : c_G), fX12_judge_32 a1 a2 x1 x2 g = some r → ∀ (H : Heap) (locs : List Loc), va_P D vwCl (c_ws tc ad TM g) H → va_S A s.heap H locs → ∀ ls : Array Slot, lv_has ls 6 [(0, .ref (ad 0)), (1, .int x1), (2, .int x2)] → W p l e (c_rm 2) s m ([.ref (ad 0), .int a1, .int a2] : List Value).toArray below meth c H locs 0 0 (MQ below (va_Qi (fun (x : Int32) (_ : Unit) => x = r) (fun _ t => va_P D vwCl (c_ws tc ad TM g) t.heap) A) ([.ref (ad 0), .int a1, .int a2] : List Value).toArray s 0 0 A) (F0 m 32 ls []) := by
  obtain ⟨hx, hb, hr, hml, hts, hown, hlk, hK, hE⟩ := id C
  intro x1 x2 g hf H locs hP hS ls hl
  unfold fX12_judge_32 at hf
  refine lv_iconst (v := (0 : Int32)) hx hb dX12_judge_32 (by decide) ?_
  refine lv_istore_n (lv' := [(3, .int (0 : Int32)), (0, .ref (ad 0)), (1, .int x1), (2, .int x2)]) hx hb dX12_judge_33 rfl hl (by decide) rfl (fun ls hl => ?_)
  exact jX12_judge_34 C hD c_F x1 x2 ((0 : Int32)) g hf _ _ hP hS _ (lv_sub hl [1, 2, 3, 0] rfl)
def fX12_judge (g : c_G) (a1 : Int32) (a2 : Int32) : Option (Int32) :=
  if (fX12_isTape a1) = 0 then (some (-1 : Int32)) else (if c_in (a1) (6) = true then if (g.1 18 (a1).toNatClampNeg) = (-1 : Int32) then (fX12_judge_32 a1 a2 a1 a2 g) else (if (g.1 18 (a1).toNatClampNeg) = (4 : Int32) then (fX12_judge_32 a1 a2 a1 a2 g) else (some (-12 : Int32))) else none)
set_option maxRecDepth 100000 in
set_option maxHeartbeats 4000000 in
theorem kX12_judge {l : Launch} {D : va_G} {tc : Nat → ClassId} {ad : Nat → Nat} {A : Nat → Prop} {E : (Nat → Nat) × (Nat → Nat) × Nat} (hD : c_D A ad TM) {a1 : Int32} {a2 : Int32} {g : c_G} {r : Int32} (hf : fX12_judge g a1 a2 = some r) : c_Mi l yX12_judge wsX12_judge (c_rm 2) D tc ad A E TM ([.ref (ad 0), .int a1, .int a2] : List Value) g g r := by
  refine c_ofW (bytes := cX12_judge) (maxL := 6) (ret := (some .int)) (by decide) rfl (Nat.le_of_ble_eq_true rfl) ?_
  intro p e s m below meth c ls C hP hS hl
  unfold fX12_judge at hf
  obtain ⟨hx, hb, hr, hml, hts, hown, hlk, hK, hE⟩ := id C
  have hl : lv_has ls 6 [(0, .ref (ad 0)), (1, .int a1), (2, .int a2)] := hl
  refine lv_iload_n hx hb dX12_judge_0 rfl (lv_at hl 1 rfl) ?_
  refine c_goi (va_runS (As := [.int a1]) (rest := []) ⟨hx, hb, hml, hown, hts⟩ (kX12_isTape (T := TM) (g := g) rfl) (va_cwS 1 hts gX12_judge_X12_isTape rfl rfl rfl (by decide +kernel) ⟨Nat.le_of_ble_eq_true rfl, Nat.le_of_ble_eq_true rfl⟩) (c_preS hK hP hE hS) rfl rfl hl.1 rfl (lv_room (Nat.le_of_ble_eq_true rfl)) dX12_judge_1 ⟨Nat.zero_le _, Nat.zero_le _⟩) hS (fun H locs hP hS => ?_)
  refine lv_if_ne (tgt := 9) hx hb dX12_judge_4 (by decide) (fun c1 => ?_) (fun c1 => ?_)
  · have hf := c_ie c1 hf
    refine lv_aload_n hx hb dX12_judge_9 rfl (lv_at hl 0 rfl) ?_
    refine c_get hx hb hts i_X12_judge_X12 hown hK hP 0 tM0 rfl 28 (by decide) (hts _ (List.mem_of_getElem? (i := 1) rfl)) (fun _ h9 => h9) rfl (v := .ref (ad 18)) rfl dX12_judge_10 ?_
    refine lv_iload_n hx hb dX12_judge_13 rfl (lv_at hl 1 rfl) ?_
    obtain ⟨hi2, hf⟩ := c_gd hf
    refine c_iald (j := (a1).toNatClampNeg) hx hb hK hP 18 tM18 rfl (c_inV hi2) dX12_judge_14 ?_
    refine lv_iconst (v := (-1 : Int32)) hx hb dX12_judge_15 (by decide) ?_
    refine lv_icmp_eq (tgt := 32) hx hb dX12_judge_16 (by decide) (fun c3 => ?_) (fun c3 => ?_)
    · have hf := c_it c3 hf
      exact jX12_judge_32 C hD a1 a2 g hf _ _ hP hS _ (lv_sub hl [0, 1, 2] rfl)
    · have hf := c_ie c3 hf
      refine lv_aload_n hx hb dX12_judge_19 rfl (lv_at hl 0 rfl) ?_
      refine c_get hx hb hts i_X12_judge_X12 hown hK hP 0 tM0 rfl 28 (by decide) (hts _ (List.mem_of_getElem? (i := 1) rfl)) (fun _ h9 => h9) rfl (v := .ref (ad 18)) rfl dX12_judge_20 ?_
      refine lv_iload_n hx hb dX12_judge_23 rfl (lv_at hl 1 rfl) ?_
      refine c_iald (j := (a1).toNatClampNeg) hx hb hK hP 18 tM18 rfl (c_inV hi2) dX12_judge_24 ?_
      refine lv_iconst (v := (4 : Int32)) hx hb dX12_judge_25 (by decide) ?_
      refine lv_icmp_eq (tgt := 32) hx hb dX12_judge_26 (by decide) (fun c4 => ?_) (fun c4 => ?_)
      · have hf := c_it c4 hf
        exact jX12_judge_32 C hD a1 a2 g hf _ _ hP hS _ (lv_sub hl [0, 1, 2] rfl)
      · have hf := c_ie c4 hf
        refine lv_bipush (v := (-12 : Int32)) hx hb dX12_judge_29 (by decide) ?_
        exact c_iret hx hb hr hlk hP hS rfl ⟨rfl, Option.some.inj hf⟩ dX12_judge_31
  · have hf := c_it c1 hf
    refine lv_iconst (v := (-1 : Int32)) hx hb dX12_judge_7 (by decide) ?_
    exact c_iret hx hb hr hlk hP hS rfl ⟨rfl, Option.some.inj hf⟩ dX12_judge_8
